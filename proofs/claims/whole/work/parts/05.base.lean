/-! ===== words: the good ones of the tables, one list for every method ===== -/
def gw : List Cond := lw_tbl.filter goodWord
def wsM (y : MethodName) (cc : ByteArray) (nL : Nat) (ret : Option FieldType) : List Cond := .code y cc nL ret :: gw
theorem gw_in {w : Cond} (h : w ∈ lw_tbl) (g : goodWord w = true) : w ∈ gw := List.mem_filter.mpr ⟨h, g⟩
theorem gw_t {w : Cond} (i : Nat) (h : tables_1[i]? = some w) (g : goodWord w = true) : w ∈ gw := gw_in (List.mem_append_right _ (List.mem_of_getElem? h)) g
theorem wsM_good {Ts : List Cond} {y : MethodName} {cc : ByteArray} {nL : Nat} {ret : Option FieldType} (hT : ∀ w ∈ gw, w ∈ Ts) (hc : Cond.code y cc nL ret ∈ gw) : GoodIn Ts (wsM y cc nL ret) := by
  intro w hw
  have h1 : w ∈ gw := by
    rcases List.mem_cons.mp hw with h | h
    · rw [h]; exact hc
    · exact h
  exact ⟨hT w h1, good_of_word (List.mem_filter.mp h1).2⟩
/-! ===== the abstract heap: shapes (kind, length), ints, longs, references ===== -/
abbrev HP : Type := List (Nat × Nat) × (Nat → Nat → Int32) × (Nat → Nat → Int64) × (Nat → Nat → Option Nat)
def SB : Nat := 1000000
def tr (ad : Nat → Nat) : Value → Value := fun v => match v with
  | .ref k => .ref (ad k)
  | .int i => .int i
  | .long i => .long i
  | .float i => .float i
  | .double i => .double i
  | .null => .null
  | .retAddr i => .retAddr i
def trL (ad : Nat → Nat) (L : List (Nat × Value)) : List (Nat × Value) := L.map (fun q => (q.1, tr ad q.2))
theorem tr_cat (ad : Nat → Nat) (v : Value) : (tr ad v).category = v.category := by cases v <;> rfl
theorem tr_sum (ad : Nat → Nat) (st : List Value) : ((st.map (tr ad)).map fun v => v.category).sum = (st.map fun v => v.category).sum := by
  rw [List.map_map]
  congr 1
  exact List.map_congr_left fun v _ => tr_cat ad v
def lk : List (Nat × Value) → Nat → Option Value
  | [], _ => none
  | q :: t, i => match Nat.beq q.1 i with
    | true => some q.2
    | false => lk t i
theorem lk_mem {L : List (Nat × Value)} {i : Nat} {v : Value} (h : lk L i = some v) : (i, v) ∈ L := by
  induction L with
  | nil => cases h
  | cons q t ih =>
    unfold lk at h
    cases hb : Nat.beq q.1 i with
    | true =>
      rw [hb] at h
      have e1 : q.1 = i := Nat.eq_of_beq_eq_true hb
      have e2 : q.2 = v := Option.some.inj h
      rw [← e1, ← e2]
      exact List.mem_cons_self
    | false =>
      rw [hb] at h
      exact List.mem_cons_of_mem _ (ih h)
theorem lk_at {ad : Nat → Nat} {ls : Array Slot} {n : Nat} {L : List (Nat × Value)} {i : Nat} {v : Value} (h : lv_has ls n (trL ad L)) (hk : lk L i = some v) : ls[i]? = some (.val (tr ad v)) := h.2.2 (i, tr ad v) (List.mem_map.mpr ⟨(i, v), lk_mem hk, rfl⟩)
theorem lk_get {ad : Nat → Nat} {L : List (Nat × Value)} {i : Nat} {v : Value} (hk : lk L i = some v) : ∃ k : Nat, (trL ad L)[k]? = some (i, tr ad v) := List.getElem?_of_mem (List.mem_map.mpr ⟨(i, v), lk_mem hk, rfl⟩)
def sto1 (L : List (Nat × Value)) (i : Nat) (v : Value) : List (Nat × Value) := (i, v) :: L.filter (fun q => !(q.1 == i) && !(q.1 + 1 == i && q.2.category == 2))
def sto2 (L : List (Nat × Value)) (i : Nat) (v : Value) : List (Nat × Value) := (i, v) :: L.filter (fun q => !(q.1 == i) && (!(q.1 == i + 1) && !(q.1 + 1 == i && q.2.category == 2)))
theorem trL_sto1 (ad : Nat → Nat) (L : List (Nat × Value)) (i : Nat) (v : Value) : (i, tr ad v) :: (trL ad L).filter (fun q => !(q.1 == i) && !(q.1 + 1 == i && q.2.category == 2)) = trL ad (sto1 L i v) := by
  show _ = (i, tr ad v) :: (L.filter _).map _
  unfold trL
  rw [List.filter_map]
  congr 3
  funext q
  simp only [Function.comp_apply, tr_cat]
theorem trL_sto2 (ad : Nat → Nat) (L : List (Nat × Value)) (i : Nat) (v : Value) : (i, tr ad v) :: (trL ad L).filter (fun q => !(q.1 == i) && (!(q.1 == i + 1) && !(q.1 + 1 == i && q.2.category == 2))) = trL ad (sto2 L i v) := by
  show _ = (i, tr ad v) :: (L.filter _).map _
  unfold trL
  rw [List.filter_map]
  congr 3
  funext q
  simp only [Function.comp_apply, tr_cat]
/-- of an object of kind k: its slots (0 an int, 1 a long, 2 a reference) -/
def sty : Nat → List Nat := fun k => match k with
  | 0 => [2, 2, 0, 0, 0, 0, 0]
  | 1 => [2, 2, 0]
  | 2 => [2, 2, 2, 0]
  | 3 => [2, 0]
  | 4 => [0]
  | 5 => [2, 0, 0]
  | 6 => [2, 0]
  | 7 => [2, 2, 2, 2, 2, 0, 0, 0, 0]
  | 8 => [2, 0]
  | 9 => [2, 2, 2, 2, 2, 2, 2, 2, 2, 2, 2, 2, 2, 2, 2, 2]
  | 10 => [0, 0, 2, 0, 0, 0, 2, 2, 2, 2, 2, 2, 0, 0, 0, 0, 2, 2, 0, 2, 2, 0, 0, 2, 2, 0, 2, 0, 2, 2, 2, 2, 2, 0, 2, 2, 2, 1, 2, 0, 2, 2, 2, 2, 0, 2, 2, 2]
  | _ => []
def fval (ad : Nat → Nat) (h : HP) (a j t : Nat) : Value := match t with
  | 0 => .int (h.2.1 a j)
  | 1 => .long (h.2.2.1 a j)
  | _ => va_rf ((h.2.2.2 a j).map ad)
def flds (ad : Nat → Nat) (h : HP) (a k : Nat) : List Value := (sty k).mapIdx (fun j t => fval ad h a j t)
/-- kinds: below 100 an object of that class; 101 char[], 102 int[], 103 long[], 104 boolean[], 105 Coast[], 106 int[][] -/
def aent (cA : Nat → ClassId) (ad : Nat → Nat) (h : HP) (a k n : Nat) : va_E := match k with
  | 101 => .inl (cA 101, n, .inl (h.2.1 a))
  | 102 => .inl (cA 102, n, .inl (h.2.1 a))
  | 103 => .inl (cA 103, n, .inr (.inl (h.2.2.1 a)))
  | 104 => .inl (cA 104, n, .inl (h.2.1 a))
  | 105 => .inl (cA 105, n, .inr (.inr (.inr (.inr (fun j => (h.2.2.2 a j).map ad)))))
  | _ => .inl (cA 106, n, .inr (.inr (.inr (.inr (fun j => (h.2.2.2 a j).map ad)))))
def ent (cA : Nat → ClassId) (ad : Nat → Nat) (h : HP) (a : Nat) (kn : Nat × Nat) : va_E := if kn.1 < 100 then .inr (kn.1, flds ad h a kn.1) else aent cA ad h a kn.1 kn.2
def ws (cA : Nat → ClassId) (ad : Nat → Nat) (h : HP) : va_W := h.1.mapIdx (fun a kn => (ad a, ent cA ad h a kn))
theorem ws_at {cA : Nat → ClassId} {ad : Nat → Nat} {h : HP} {a : Nat} {kn : Nat × Nat} (ha : h.1[a]? = some kn) : (ws cA ad h)[a]? = some (ad a, ent cA ad h a kn) := by
  simp [ws, List.getElem?_mapIdx, ha]
theorem ws_set {cA : Nat → ClassId} {ad : Nat → Nat} {h h' : HP} {a : Nat} {kn : Nat × Nat} {e : va_E} (h1 : h'.1 = h.1) (ha : h.1[a]? = some kn) (ho : ∀ (b : Nat) (q : Nat × Nat), b ≠ a → ent cA ad h' b q = ent cA ad h b q) (he : e = ent cA ad h' a kn) : (ws cA ad h).set a (ad a, e) = ws cA ad h' := by
  apply List.ext_getElem?
  intro b
  have hlt : a < h.1.length := (List.getElem?_eq_some_iff.mp ha).1
  rw [List.getElem?_set]
  by_cases hb : a = b
  · subst hb
    rw [if_pos rfl, if_pos (by simpa [ws] using hlt), ws_at (h := h') (kn := kn) (by rw [h1]; exact ha), he]
  · rw [if_neg hb]
    simp only [ws, List.getElem?_mapIdx, h1]
    cases hq : h.1[b]? with
    | none => rfl
    | some q => simp [ho b q (Ne.symm hb)]
def setI (h : HP) (a j : Nat) (v : Int32) : HP := (h.1, va_up h.2.1 a (va_up (h.2.1 a) j v), h.2.2)
def setJ (h : HP) (a j : Nat) (v : Int64) : HP := (h.1, h.2.1, va_up h.2.2.1 a (va_up (h.2.2.1 a) j v), h.2.2.2)
def setR (h : HP) (a j : Nat) (v : Option Nat) : HP := (h.1, h.2.1, h.2.2.1, va_up h.2.2.2 a (va_up (h.2.2.2 a) j v))
theorem ent_cong {cA : Nat → ClassId} {ad : Nat → Nat} {h h' : HP} {b : Nat} (h1 : h'.2.1 b = h.2.1 b) (h2 : h'.2.2.1 b = h.2.2.1 b) (h3 : h'.2.2.2 b = h.2.2.2 b) (q : Nat × Nat) : ent cA ad h' b q = ent cA ad h b q := by
  unfold ent
  have e1 : ∀ k, flds ad h' b k = flds ad h b k := by
    intro k
    unfold flds
    congr 1
    funext j t
    unfold fval
    rw [h1, h2, h3]
  have e2 : ∀ k n, aent cA ad h' b k n = aent cA ad h b k n := by
    intro k n
    unfold aent
    rw [h1, h2, h3]
  rw [e1, e2]
theorem ent_setI {cA : Nat → ClassId} {ad : Nat → Nat} {h : HP} {a j b : Nat} {v : Int32} (hb : b ≠ a) (q : Nat × Nat) : ent cA ad (setI h a j v) b q = ent cA ad h b q := ent_cong (h := h) (h' := setI h a j v) (va_up_ne _ _ hb) rfl rfl q
theorem ent_setJ {cA : Nat → ClassId} {ad : Nat → Nat} {h : HP} {a j b : Nat} {v : Int64} (hb : b ≠ a) (q : Nat × Nat) : ent cA ad (setJ h a j v) b q = ent cA ad h b q := ent_cong (h := h) (h' := setJ h a j v) rfl (va_up_ne _ _ hb) rfl q
theorem ent_setR {cA : Nat → ClassId} {ad : Nat → Nat} {h : HP} {a j b : Nat} {v : Option Nat} (hb : b ≠ a) (q : Nat × Nat) : ent cA ad (setR h a j v) b q = ent cA ad h b q := ent_cong (h := h) (h' := setR h a j v) rfl rfl (va_up_ne _ _ hb) q
theorem flds_get {ad : Nat → Nat} {h : HP} {a k j t : Nat} (ht : (sty k)[j]? = some t) : (flds ad h a k)[j]? = some (fval ad h a j t) := by
  simp [flds, List.getElem?_mapIdx, ht]
theorem flds_len {ad : Nat → Nat} {h : HP} {a k : Nat} : (flds ad h a k).length = (sty k).length := by simp [flds]
theorem flds_setI {ad : Nat → Nat} {h : HP} {a k j : Nat} {v : Int32} (ht : (sty k)[j]? = some 0) : (flds ad h a k).set j (.int v) = flds ad (setI h a j v) a k := by
  apply List.ext_getElem?
  intro i
  have hlt : j < (sty k).length := (List.getElem?_eq_some_iff.mp ht).1
  rw [List.getElem?_set]
  by_cases hi : j = i
  · subst hi
    rw [if_pos rfl, if_pos (by rw [flds_len]; exact hlt), flds_get ht]
    simp [fval, setI, va_up]
  · rw [if_neg hi]
    simp only [flds, List.getElem?_mapIdx]
    cases hq : (sty k)[i]? with
    | none => rfl
    | some t => simp [fval, setI, va_up, Ne.symm hi]
theorem flds_setJ {ad : Nat → Nat} {h : HP} {a k j : Nat} {v : Int64} (ht : (sty k)[j]? = some 1) : (flds ad h a k).set j (.long v) = flds ad (setJ h a j v) a k := by
  apply List.ext_getElem?
  intro i
  have hlt : j < (sty k).length := (List.getElem?_eq_some_iff.mp ht).1
  rw [List.getElem?_set]
  by_cases hi : j = i
  · subst hi
    rw [if_pos rfl, if_pos (by rw [flds_len]; exact hlt), flds_get ht]
    simp [fval, setJ, va_up]
  · rw [if_neg hi]
    simp only [flds, List.getElem?_mapIdx]
    cases hq : (sty k)[i]? with
    | none => rfl
    | some t => simp [fval, setJ, va_up, Ne.symm hi]
theorem flds_setR {ad : Nat → Nat} {h : HP} {a k j b : Nat} (ht : (sty k)[j]? = some 2) : (flds ad h a k).set j (.ref (ad b)) = flds ad (setR h a j (some b)) a k := by
  apply List.ext_getElem?
  intro i
  have hlt : j < (sty k).length := (List.getElem?_eq_some_iff.mp ht).1
  rw [List.getElem?_set]
  by_cases hi : j = i
  · subst hi
    rw [if_pos rfl, if_pos (by rw [flds_len]; exact hlt), flds_get ht]
    simp [fval, setR, va_up, va_rf]
  · rw [if_neg hi]
    simp only [flds, List.getElem?_mapIdx]
    cases hq : (sty k)[i]? with
    | none => rfl
    | some t => simp [fval, setR, va_up, Ne.symm hi]
/-! ===== what nobody writes: String constants, static tables, words of nest mates ===== -/
def strT : List (String × Nat × String × List Int32) := [("ShellsByLoad", 255, "m0", [109, 48]), ("ShellsByLoad", 257, "t01", [116, 48, 49]), ("ShellsByLoad", 259, "b0", [98, 48]), ("ShellsByLoad", 261, "p", [112]), ("ShellsByLoad", 263, "f0", [102, 48]), ("ShellsByLoad", 265, "l0k1", [108, 48, 107, 49]), ("ShellsByLoad", 267, "s0k1", [115, 48, 107, 49]), ("ShellsByLoad", 269, "", []), ("ShellsByLoad$Rule", 87, "ongdmh", [111, 110, 103, 100, 109, 104]), ("ShellsByLoad$Rule", 107, "<>=+-*/", [60, 62, 61, 43, 45, 42, 47]), ("ShellsByLoadModel", 197, "on", [111, 110]), ("ShellsByLoadModel", 216, "ongdmh", [111, 110, 103, 100, 109, 104]), ("ShellsByLoadModel", 221, "<>=", [60, 62, 61]), ("ShellsByLoadModel", 223, "+-", [43, 45]), ("ShellsByLoadModel", 225, "*/", [42, 47]), ("ShellsByLoadModel", 319, "mtbpfls", [109, 116, 98, 112, 102, 108, 115])]
def nestM : List (String × Nat × MethodName × String) := [("ShellsByLoad", 9, ⟨"ShellsByLoad$Text", "<init>", "()V"⟩, "ShellsByLoad"), ("ShellsByLoad", 18, ⟨"ShellsByLoad$Row", "<init>", "()V"⟩, "ShellsByLoad"), ("ShellsByLoad", 25, ⟨"ShellsByLoad$Coast", "<init>", "()V"⟩, "ShellsByLoad"), ("ShellsByLoad", 62, ⟨"ShellsByLoad$Lines", "<init>", "()V"⟩, "ShellsByLoad"), ("ShellsByLoad", 69, ⟨"ShellsByLoad$Heard", "<init>", "()V"⟩, "ShellsByLoad"), ("ShellsByLoad", 76, ⟨"ShellsByLoad$Lot", "<init>", "()V"⟩, "ShellsByLoad"), ("ShellsByLoad$Coast", 71, ⟨"ShellsByLoad", "isKind", "(I)Z"⟩, "ShellsByLoad"), ("ShellsByLoad$Coast", 81, ⟨"ShellsByLoad", "within", "(III)Z"⟩, "ShellsByLoad"), ("ShellsByLoad$Past", 24, ⟨"ShellsByLoad$Coast", "<init>", "()V"⟩, "ShellsByLoad"), ("ShellsByLoad$Rule", 119, ⟨"ShellsByLoad", "put", "(III)I"⟩, "ShellsByLoad"), ("ShellsByLoad$Text", 23, ⟨"ShellsByLoad", "isDigit", "(I)Z"⟩, "ShellsByLoad")]
def nestF : List (String × Nat × String × String × String × String) := [("ShellsByLoad$Rule", 31, "ShellsByLoad", "FIRST_RULE", "[I", "ShellsByLoad")]
def tabT : List (String × List Int32) := [("FIRST_RULE", [1000, 2, 2005, 1001, 2003, 1002, 2006]), ("PLANS", [1, 3, 9, 27, 81, 243, 729])]
def SStr (ad : Nat → Nat) (A : Nat → Prop) (U : State) (i : Nat) (q : String × Nat × String × List Int32) : Prop :=
  vk_R q.1 q.2.1 q.2.2.1 (ad (SB + i)) U ∧ va_O "java/lang/String" (ad (SB + i)) A U U.heap ∧ va_OF "java/lang/String" "coder" "B" (.int 0) (ad (SB + i)) A U U.heap ∧ va_OF "java/lang/String" "value" "[B" (.ref (ad (SB + 100 + i))) (ad (SB + i)) A U U.heap ∧ va_T .byte (ad (SB + 100 + i)) q.2.2.2.length (fun j => .int (q.2.2.2.getD j 0)) A U U.heap
def STab (ad : Nat → Nat) (A : Nat → Prop) (U : State) (i : Nat) (q : String × List Int32) : Prop := va_Z RX9 q.1 "[I" (.ref (ad (SB + 200 + i))) A U U.heap ∧ va_T .int (ad (SB + 200 + i)) q.2.length (fun j => .int (q.2.getD j 0)) A U U.heap
def Sta (ad : Nat → Nat) (A : Nat → Prop) (U : State) : Prop :=
  (∀ (i : Nat) (q : String × Nat × String × List Int32), strT[i]? = some q → SStr ad A U i q) ∧ (∀ (i : Nat) (q : String × List Int32), tabT[i]? = some q → STab ad A U i q) ∧
  (∀ q ∈ nestM, va_Nw (.methodLinkNest q.1 q.2.1 q.2.2.1 q.2.2.2) U) ∧ (∀ q ∈ nestF, va_Nw (.fieldLinkNest q.1 q.2.1 q.2.2.1 q.2.2.2.1 q.2.2.2.2.1 q.2.2.2.2.2) U) ∧
  va_Z "java/lang/String" "COMPACT_STRINGS" "Z" (.int 1) A U U.heap ∧ vx_Zq Bundle.tN "UNASSIGNED_STACK" Bundle.steD A U U.heap ∧ vx_Zq Bundle.tN "SUPPRESSED_SENTINEL" Bundle.listD A U U.heap ∧
  (va_Z "jdk/internal/util/Preconditions" "SIOOBE_FORMATTER" "Ljava/util/function/BiFunction;" .null A U U.heap ∨ va_Z "jdk/internal/util/Preconditions" "SIOOBE_FORMATTER" "Ljava/util/function/BiFunction;" (.ref (ad (SB + 300))) A U U.heap)
theorem Sta.go {ad : Nat → Nat} {A B : Nat → Prop} {s U : State} (h : Sta ad A s) (hq : ∀ a : Nat, a < s.heap.size → ¬ A a → U.heap[a]? = s.heap[a]?) (hW : s.WarmedH U.vm) (hAB : ∀ q, B q → A q) : Sta ad B U := by
  obtain ⟨h1, h2, h3, h4, h5, h6, h7, h8⟩ := h
  have hv := hW.alike
  refine ⟨fun i q hi => ?_, fun i q hi => ?_, fun q hq1 => va_Nw.warmM hW (h3 q hq1), fun q hq1 => va_Nw.warmF hW (h4 q hq1), ?_, ?_, ?_, ?_⟩
  · obtain ⟨a1, a2, a3, a4, a5⟩ := h1 i q hi
    exact ⟨a1.warm hW, ((a2.kept hq).moved hv).narrow hAB, ((a3.kept hq).moved hv).narrow hAB, ((a4.kept hq).moved hv).narrow hAB, ((a5.kept hq).moved hv).narrow hAB⟩
  · obtain ⟨a1, a2⟩ := h2 i q hi
    exact ⟨((a1.kept hq).moved hv).narrow hAB, ((a2.kept hq).moved hv).narrow hAB⟩
  · exact ((h5.kept hq).moved hv).narrow hAB
  · exact ((h6.kept hq).moved hv).narrow hAB
  · exact ((h7.kept hq).moved hv).narrow hAB
  · rcases h8 with h8 | h8
    · exact Or.inl (((h8.kept hq).moved hv).narrow hAB)
    · exact Or.inr (((h8.kept hq).moved hv).narrow hAB)
/-! ===== the judgement ===== -/
def tyL (cA : Nat → ClassId) : List (ClassId × FieldType) := [(cA 101, .char), (cA 102, .int), (cA 103, .long), (cA 104, .boolean), (cA 105, .object RX0), (cA 106, .array .int)]
abbrev Cx : Type := Program × Launch × Env × Room × State × MethodId × Array Value × List Frame × Method × Code × (State → Prop) × va_G × (Nat → ClassId) × (Nat → Prop) × (Nat → Nat) × Nat × Nat
def wp (x : Cx) (pc : Nat) (L : List (Nat × Value)) (st : List Value) (h : HP) : Prop := match x with
  | (p, l, e, R, s, m, args, below, meth, c, fin, D, cA, A, ad, kc, ks) => ∀ (H : Heap) (locs : List Loc) (ls : Array Slot), va_P D vwCl (ws cA ad h) H → va_D A (ws cA ad h) → va_S A s.heap H locs → lv_has ls c.maxLocals (trL ad L) → W p l e R s m args below meth c H locs kc ks fin (F0 m pc ls (st.map (tr ad)))
def Okx (x : Cx) (cc : ByteArray) (own : String) (nL f : Nat) : Prop := match x with
  | (p, l, e, R, s, m, args, below, meth, c, fin, D, cA, A, ad, kc, ks) => p.tables.exec = Jvm.exec ∧ c.code = cc ∧ s.vm.findClass own = some m.cls ∧ c.maxLocals = nL ∧ (∀ w ∈ gw, w.before args s = true) ∧ va_K D vwCl (tyL cA) s ∧ (∀ q, s.heap.size ≤ q → A q) ∧ Sta ad A s ∧ meth.locks = false ∧ f ≤ R.frames ∧ 40 * f ≤ R.locals ∧ kc ≤ R.cells ∧ ks ≤ R.slots
/-! ===== a method's contract over the abstract heap ===== -/
def rmF (f : Nat) : Room := { frames := f, cells := 0, slots := 0, locals := 40 * f }
def Pre (ad : Nat → Nat) (D : va_G) (cA : Nat → ClassId) (h : HP) (sz : Nat) : State → Prop := fun U =>
  U.heap.size = sz ∧ va_P D vwCl (ws cA ad h) U.heap ∧ va_K D vwCl (tyL cA) U ∧ va_D (fun _ => True) (ws cA ad h) ∧ Sta ad (va_A (ws cA ad h) sz) U
def Post (ad : Nat → Nat) (D : va_G) (cA : Nat → ClassId) (h : HP) (sz : Nat) (Q : Option Value → HP → Prop) : Array Value → State → Outcome → State → Prop := fun _ st oc t =>
  (∃ (r : Option Value) (h' : HP), oc = .returned (r.map (tr ad)) ∧ Q r h' ∧ h'.1 = h.1 ∧ va_P D vwCl (ws cA ad h') t.heap) ∧ va_F (va_A (ws cA ad h) sz) st t
def Mt (l : Launch) (y : MethodName) (cc : ByteArray) (nL : Nat) (ret : Option FieldType) (f : Nat) (av : List Value) (h : HP) (Q : Option Value → HP → Prop) : Prop :=
  ∀ (D : va_G) (cA : Nat → ClassId) (ad : Nat → Nat) (sz : Nat), Met l y (wsM y cc nL ret) (rmF f) (va_Pc (av.map (tr ad)) (Pre ad D cA h sz)) (Post ad D cA h sz Q) 0 0 (va_A (ws cA ad h) sz)
/-- the worlds of two heaps of one shape have the same addresses -/
theorem ws_dom {cA : Nat → ClassId} {ad : Nat → Nat} {h h' : HP} (h1 : h'.1 = h.1) {k a : Nat} {e : va_E} (hk : (ws cA ad h')[k]? = some (a, e)) : ∃ e2, (ws cA ad h)[k]? = some (a, e2) := by
  simp only [ws, List.getElem?_mapIdx, h1, Option.map_eq_some_iff] at hk ⊢
  obtain ⟨q, hq, he⟩ := hk
  have he1 : ad k = a := congrArg Prod.fst he
  exact ⟨ent cA ad h k q, q, hq, by rw [he1]⟩
theorem va_D_dom {cA : Nat → ClassId} {ad : Nat → Nat} {h h' : HP} {A : Nat → Prop} (h1 : h'.1 = h.1) (hD : va_D A (ws cA ad h)) : va_D A (ws cA ad h') := by
  refine ⟨fun i j p q hi hj hpq => ?_, fun k q hk => ?_⟩
  · obtain ⟨e1, g1⟩ := ws_dom h1 (a := p.1) (e := p.2) hi
    obtain ⟨e2, g2⟩ := ws_dom h1 (a := q.1) (e := q.2) hj
    exact hD.1 i j _ _ g1 g2 hpq
  · obtain ⟨e1, g1⟩ := ws_dom h1 (a := q.1) (e := q.2) hk
    exact hD.2 k (q.1, e1) g1
theorem va_A_dom {cA : Nat → ClassId} {ad : Nat → Nat} {h h' : HP} {sz q : Nat} (h1 : h'.1 = h.1) (hA : va_A (ws cA ad h') sz q) : va_A (ws cA ad h) sz q := by
  rcases hA with ⟨k, e, hk⟩ | hs
  · obtain ⟨e1, g1⟩ := ws_dom h1 hk
    exact Or.inl ⟨k, e1, g1⟩
  · exact Or.inr hs
/-- what a body owes at its end -/
def Fend (x : Cx) (h0 : HP) (ret : Option FieldType) (Q : Option Value → HP → Prop) : Prop := match x with
  | (p, l, e, R, s, m, args, below, meth, c, fin, D, cA, A, ad, kc, ks) => (∀ t, MQ below (Post ad D cA h0 s.heap.size Q) args s kc ks A t → fin t) ∧ meth.sig.returnType = ret ∧ A = va_A (ws cA ad h0) s.heap.size
def cxl (x : Cx) : Launch := x.2.1
theorem MtW {l : Launch} {y : MethodName} {ws ws' : List Cond} {rm : Room} {Pc : Array Value → State → Prop} {Qc : Array Value → State → Outcome → State → Prop} {mc ms : Nat} {free : Addr → Prop} {cc : ByteArray} {maxL : Nat} {ret : Option FieldType}
    (hy : plainFor y = true) (hw : ws = Cond.code y cc maxL ret :: ws')
    (body : ∀ p e s m args below meth c s₁, BodyLoose p l y (headSpec ws rm) cc maxL ret e s m args below meth c s₁ → c.maxLocals = maxL → Pc args s →
      W p l e (headSpec ws rm).room s m args below meth c s.heap [] 0 0 (MQ below Qc args s mc ms free) (entryFrame m args maxL)) : Met l y ws rm Pc Qc mc ms free := by
  refine MetFree.of_bodySF (code := cc) (maxLocals := maxL) (ret := ret) hy ?_ ?_
  · intro args s m h hn
    obtain ⟨meth, c, h1, h2, h3, h4, h5, h6, -, -⟩ := Cond.code_spec hn (atoms_spec (ws := ws) h _ (by rw [hw]; exact List.mem_cons_self))
    exact ⟨meth, c, h1, h2, h3, h4, h5, h6⟩
  · intro p e s m args below meth c s₁ B hml hP _
    have hh0 : s₁.heap = s.heap := by rw [B.state]; rfl
    obtain ⟨t, a1, o, b1, b2, b3⟩ := body p e s m args below meth c s₁ B hml hP s₁ hh0 (Stand.of_body B)
    exact ⟨t, o, a1, b1, b2, ⟨b3.1, b3.2⟩⟩
theorem lgsl_len (ad : Nat → Nat) (av : List Value) : (lg_sl (av.map (tr ad))).length = (lg_sl av).length := by
  unfold lg_sl
  induction av with
  | nil => rfl
  | cons v t ih =>
    simp only [List.map_cons, List.flatMap_cons, List.length_append, tr_cat]
    rw [ih]
    split <;> rfl
theorem Mt.of {l : Launch} {y : MethodName} {cc : ByteArray} {nL : Nat} {ret : Option FieldType} {f : Nat} {av : List Value} {h : HP} {Q : Option Value → HP → Prop} (hy : plainFor y = true) (hn : (lg_sl av).length ≤ nL)
    (body : ∀ x : Cx, cxl x = l → Okx x cc y.cls nL f → Fend x h ret Q → wp x 0 (lv_args 0 av) [] h) : Mt l y cc nL ret f av h Q := by
  intro D cA ad sz
  refine MtW (cc := cc) (maxL := nL) (ret := ret) hy rfl ?_
  intro p e s m args below meth c s₁ B hml hv
  obtain ⟨rfl, hsz, hP, hK, hD0, hSt⟩ := hv
  subst hsz
  have hts := atoms_spec (ws := wsM y cc nL ret) B.pre
  have hD := hD0.self (sz := s.heap.size)
  have hW := body (p, l, e, (headSpec (wsM y cc nL ret) (rmF f)).room, s, m, (av.map (tr ad)).toArray, below, meth, c, MQ below (Post ad D cA h s.heap.size Q) (av.map (tr ad)).toArray s 0 0 (va_A (ws cA ad h) s.heap.size), D, cA, va_A (ws cA ad h) s.heap.size, ad, 0, 0) rfl
    ⟨B.exec, B.bytes, findClass_of_methodNamed B.named, hml, fun w hw => hts w (List.mem_cons_of_mem _ hw), hK, fun q hq => Or.inr hq, hSt, B.notSynchronized, Nat.le_refl _, Nat.le_refl _, Nat.zero_le _, Nat.zero_le _⟩ ⟨fun t ht => ht, B.returns, rfl⟩
  have hlen := lgsl_len ad av
  have hargs : ∀ (vs : List Value) (i : Nat), lv_args i (vs.map (tr ad)) = trL ad (lv_args i vs) := by
    intro vs
    induction vs with
    | nil => intro i; rfl
    | cons v t ih =>
      intro i
      show (i, tr ad v) :: lv_args (if (tr ad v).category = 2 then i + 2 else i + 1) (t.map (tr ad)) = (i, tr ad v) :: trL ad (lv_args (if v.category = 2 then i + 2 else i + 1) t)
      rw [tr_cat, ih]
  have hl := lv_entry (av.map (tr ad)) (n := nL) (by rw [hlen]; exact hn)
  rw [lg_entry_eq]
  rw [hargs] at hl
  rw [← hml] at hl ⊢
  exact hW s.heap [] _ hP hD va_S.rf hl
