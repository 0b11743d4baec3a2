/-! ===== rows of rows; constructors' contracts ===== -/
section Alloc2
variable {x : Cx} {cc : ByteArray} {own : String} {nL f pc : Nat} {L : List (Nat × Value)} {st : List Value} {h : HP} {c n c2 n2 n0 : Nat}
theorem ws_nwM {cA : Nat → ClassId} {ad : Nat → Nat} {h : HP} {N K : Nat} : ws cA ad (nwM h N K) = ws cA ad h ++ ((106, N) :: List.replicate N (102, K)).mapIdx (fun i kn => (ad (i + h.1.length), ent cA ad (nwM h N K) (i + h.1.length) kn)) :=
  ws_app rfl (fun b hb => by
    have hb' : ¬ h.1.length ≤ b := by omega
    exact ⟨if_neg hb', if_neg hb', if_neg hb'⟩)
theorem wp_multi (ok : Okx (cs x c n) cc own nL f) (ok2 : Okx (cs x c2 n2) cc own nL f) (al : Al x n0) (hl : h.1.length = n0 + c) (hk : Nat.blt c 1900 = true) {index N K : Nat} {v w : Int32} (hcl : Cond.classLink own index "[[I" ∈ gw) (ao : AoX x) (harr : Cond.arrayClass .int ∈ gw) (hv : ¬ v < 0) (hw : ¬ w < 0) (hN : v.toNatClampNeg = N) (hK9 : w.toNatClampNeg = K) (hN2 : N ≤ 99) (hK2 : K ≤ 99) (hc2 : c + (1 + N) = c2) (hn2 : n + (N + N * K) = n2) (d : decode cc pc = .ok (.multianewarray index 2, 4)) (kk : wp (cs x c2 n2) (pc + 4) L (.ref h.1.length :: st) (nwM h N K)) : wp (cs x c n) pc L (.int w :: .int v :: st) h := by
  obtain ⟨p, l, e, R, s, m, args, below, meth, c0, fin, D, cA, A, ad, kc, ks⟩ := x
  obtain ⟨hx, hb, hown, hml, hts, hK, hA, hSt, hlk, hfr, hlo, hkc, hks⟩ := (show Okx (p, l, e, R, s, m, args, below, meth, c0, fin, D, cA, A, ad, c, n) cc own nL f from ok)
  obtain ⟨-, -, -, -, -, -, -, -, -, -, -, hkc2, hks2⟩ := (show Okx (p, l, e, R, s, m, args, below, meth, c0, fin, D, cA, A, ad, c2, n2) cc own nL f from ok2)
  have kk' : wp (p, l, e, R, s, m, args, below, meth, c0, fin, D, cA, A, ad, c2, n2) (pc + 4) L (.ref h.1.length :: st) (nwM h N K) := kk
  show wp (p, l, e, R, s, m, args, below, meth, c0, fin, D, cA, A, ad, c, n) pc L (.int w :: .int v :: st) h
  intro H locs ls hP hD hS hl0 T0 hT X
  subst hc2
  subst hN
  subst hK9
  subst hn2
  have hk' : c < 1900 := by simpa [Nat.blt_eq] using hk
  have hsz : H.size = ad h.1.length := by rw [← hT]; exact sz_at X (by rw [hT]; exact hP) al hl (by omega)
  obtain ⟨vm₁, cA', comp, -, fA, fC, hO, -, X', step⟩ := X.multianewarray2F hx hown (hts _ hcl) (va_AOA.use (show Ao s from ao).2) (hts _ harr) (g := F0 m pc ls (.int w :: .int v :: st.map (tr ad))) rfl (by rw [hb]; exact d) rfl hv hw (by omega) (by show w.toNatClampNeg * 4 ≤ _; omega) (by omega) rfl rfl hkc2 (by omega)
  have hc' : cA' = cA 106 := Option.some.inj (fA.symm.trans (hK.2 5 _ rfl).2)
  subst hc'
  have hcm : comp = cA 102 := Option.some.inj (fC.symm.trans (hK.2 1 _ rfl).2)
  subst hcm
  obtain ⟨⟨base, had, hbs⟩, hn0⟩ := al
  have hH : H.size = base + h.1.length := by rw [hsz, had _ (by omega)]
  generalize hF : Jvm.Free.Multi.fill (T0.setVm vm₁) (cA 106) (cA 102) v.toNatClampNeg w.toNatClampNeg (defaultValue .int) v.toNatClampNeg = F at X' step
  have hTh : (T0.setVm vm₁).heap = H := hT
  obtain ⟨f1, f2, -, -⟩ := Jvm.Free.Multi.fill_facts (T0.setVm vm₁) (cA 106) (cA 102) v.toNatClampNeg w.toNatClampNeg (defaultValue .int) v.toNatClampNeg
  rw [hF, hTh] at f1 f2
  have hold : ∀ x : Nat, x < H.size → F.heap[x]? = H[x]? := fun x hx => by
    have := Jvm.Free.Multi.fill_old (T0.setVm vm₁) (cA 106) (cA 102) v.toNatClampNeg w.toNatClampNeg (defaultValue .int) (a := x) (by rw [hTh]; exact hx) v.toNatClampNeg
    rw [hF, hTh] at this
    exact this
  have hrow : ∀ j : Nat, j < v.toNatClampNeg → F.heap[H.size + 1 + j]? = some (vp_cell (cA 102) (w.toNatClampNeg, .inl (fun _ => 0))) := fun j hj => by
    have := Jvm.Free.Multi.fill_inner (T0.setVm vm₁) (cA 106) (cA 102) v.toNatClampNeg w.toNatClampNeg (defaultValue .int) v.toNatClampNeg j hj
    rw [hF, hTh] at this
    rw [this, vp_cell_i, ← arrV_new]
    rfl
  have hout : Jvm.Free.Multi.outerC (cA 106) v.toNatClampNeg H.size v.toNatClampNeg = vp_cell (cA 106) (v.toNatClampNeg, .inr (.inr (.inr (.inr (fun i => if i < v.toNatClampNeg then some (H.size + 1 + i) else none))))) := by
    rw [vp_cell_q]
    exact vr_outer (cA 106) v.toNatClampNeg H.size v.toNatClampNeg
  rw [hout] at f2
  have he0 : ent cA ad (nwM h v.toNatClampNeg w.toNatClampNeg) h.1.length (106, v.toNatClampNeg) = .inl (cA 106, v.toNatClampNeg, .inr (.inr (.inr (.inr (fun i => if i < v.toNatClampNeg then some (H.size + 1 + i) else none))))) := by
    have e3 : (fun j => ((nwM h v.toNatClampNeg w.toNatClampNeg).2.2.2 h.1.length j).map ad) = (fun i => if i < v.toNatClampNeg then some (H.size + 1 + i) else none) := by
      funext j
      by_cases hj : j < v.toNatClampNeg
      · simp [nwM, hj, hH, Nat.add_assoc]
        exact had _ (by omega)
      · simp [nwM, hj]
    simp only [ent, aent]
    rw [e3]
    rfl
  have hej : ∀ j : Nat, ent cA ad (nwM h v.toNatClampNeg w.toNatClampNeg) (j + 1 + h.1.length) (102, w.toNatClampNeg) = .inl (cA 102, w.toNatClampNeg, .inl (fun _ => 0)) := fun j => by
    simp [ent, aent, nwM]
  have hrowj : ∀ (k : Nat) (q : Nat × va_E), (((106, v.toNatClampNeg) :: List.replicate v.toNatClampNeg (102, w.toNatClampNeg)).mapIdx (fun i kn => (ad (i + h.1.length), ent cA ad (nwM h v.toNatClampNeg w.toNatClampNeg) (i + h.1.length) kn)))[k]? = some q → k < 1 + v.toNatClampNeg ∧ q.1 = base + (k + h.1.length) ∧ va_at D vwCl q F.heap := by
    intro k q hq
    rw [List.getElem?_mapIdx] at hq
    cases k with
    | zero =>
      cases hq
      refine ⟨by omega, by show ad (0 + h.1.length) = _; rw [had _ (by omega)], ?_⟩
      simp only [Nat.zero_add]
      rw [he0, ← hsz]
      exact f2
    | succ j =>
      rw [List.getElem?_cons_succ, List.getElem?_replicate] at hq
      by_cases hj : j < v.toNatClampNeg
      · rw [if_pos hj] at hq
        cases hq
        refine ⟨by omega, by show ad (j + 1 + h.1.length) = _; rw [had _ (by omega)], ?_⟩
        show va_at D vwCl (ad (j + 1 + h.1.length), ent cA ad (nwM h v.toNatClampNeg w.toNatClampNeg) (j + 1 + h.1.length) (102, w.toNatClampNeg)) F.heap
        rw [hej, had _ (by omega)]
        show F.heap[base + (j + 1 + h.1.length)]? = _
        rw [show base + (j + 1 + h.1.length) = H.size + 1 + j by omega]
        exact hrow j hj
      · rw [if_neg hj] at hq
        cases hq
  have hA0 : ∀ k : Nat, A (base + (k + h.1.length)) := fun k => hA _ (by have := hS.1; omega)
  obtain ⟨t, a1, b1⟩ := kk' F.heap locs ls (by
      rw [ws_nwM]
      exact (hP.kept (fun k x hx => hold x.1 ((hP k x hx).lt))).app (fun k q hq => (hrowj k q hq).2.2)) (by
      rw [ws_nwM]
      refine ⟨fun i j a b hi hj hab => ?_, fun k q hq => ?_⟩
      · have hwl : (ws cA ad h).length = h.1.length := ws_len
        by_cases h1 : i < (ws cA ad h).length <;> by_cases h2 : j < (ws cA ad h).length
        · rw [List.getElem?_append_left h1] at hi
          rw [List.getElem?_append_left h2] at hj
          exact hD.1 i j a b hi hj hab
        · rw [List.getElem?_append_left h1] at hi
          rw [List.getElem?_append_right (by omega)] at hj
          have q1 := (hP _ _ hi).lt
          have q2 := (hrowj _ _ hj).2.1
          omega
        · rw [List.getElem?_append_right (by omega)] at hi
          rw [List.getElem?_append_left h2] at hj
          have q1 := (hP _ _ hj).lt
          have q2 := (hrowj _ _ hi).2.1
          omega
        · rw [List.getElem?_append_right (by omega)] at hi hj
          have q1 := (hrowj _ _ hi).2.1
          have q2 := (hrowj _ _ hj).2.1
          omega
      · by_cases h1 : k < (ws cA ad h).length
        · rw [List.getElem?_append_left h1] at hq
          exact hD.2 k q hq
        · rw [List.getElem?_append_right (by omega)] at hq
          rw [(hrowj _ _ hq).2.1]
          exact hA0 _) ⟨Nat.le_trans hS.1 (by omega), fun q h1 h2 => (hold q (Nat.lt_of_lt_of_le h1 hS.1)).trans (hS.2.1 q h1 h2), hS.2.2⟩ hl0 F rfl (by
      have e1 : c + (1 + v.toNatClampNeg) = c + 1 + v.toNatClampNeg := by omega
      have e2 : n + (v.toNatClampNeg + v.toNatClampNeg * w.toNatClampNeg) = n + v.toNatClampNeg + v.toNatClampNeg * w.toNatClampNeg := by omega
      rw [e1, e2]
      exact X')
  refine ⟨t, step t ?_, b1⟩
  have e9 : T0.heap.size = ad h.1.length := by rw [hT]; exact hsz
  rw [e9]
  exact a1
/-! a constructor's contract: its cells are new, the world behind it is h1 -/
def rmA (f mc ms : Nat) : Room := { frames := f, cells := mc, slots := ms, locals := 40 * f }
def PostA (ad : Nat → Nat) (D : va_G) (cA : Nat → ClassId) (h h1 : HP) (sz : Nat) : Array Value → State → Outcome → State → Prop := fun _ st oc t => (oc = .returned none ∧ va_P D vwCl (ws cA ad h1) t.heap) ∧ va_F (va_A (ws cA ad h) sz) st t
def MtA (l : Launch) (y : MethodName) (cy : ByteArray) (nLy f mc ms a : Nat) (h h1 : HP) : Prop :=
  ∀ (D : va_G) (cA : Nat → ClassId) (ad : Nat → Nat) (base : Nat), (∀ k : Nat, k < SB → ad k = base + k) → h.1.length + 2000 ≤ SB → Met l y (wsM y cy nLy none) (rmA f mc ms) (va_Pc [.ref (ad a)] (fun U => Pre ad D cA h (base + h.1.length) U ∧ Ao U)) (PostA ad D cA h h1 (base + h.1.length)) mc ms (va_A (ws cA ad h) (base + h.1.length))
def FendA (x : Cx) (h h1 : HP) (mc ms : Nat) : Prop := match x with
  | (p, l, e, R, s, m, args, below, meth, c, fin, D, cA, A, ad, kc, ks) => (∀ t, MQ below (PostA ad D cA h h1 s.heap.size) args s mc ms A t → fin t) ∧ meth.sig.returnType = none ∧ A = va_A (ws cA ad h) s.heap.size
def MyI (y : MethodName) (cy : ByteArray) (nL : Nat) : Prop := (plainFor y = true ∧ y.name = "<init>") ∧ Cond.instanceMethod y ∈ gw ∧ Cond.initialized y.cls ∈ gw ∧ Cond.code y cy nL none ∈ gw ∧ (y.cls ≠ "java/lang/invoke/MethodHandle" ∧ y.cls ≠ "java/lang/invoke/VarHandle") ∧ (parseMethodDescriptor y.desc).map (fun d => d.parameters.length) = some 0
theorem MtA.of {l : Launch} {y : MethodName} {cy : ByteArray} {nLy mc ms a : Nat} {h h1 : HP} (my : MyI y cy nLy) (hn : 1 ≤ nLy)
    (body : ∀ x : Cx, cxl x = l → (∀ c n, c ≤ mc → n ≤ ms → Okx (cs x c n) cy y.cls nLy f) → Al x h.1.length → AoX x → Ini x → FendA x h h1 mc ms → wp (cs x 0 0) 0 [(0, .ref a)] [] h) : MtA l y cy nLy f mc ms a h h1 := by
  intro D cA ad base had hsb
  refine MtW (cc := cy) (maxL := nLy) (ret := none) my.1.1 rfl ?_
  intro p e s m args below meth c s₁ B hml hv
  obtain ⟨rfl, ⟨hsz, hP, hK, hD0, hSt⟩, hao⟩ := hv
  have hts := atoms_spec (ws := wsM y cy nLy none) B.pre
  rw [← hsz] at hSt
  rw [← hsz]
  have hD := hD0.self (sz := s.heap.size)
  have hW := body (p, l, e, (headSpec (wsM y cy nLy none) (rmA f mc ms)).room, s, m, #[.ref (ad a)], below, meth, c, MQ below (PostA ad D cA h h1 s.heap.size) #[.ref (ad a)] s mc ms (va_A (ws cA ad h) s.heap.size), D, cA, va_A (ws cA ad h) s.heap.size, ad, 0, 0) rfl
    (fun c9 n9 hc9 hn9 => ⟨B.exec, B.bytes, findClass_of_methodNamed B.named, hml, fun w hw => hts w (List.mem_cons_of_mem _ hw), hK, fun q hq => Or.inr hq, hSt, B.notSynchronized, Nat.le_refl _, Nat.le_refl _, hc9, hn9⟩) ⟨⟨base, had, hsz⟩, hsb⟩ hao (by
      have h1 : meth.name = "<init>" := (name_of_methodNamed B.named B.method).1.trans my.1.2
      exact h1) ⟨fun t ht => ht, B.returns, rfl⟩
  have hl := lv_entry [Value.ref (ad a)] (n := nLy) (by show 1 ≤ nLy; exact hn)
  rw [lg_entry_eq]
  rw [← hml] at hl ⊢
  exact hW s.heap [] _ hP hD va_S.rf hl
theorem wp_vretA (ok : Okx (cs x c n) cc own nL f) {h0 h1 : HP} (hF : FendA x h0 h1 c n) (he : h = h1) (d : decode cc pc = .ok (.return_, 1)) : wp (cs x c n) pc L [] h := by
  obtain ⟨p, l, e, R, s, m, args, below, meth, c0, fin, D, cA, A, ad, kc, ks⟩ := x
  obtain ⟨hx, hb, hown, hml, hts, hK, hA, hSt, hlk, hfr, hlo, hkc, hks⟩ := (show Okx (p, l, e, R, s, m, args, below, meth, c0, fin, D, cA, A, ad, c, n) cc own nL f from ok)
  obtain ⟨hF1, hF2, hF3⟩ := hF
  show wp (p, l, e, R, s, m, args, below, meth, c0, fin, D, cA, A, ad, c, n) pc L [] h
  intro H locs ls hP hD hS hl
  have k : W p l e R s m args below meth c0 H locs c n (MQ below (PostA ad D cA h0 h1 s.heap.size) args s c n A) (F0 m pc ls []) := W.vret (Qc := PostA ad D cA h0 h1 s.heap.size) (free := A) (ls := ls) hx hb hF2 (fun t ht hW => ⟨⟨rfl, by rw [ht, ← he]; exact hP⟩, by rw [← hF3]; exact hS.F ht⟩) hS.2.2 d hlk
  intro T hT X
  obtain ⟨t, a1, b1⟩ := k T hT X
  exact ⟨t, a1, hF1 t b1⟩
/-- behind a constructor -/
theorem run_goA {p : Program} {l : Launch} {e : Env} {R : Room} {s : State} {m : MethodId} {args : Array Value} {below : List Frame} {meth : Method} {c0 : Code} {fin : State → Prop} {D : va_G} {cA : Nat → ClassId} {A : Nat → Prop} {ad : Nat → Nat} {H : Heap} {locs : List Loc} {ls : Array Slot} {h h1 : HP} {rest stk : List Value} {a9 : Array Value} {mc ms base : Nat}
    (hD : va_D A (ws cA ad h)) (hS : va_S A s.heap H locs) (hA : ∀ q, s.heap.size ≤ q → A q) (hl : lv_has ls c0.maxLocals (trL ad L)) (had : ∀ k : Nat, k < SB → ad k = base + k) (hH : H.size = base + h.1.length) (hl1 : h.1.length ≤ h1.1.length) (hl2 : h1.1.length ≤ SB)
    (run : va_Run p l e R s m args below meth c0 H locs c n mc ms (F0 m pc ls stk) (rest.map (tr ad)) (PostA ad D cA h h1 H.size a9) (va_A (ws cA ad h) H.size))
    (kk : wp (p, l, e, R, s, m, args, below, meth, c0, fin, D, cA, A, ad, c + mc, n + ms) (pc + 3) L rest h1) :
    W p l e R s m args below meth c0 H locs c n fin (F0 m pc ls stk) := by
  intro T hT X
  have hfree : ∀ q, va_A (ws cA ad h) H.size q → A q := by
    intro q hq
    rcases hq with ⟨k, e1, hk⟩ | hq
    · exact hD.2 k (q, e1) hk
    · exact hA q (Nat.le_trans hS.1 hq)
  obtain ⟨v, st₀, t, T', Lc, h0, X', hL, e1, e2, ⟨⟨hoc, hP1⟩, hz, hk⟩, go⟩ := run T hT X
  have hv : v = none := Outcome.returned.inj hoc
  subst hv
  rw [h0] at hz hk
  have hS' : va_S A s.heap T'.heap (locs ++ Lc) := ⟨Nat.le_trans hS.1 (by rw [e1]; exact hz), fun q g1 g2 => by
      rw [e1, hk q (Nat.lt_of_lt_of_le g1 hS.1) (fun z => g2 (hfree q z))]
      exact hS.2.1 q g1 g2, fun q hq => by
      rcases List.mem_append.mp hq with g | g
      · exact hS.2.2 q g
      · exact hfree _ (hL q g)⟩
  have hD1 : va_D A (ws cA ad h1) := by
    have hg : ∀ (k : Nat) (q : Nat × va_E), (ws cA ad h1)[k]? = some q → k < h1.1.length ∧ q.1 = base + k := fun k q hq => by
      have hk1 : k < (ws cA ad h1).length := (List.getElem?_eq_some_iff.mp hq).1
      rw [ws_len] at hk1
      rw [ws_at (List.getElem?_eq_getElem hk1)] at hq
      cases hq
      exact ⟨hk1, had k (by omega)⟩
    refine ⟨fun i j a b hi hj hab => ?_, fun k q hq => ?_⟩
    · have q1 := (hg i a hi).2
      have q2 := (hg j b hj).2
      omega
    · obtain ⟨q1, q2⟩ := hg k q hq
      rw [q2]
      by_cases hk9 : k < h.1.length
      · have := hD.2 k _ (ws_at (cA := cA) (ad := ad) (List.getElem?_eq_getElem hk9))
        have e9 : ad k = base + k := had k (by omega)
        rw [← e9]
        exact this
      · exact hA _ (by have := hS.1; omega)
  obtain ⟨t2, a1, b1⟩ := kk T'.heap (locs ++ Lc) ls (by rw [e1]; exact hP1) hD1 hS' hl T' rfl X'
  exact ⟨t2, go t2 a1, b1⟩
theorem wp_callI (ok : Okx (cs x c n) cc own nL f) (ok2 : Okx (cs x c2 n2) cc own nL f) (al : Al x n0) (ao : AoX x) (hl : h.1.length = n0 + c) (hk : Nat.blt c 1900 = true) {y : MethodName} {cy : ByteArray} {nLy fy index a mc ms : Nat} {rest : List Value} {h1 : HP} (hm : MtA (cxl x) y cy nLy fy mc ms a h h1) (my : MyI y cy nLy) (hlink : Cond.methodLink own index y ∈ gw ∨ ∃ host, (own, index, y, host) ∈ nestM) (hf : fy + 1 ≤ f) (hnL : Nat.ble nLy 21 = true) (hr : Nat.ble (rest.map fun v => v.category).sum 8 = true) (hl1 : h1.1.length = h.1.length + mc) (h9 : h.1.length + 2000 ≤ SB) (hc2 : c + mc = c2) (hn2 : n + ms = n2) (hc3 : Nat.blt c2 1900 = true) (d : decode cc pc = .ok (.invokespecial index, 3))
    (kk : wp (cs x c2 n2) (pc + 3) L rest h1) : wp (cs x c n) pc L (.ref a :: rest) h := by
  have hpre := pre_ok (h := h) ok
  obtain ⟨p, l, e, R, s, m, args, below, meth, c0, fin, D, cA, A, ad, kc, ks⟩ := x
  obtain ⟨hx, hb, hown, hml, hts, hK, hA, hSt, hlk, hfr, hlo, hkc, hks⟩ := (show Okx (p, l, e, R, s, m, args, below, meth, c0, fin, D, cA, A, ad, c, n) cc own nL f from ok)
  obtain ⟨-, -, -, -, -, -, -, -, -, -, -, hkc2, hks2⟩ := (show Okx (p, l, e, R, s, m, args, below, meth, c0, fin, D, cA, A, ad, c2, n2) cc own nL f from ok2)
  obtain ⟨⟨m0, m1⟩, m2, m3, m4, m5, m6⟩ := my
  show wp (p, l, e, R, s, m, args, below, meth, c0, fin, D, cA, A, ad, c, n) pc L (.ref a :: rest) h
  intro H locs ls hP hD hS hl0 T0 hT X
  subst hc2
  subst hn2
  have hnL' := Nat.le_of_ble_eq_true hnL
  have hr' := Nat.le_of_ble_eq_true hr
  have hk' : c < 1900 := by simpa [Nat.blt_eq] using hk
  have hk3 : c + mc < 1900 := by simpa [Nat.blt_eq] using hc3
  have hsz : H.size = ad h.1.length := by rw [← hT]; exact sz_at X (by rw [hT]; exact hP) al hl (by omega)
  obtain ⟨⟨base, had, hbs⟩, hn0⟩ := al
  have hH : H.size = base + h.1.length := by rw [hsz, had _ (by omega)]
  have hp0 := hpre H locs [.ref a] hP hD hS
  have hp : PreS s H (va_Pc [.ref (ad a)] (fun U => Pre ad D cA h H.size U ∧ Ao U)) [.ref (ad a)] := ⟨fun a9 U g mk q => ⟨q.1, (hp0.1 a9 U g mk ⟨q.1, q.2.1⟩).2, Ao.moved (u := U) (U := U.calling g mk a9) (Vm.Alike.refl U.vm) q.2.2⟩, fun U hU hW => ⟨rfl, (hp0.2 U hU hW).2, Ao.moved hW.alike (show Ao s from ao)⟩⟩
  have hM := hm D cA ad base had h9
  rw [← hH] at hM
  have hW0 : 2 * (F0 m pc ls (tr ad (.ref a) :: rest.map (tr ad))).monitorRoom + ((rest.map (tr ad)).map fun v => v.category).sum ≤ 8 := by
    show 2 * 0 + _ ≤ 8
    rw [tr_sum]
    omega
  have hR : (rmA fy mc ms).frames + 1 ≤ R.frames ∧ 8 + (nLy + 11) + (rmA fy mc ms).locals ≤ R.locals := ⟨by show fy + 1 ≤ R.frames; omega, by show 8 + (nLy + 11) + 40 * fy ≤ R.locals; omega⟩
  rcases hlink with hlink | ⟨host, hlink⟩
  · have cw := cwI (R := R) 0 hts (gwC (ret := none) m4) rfl rfl rfl (hts _ m3) (hts _ hlink) (hts _ m2) m1 ⟨m5.1, m5.2, m6⟩ hR
    have run := va_runI (As := []) (rest := rest.map (tr ad)) (g := F0 m pc ls (tr ad (.ref a) :: rest.map (tr ad))) (H := H) (locs := locs) (cells := c) (slots := n) (below := below) (meth := meth) (nL := c0.maxLocals) (e := e) ⟨hx, hb, rfl, hown, hts⟩ hM cw hp rfl rfl hl0.1 rfl hW0 d ⟨hkc2, hks2⟩
    exact run_goA hD hS hA hl0 had hH (by omega) (by omega) run kk T0 hT X
  · have cw : va_CN R s args own index y host cy nLy none (wsM y cy nLy none) (rmA fy mc ms) mc ms 0 := va_cnB 0 hts (gwC (ret := none) m4) rfl rfl rfl (hSt.2.2.1 _ hlink) (hts _ m3) ⟨m5.1, m5.2, m6⟩ hR
    have run := va_runIN (As := []) (rest := rest.map (tr ad)) (g := F0 m pc ls (tr ad (.ref a) :: rest.map (tr ad))) (H := H) (locs := locs) (cells := c) (slots := n) (below := below) (meth := meth) (nL := c0.maxLocals) (e := e) ⟨hx, hb, rfl, hown, hts⟩ hM ⟨cw, m1, hts _ m2⟩ hp rfl rfl hl0.1 rfl hW0 d ⟨hkc2, hks2⟩
    exact run_goA hD hS hA hl0 had hH (by omega) (by omega) run kk T0 hT X
end Alloc2
