/-! ===== calls ===== -/
theorem gw_p {w : Cond} (i : Nat) (h : (k2_sels lw_privs)[i]? = some w) (g : goodWord w = true) : w ∈ gw := gw_in (List.mem_append_left _ (List.mem_of_getElem? h)) g
/-- a method's own words: of a method of an object, of a class -/
def MyV (y : MethodName) (cy : ByteArray) (nL : Nat) (ret : Option FieldType) : Prop := Cond.instanceMethod y ∈ gw ∧ Cond.selects y.cls y y ∈ gw ∧ Cond.initialized y.cls ∈ gw ∧ Cond.code y cy nL ret ∈ gw ∧ (y.cls ≠ "java/lang/invoke/MethodHandle" ∧ y.cls ≠ "java/lang/invoke/VarHandle")
def MyS (y : MethodName) (cy : ByteArray) (nL : Nat) (ret : Option FieldType) : Prop := Cond.static y ∈ gw ∧ Cond.initialized y.cls ∈ gw ∧ Cond.code y cy nL ret ∈ gw ∧ (y.cls ≠ "java/lang/invoke/MethodHandle" ∧ y.cls ≠ "java/lang/invoke/VarHandle")
theorem gwC {y : MethodName} {cy : ByteArray} {nL : Nat} {ret : Option FieldType} (hc : Cond.code y cy nL ret ∈ gw) : GoodIn gw (wsM y cy nL ret) := wsM_good (fun _ h => h) hc
theorem gw1 {w : Cond} {ws : List Cond} (hw : w ∈ gw) (h : GoodIn gw ws) : GoodIn gw (w :: ws) := by
  intro v hv
  rcases List.mem_cons.mp hv with e | e
  · rw [e]; exact ⟨hw, good_of_word (List.mem_filter.mp hw).2⟩
  · exact h v e
/-- what is known of the callee's start -/
theorem pre_ok {x : Cx} {cc : ByteArray} {own : String} {nL f : Nat} {h : HP} (ok : Okx x cc own nL f) : match x with
  | (p, l, e, R, s, m, args, below, meth, c, fin, D, cA, A, ad, kc, ks) => ∀ (H : Heap) (locs : List Loc) (av : List Value), va_P D vwCl (ws cA ad h) H → va_D A (ws cA ad h) → va_S A s.heap H locs → FrameBlind (va_Pc (av.map (tr ad)) (Pre ad D cA h H.size)) ∧ ∀ U : State, U.heap = H → s.WarmedH U.vm → va_Pc (av.map (tr ad)) (Pre ad D cA h H.size) (av.map (tr ad)).toArray U := by
  obtain ⟨p, l, e, R, s, m, args, below, meth, c, fin, D, cA, A, ad, kc, ks⟩ := x
  obtain ⟨hx, hb, hown, hml, hts, hK, hA, hSt, hlk, hfr, hlo, hkc, hks⟩ := ok
  intro H locs av hP hD hS
  refine ⟨fun a U g mk q => ?_, fun U hU hW => ⟨rfl, ?_⟩⟩
  · obtain ⟨q0, q1, q2, q3, q4, q5⟩ := q
    exact ⟨q0, q1, q2, va_K.moved (u := U) (U := U.calling g mk a) (Vm.Alike.refl U.vm) q3, q4, q5.go (U := U.calling g mk a) (fun _ _ _ => rfl) (State.WarmedH.refl U) (fun _ z => z)⟩
  · refine ⟨by rw [hU], by rw [hU]; exact hP, va_K.moved hW.alike hK, hD.weaken (fun _ _ _ _ => trivial), hSt.go (fun a h1 h2 => by rw [hU]; exact hS.2.1 a h1 h2) hW (fun q hq => ?_)⟩
    rcases hq with ⟨k, e1, hk⟩ | hq
    · exact hD.2 k (q, e1) hk
    · exact hA q (Nat.le_trans hS.1 hq)
/-- behind a call -/
theorem run_go {p : Program} {l : Launch} {e : Env} {R : Room} {s : State} {m : MethodId} {args : Array Value} {below : List Frame} {meth : Method} {c : Code} {fin : State → Prop} {D : va_G} {cA : Nat → ClassId} {A : Nat → Prop} {ad : Nat → Nat} {kc ks : Nat} {H : Heap} {locs : List Loc} {ls : Array Slot} {h : HP} {pc : Nat} {L : List (Nat × Value)} {rest st : List Value} {a9 : Array Value} {Q : Option Value → HP → Prop}
    (hD : va_D A (ws cA ad h)) (hS : va_S A s.heap H locs) (hA : ∀ q, s.heap.size ≤ q → A q) (hl : lv_has ls c.maxLocals (trL ad L))
    (run : va_Run p l e R s m args below meth c H locs kc ks 0 0 (F0 m pc ls st) (rest.map (tr ad)) (Post ad D cA h H.size Q a9) (va_A (ws cA ad h) H.size))
    (kk : ∀ (r : Option Value) (h' : HP), Q r h' → h'.1 = h.1 → wp (p, l, e, R, s, m, args, below, meth, c, fin, D, cA, A, ad, kc, ks) (pc + 3) L (r.toList ++ rest) h') :
    W p l e R s m args below meth c H locs kc ks fin (F0 m pc ls st) := by
  intro T hT X
  have hfree : ∀ q, va_A (ws cA ad h) H.size q → A q := by
    intro q hq
    rcases hq with ⟨k, e1, hk⟩ | hq
    · exact hD.2 k (q, e1) hk
    · exact hA q (Nat.le_trans hS.1 hq)
  obtain ⟨v, st₀, t, T', Lc, h0, X', hL, e1, e2, ⟨⟨r, h', hoc, hq, h1, hP1⟩, hz, hk⟩, go⟩ := run T hT X
  have hv : v = r.map (tr ad) := Outcome.returned.inj hoc
  subst hv
  rw [h0] at hz hk
  have hS' : va_S A s.heap T'.heap (locs ++ Lc) := ⟨Nat.le_trans hS.1 (by rw [e1]; exact hz), fun q g1 g2 => by
      rw [e1, hk q (Nat.lt_of_lt_of_le g1 hS.1) (fun z => g2 (hfree q z))]
      exact hS.2.1 q g1 g2, fun q hq => by
      rcases List.mem_append.mp hq with g | g
      · exact hS.2.2 q g
      · exact hfree _ (hL q g)⟩
  have hst : (r.toList ++ rest).map (tr ad) = (r.map (tr ad)).toList ++ rest.map (tr ad) := by cases r <;> rfl
  have k := kk r h' hq h1 T'.heap (locs ++ Lc) ls (by rw [e1]; exact hP1) (va_D_dom h1 hD) hS' hl
  rw [hst] at k
  obtain ⟨t2, a1, b1⟩ := k T' rfl X'
  exact ⟨t2, go t2 a1, b1⟩
section Calls
variable {x : Cx} {cc : ByteArray} {own : String} {nL f pc : Nat} {L : List (Nat × Value)} {st rest : List Value} {h : HP} {y : MethodName} {cy : ByteArray} {nLy fy index n : Nat} {ret : Option FieldType} {As : List Value} {Q : Option Value → HP → Prop}
theorem wp_callV (ok : Okx x cc own nL f) {ci k a : Nat} {T : u_T} {N : Nat} (hm : Mt (cxl x) y cy nLy ret fy (.ref a :: As) h Q) (my : MyV y cy nLy ret) (hlink : Cond.methodLink own index y ∈ gw) (hd : (parseMethodDescriptor y.desc).map (fun d => d.parameters.length) = some n) (hf : fy + 1 ≤ f) (hnL : Nat.ble nLy 21 = true)
    (hc : vwCl[ci]? = some (y.cls, T, N)) (h100 : ci < 100) (ha : h.1[a]? = some (ci, k)) (hn : As.length = n) (hst : st = As.reverse ++ .ref a :: rest) (hr : Nat.ble (rest.map fun v => v.category).sum 8 = true) (d : decode cc pc = .ok (.invokevirtual index, 3))
    (kk : ∀ (r : Option Value) (h' : HP), Q r h' → h'.1 = h.1 → wp x (pc + 3) L (r.toList ++ rest) h') : wp x pc L st h := by
  have hpre := pre_ok (h := h) ok
  obtain ⟨p, l, e, R, s, m, args, below, meth, c, fin, D, cA, A, ad, kc, ks⟩ := x
  obtain ⟨hx, hb, hown, hml, hts, hK, hA, hSt, hlk, hfr, hlo, hkc, hks⟩ := ok
  obtain ⟨m1, m2, m3, m4, m5, m6⟩ := my
  intro H locs ls hP hD hS hl
  have hnL' := Nat.le_of_ble_eq_true hnL
  have he := ws_at (cA := cA) (ad := ad) ha
  rw [ent_obj h100] at he
  have hp := hpre H locs (.ref a :: As) hP hD hS
  have cw : CallW R s args own y.cls index y cy nLy ret (wsM y cy nLy ret) (rmF fy) 0 0 n := cwV n hts (gw1 hlink (gw1 m1 (gw1 m2 (gw1 m3 (gwC m4))))) rfl rfl rfl ⟨rfl, m5, m6, hd⟩ ⟨by show fy + 1 ≤ R.frames; omega, by show 8 + (nLy + 11) + 40 * fy ≤ R.locals; omega⟩
  have run := va_runV (As := As.map (tr ad)) (rest := rest.map (tr ad)) (g := F0 m pc ls (st.map (tr ad))) (H := H) (locs := locs) (cells := kc) (slots := ks) (below := below) (meth := meth) (nL := c.maxLocals) (e := e) ⟨hx, hb, rfl, hown, hts⟩ (hm D cA ad H.size) cw ⟨hp.1, va_recv hK hP hc he, hp.2⟩ rfl (by rw [List.length_map]; exact hn) hl.1 (by rw [hst]; simp [tr]) (by
    show 2 * 0 + _ ≤ 8
    rw [tr_sum]
    have := Nat.le_of_ble_eq_true hr
    omega) d ⟨hkc, hks⟩
  exact run_go hD hS hA hl run kk
theorem wp_callS (ok : Okx x cc own nL f) (hm : Mt (cxl x) y cy nLy ret fy As h Q) (my : MyS y cy nLy ret) (hlink : Cond.methodLink own index y ∈ gw) (hd : (parseMethodDescriptor y.desc).map (fun d => d.parameters.length) = some n) (hf : fy + 1 ≤ f) (hnL : Nat.ble nLy 21 = true)
    (hn : As.length = n) (hst : st = As.reverse ++ rest) (hr : Nat.ble (rest.map fun v => v.category).sum 8 = true) (d : decode cc pc = .ok (.invokestatic index, 3))
    (kk : ∀ (r : Option Value) (h' : HP), Q r h' → h'.1 = h.1 → wp x (pc + 3) L (r.toList ++ rest) h') : wp x pc L st h := by
  have hpre := pre_ok (h := h) ok
  obtain ⟨p, l, e, R, s, m, args, below, meth, c, fin, D, cA, A, ad, kc, ks⟩ := x
  obtain ⟨hx, hb, hown, hml, hts, hK, hA, hSt, hlk, hfr, hlo, hkc, hks⟩ := ok
  obtain ⟨m1, m2, m3, m4, m5⟩ := my
  intro H locs ls hP hD hS hl
  have hnL' := Nat.le_of_ble_eq_true hnL
  have hp := hpre H locs As hP hD hS
  have cw : CallB R s args own index y cy nLy ret (wsM y cy nLy ret) (rmF fy) 0 0 n ∧ (Cond.static y).before args s = true := va_cwS n hts (gw1 hlink (gw1 m1 (gw1 m2 (gwC m3)))) rfl rfl rfl ⟨m4, m5, hd⟩ ⟨by show fy + 1 ≤ R.frames; omega, by show 8 + (nLy + 11) + 40 * fy ≤ R.locals; omega⟩
  have run := va_runS (As := As.map (tr ad)) (rest := rest.map (tr ad)) (g := F0 m pc ls (st.map (tr ad))) (H := H) (locs := locs) (cells := kc) (slots := ks) (below := below) (meth := meth) (nL := c.maxLocals) (e := e) ⟨hx, hb, rfl, hown, hts⟩ (hm D cA ad H.size) cw hp rfl (by rw [List.length_map]; exact hn) hl.1 (by rw [hst]; simp) (by
    show 2 * 0 + _ ≤ 8
    rw [tr_sum]
    have := Nat.le_of_ble_eq_true hr
    omega) d ⟨hkc, hks⟩
  exact run_go hD hS hA hl run kk
/-- a static private method of a nest mate -/
theorem wp_callN (ok : Okx x cc own nL f) {host : String} (hm : Mt (cxl x) y cy nLy ret fy As h Q) (my : MyS y cy nLy ret) (hlink : (own, index, y, host) ∈ nestM) (hd : (parseMethodDescriptor y.desc).map (fun d => d.parameters.length) = some n) (hf : fy + 1 ≤ f) (hnL : Nat.ble nLy 21 = true)
    (hn : As.length = n) (hst : st = As.reverse ++ rest) (hr : Nat.ble (rest.map fun v => v.category).sum 8 = true) (d : decode cc pc = .ok (.invokestatic index, 3))
    (kk : ∀ (r : Option Value) (h' : HP), Q r h' → h'.1 = h.1 → wp x (pc + 3) L (r.toList ++ rest) h') : wp x pc L st h := by
  have hpre := pre_ok (h := h) ok
  obtain ⟨p, l, e, R, s, m, args, below, meth, c, fin, D, cA, A, ad, kc, ks⟩ := x
  obtain ⟨hx, hb, hown, hml, hts, hK, hA, hSt, hlk, hfr, hlo, hkc, hks⟩ := ok
  obtain ⟨m1, m2, m3, m4, m5⟩ := my
  intro H locs ls hP hD hS hl
  have hnL' := Nat.le_of_ble_eq_true hnL
  have hp := hpre H locs As hP hD hS
  have cw : va_CN R s args own index y host cy nLy ret (wsM y cy nLy ret) (rmF fy) 0 0 n := va_cnB n hts (gwC m3) rfl rfl rfl (hSt.2.2.1 _ hlink) (hts _ m2) ⟨m4, m5, hd⟩ ⟨by show fy + 1 ≤ R.frames; omega, by show 8 + (nLy + 11) + 40 * fy ≤ R.locals; omega⟩
  have run := va_runSN (As := As.map (tr ad)) (rest := rest.map (tr ad)) (g := F0 m pc ls (st.map (tr ad))) (H := H) (locs := locs) (cells := kc) (slots := ks) (below := below) (meth := meth) (nL := c.maxLocals) (e := e) ⟨hx, hb, rfl, hown, hts⟩ (hm D cA ad H.size) ⟨cw, hts _ m1, trivial⟩ hp rfl (by rw [List.length_map]; exact hn) hl.1 (by rw [hst]; simp) (by
    show 2 * 0 + _ ≤ 8
    rw [tr_sum]
    have := Nat.le_of_ble_eq_true hr
    omega) d ⟨hkc, hks⟩
  exact run_go hD hS hA hl run kk
end Calls
