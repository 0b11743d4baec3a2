/-! ===== the law's wrappers, that catch ===== -/
def wsH (y : MethodName) (cc : ByteArray) (nL : Nat) (ret : Option FieldType) (hh : List (Nat × Nat × Nat × Nat)) : List Cond := .codeWith y cc nL ret hh :: gw
theorem wsH_good {y : MethodName} {cc : ByteArray} {nL : Nat} {ret : Option FieldType} {hh : List (Nat × Nat × Nat × Nat)} (hc : Cond.codeWith y cc nL ret hh ∈ gw) : GoodIn gw (wsH y cc nL ret hh) := by
  intro w hw
  have h1 : w ∈ gw := by
    rcases List.mem_cons.mp hw with h | h
    · rw [h]; exact hc
    · exact h
  exact ⟨h1, good_of_word (List.mem_filter.mp h1).2⟩
def MtH (l : Launch) (y : MethodName) (cc : ByteArray) (nL : Nat) (ret : Option FieldType) (hh : List (Nat × Nat × Nat × Nat)) (f : Nat) (av : List Value) (h : HP) (Q : Option Value → HP → Prop) : Prop :=
  ∀ (D : va_G) (cA : Nat → ClassId) (ad : Nat → Nat) (sz : Nat), Met l y (wsH y cc nL ret hh) (rmA f 1 6) (va_Pc (av.map (tr ad)) (fun U => Pre ad D cA h sz U ∧ Thr U)) (Post ad D cA h sz Q) 1 6 (va_A (ws cA ad h) sz)
def TabX (x : Cx) (hh : List (Nat × Nat × Nat × Nat)) : Prop := match x with
  | (p, l, e, R, s, m, args, below, meth, c, fin, D, cA, A, ad, kc, ks) => c.exceptionTable.toList = tableOf hh
def ThX (x : Cx) : Prop := match x with
  | (p, l, e, R, s, m, args, below, meth, c, fin, D, cA, A, ad, kc, ks) => Thr s
theorem MtWH {l : Launch} {y : MethodName} {ws ws' : List Cond} {rm : Room} {Pc : Array Value → State → Prop} {Qc : Array Value → State → Outcome → State → Prop} {mc ms : Nat} {free : Addr → Prop} {cc : ByteArray} {maxL : Nat} {ret : Option FieldType} {hh : List (Nat × Nat × Nat × Nat)}
    (hy : plainFor y = true) (hw : ws = Cond.codeWith y cc maxL ret hh :: ws')
    (body : ∀ p e s m args below meth c s₁, BodyLoose p l y (headSpec ws rm) cc maxL ret e s m args below meth c s₁ → c.maxLocals = maxL → Pc args s →
      W p l e (headSpec ws rm).room s m args below meth c s.heap [] 0 0 (MQ below Qc args s mc ms free) (entryFrame m args maxL)) : Met l y ws rm Pc Qc mc ms free := by
  refine MetFree.of_bodySF (code := cc) (maxLocals := maxL) (ret := ret) hy ?_ ?_
  · intro args s m h hn
    obtain ⟨m9, meth, c, hn9, h1, h2, h3, h4, -, h5, h6, -⟩ := Cond.codeWith_spec (atoms_spec (ws := ws) h _ (by rw [hw]; exact List.mem_cons_self))
    cases hn.symm.trans hn9
    exact ⟨meth, c, h1, h2, h3, h4, h5, h6⟩
  · intro p e s m args below meth c s₁ B hml hP _
    have hh0 : s₁.heap = s.heap := by rw [B.state]; rfl
    obtain ⟨t, a1, o, b1, b2, b3⟩ := body p e s m args below meth c s₁ B hml hP s₁ hh0 (Stand.of_body B)
    exact ⟨t, o, a1, b1, b2, ⟨b3.1, b3.2⟩⟩
theorem MtH.of {l : Launch} {y : MethodName} {cc : ByteArray} {nL : Nat} {ret : Option FieldType} {hh : List (Nat × Nat × Nat × Nat)} {f : Nat} {av : List Value} {h : HP} {Q : Option Value → HP → Prop} (hy : plainFor y = true) (hn : (lg_sl av).length ≤ nL)
    (body : ∀ x : Cx, cxl x = l → (∀ c n, c ≤ 1 → n ≤ 6 → Okx (cs x c n) cc y.cls nL f) → Fend (cs x 1 6) h ret Q → TabX x hh → ThX x → wp (cs x 0 0) 0 (lv_args 0 av) [] h) : MtH l y cc nL ret hh f av h Q := by
  intro D cA ad sz
  refine MtWH (cc := cc) (maxL := nL) (ret := ret) hy rfl ?_
  intro p e s m args below meth c s₁ B hml hv
  obtain ⟨rfl, ⟨hsz, hP, hK, hD0, hSt⟩, hTh⟩ := hv
  subst hsz
  have hts := atoms_spec (ws := wsH y cc nL ret hh) B.pre
  have hD := hD0.self (sz := s.heap.size)
  have htab := vx_table (x := y) B (hts _ List.mem_cons_self)
  have hW := body (p, l, e, (headSpec (wsH y cc nL ret hh) (rmA f 1 6)).room, s, m, (av.map (tr ad)).toArray, below, meth, c, MQ below (Post ad D cA h s.heap.size Q) (av.map (tr ad)).toArray s 1 6 (va_A (ws cA ad h) s.heap.size), D, cA, va_A (ws cA ad h) s.heap.size, ad, 0, 0) rfl
    (fun c9 n9 hc9 hn9 => ⟨B.exec, B.bytes, findClass_of_methodNamed B.named, hml, fun w hw => hts w (List.mem_cons_of_mem _ hw), hK, fun q hq => Or.inr hq, hSt, B.notSynchronized, Nat.le_refl _, Nat.le_refl _, hc9, hn9⟩) ⟨fun t ht => ht, B.returns, rfl⟩ htab hTh
  have hlen := lgsl_len ad av
  have hargs : ∀ (vs : List Value) (i : Nat), lv_args i (vs.map (tr ad)) = trL ad (lv_args i vs) := by
    intro vs
    induction vs with
    | nil => intro i; rfl
    | cons v t ih =>
      intro i
      show (i, tr ad v) :: lv_args (if (tr ad v).category = 2 then i + 2 else i + 1) (t.map (tr ad)) = (i, tr ad v) :: trL ad (lv_args (if v.category = 2 then i + 2 else i + 1) t)
      rw [tr_cat, ih]
  have hl := lv_entry (av.map (tr ad)) (n := nL) (by rw [hlen]; exact hn)
  rw [lg_entry_eq]
  rw [hargs] at hl
  rw [← hml] at hl ⊢
  exact hW s.heap [] _ hP hD va_S.rf hl
section Catch
variable {x : Cx} {cc : ByteArray} {own : String} {nL f pc : Nat} {L : List (Nat × Value)} {st rest : List Value} {h : HP} {y : MethodName} {cy : ByteArray} {nLy fy index n : Nat} {ret : Option FieldType} {As : List Value} {Q : Option Value → HP → Prop} {Qt : HP → Prop}
theorem wp_callVX (ok : Okx (cs x 0 0) cc own nL f) (ok2 : Okx (cs x 1 6) cc own nL f) {lo hi ph ct ka ph2 : Nat} (tab : TabX x [(lo, hi, ph, ct)]) (th : ThX x) {ci k a : Nat} {T : u_T} {N : Nat} (hm : MtX (cxl x) y cy nLy ret fy (.ref a :: As) h Q Qt) (my : MyV y cy nLy ret) (hlink : Cond.methodLink own index y ∈ gw) (hd : (parseMethodDescriptor y.desc).map (fun d => d.parameters.length) = some n) (hf : fy + 1 ≤ f) (hnL : Nat.ble nLy 21 = true)
    (hc : vwCl[ci]? = some (y.cls, T, N)) (h100 : ci < 100) (ha : h.1[a]? = some (ci, k)) (hn : As.length = n) (hst : st = As.reverse ++ .ref a :: rest) (hr : Nat.ble (rest.map fun v => v.category).sum 8 = true) (d : decode cc pc = .ok (.invokevirtual index, 3))
    (hcov : covers ⟨lo, hi, ph, ct⟩ pc = true) (hct : ct ≠ 0) (hcl : Cond.classLink own ct eNS ∈ gw) (hka : ka < nL) (hsto : sto1 L ka (.int 0) = (ka, .int 0) :: L) (da : (decode cc ph = .ok (.astore ka, 2) ∧ ph2 = ph + 2) ∨ ∃ kf : Fin 4, kf.val = ka ∧ decode cc ph = .ok (.astore_n kf, 1) ∧ ph2 = ph + 1)
    (kk : ∀ (r : Option Value) (h' : HP), Q r h' → h'.1 = h.1 → wp (cs x 1 6) (pc + 3) L (r.toList ++ rest) h') (kx : ∀ h' : HP, Qt h' → h'.1 = h.1 → wp (cs x 1 6) ph2 L [] h') : wp (cs x 0 0) pc L st h := by
  have hpre := pre_ok (h := h) ok
  obtain ⟨p, l, e, R, s, m, args, below, meth, c, fin, D, cA, A, ad, kc, ks⟩ := x
  obtain ⟨hx, hb, hown, hml, hts, hK, hA, hSt, hlk, hfr, hlo, hkc, hks⟩ := (show Okx (p, l, e, R, s, m, args, below, meth, c, fin, D, cA, A, ad, 0, 0) cc own nL f from ok)
  obtain ⟨-, -, -, -, -, -, -, -, -, -, -, hkc2, hks2⟩ := (show Okx (p, l, e, R, s, m, args, below, meth, c, fin, D, cA, A, ad, 1, 6) cc own nL f from ok2)
  obtain ⟨m1, m2, m3, m4, m5, m6⟩ := my
  show wp (p, l, e, R, s, m, args, below, meth, c, fin, D, cA, A, ad, 0, 0) pc L st h
  intro H locs ls hP hD hS hl
  have hnL' := Nat.le_of_ble_eq_true hnL
  have he := ws_at (cA := cA) (ad := ad) ha
  rw [ent_obj h100] at he
  have hp0 := hpre H locs (.ref a :: As) hP hD hS
  have cw : CallW R s args own y.cls index y cy nLy ret (wsM y cy nLy ret) (rmA fy 1 6) 1 6 n := cwV n hts (gw1 hlink (gw1 m1 (gw1 m2 (gw1 m3 (gwC m4))))) rfl rfl rfl ⟨rfl, m5, m6, hd⟩ ⟨by show fy + 1 ≤ R.frames; omega, by show 8 + (nLy + 11) + 40 * fy ≤ R.locals; omega⟩
  have run := vx_runV (As := As.map (tr ad)) (rest := rest.map (tr ad)) (g := F0 m pc ls (st.map (tr ad))) (H := H) (locs := locs) (cells := 0) (slots := 0) (below := below) (meth := meth) (nL := c.maxLocals) (e := e) ⟨hx, hb, rfl, hown, hts⟩ (hm D cA ad H.size) cw ⟨fun a9 U g mk q => ⟨q.1, (hp0.1 a9 U g mk ⟨q.1, q.2.1⟩).2, Thr.warm (s := U) (U := U.calling g mk a9) (State.WarmedH.refl U) q.2.2⟩, va_recv hK hP hc he, fun U hU hW => ⟨rfl, (hp0.2 U hU hW).2, Thr.warm hW (show Thr s from th)⟩⟩ rfl (by rw [List.length_map]; exact hn) hl.1 (by rw [hst]; simp [tr]) (by
    show 2 * 0 + _ ≤ 8
    rw [tr_sum]
    have := Nat.le_of_ble_eq_true hr
    omega) d ⟨hkc2, hks2⟩
  intro T0 hT X
  have hfree : ∀ q, va_A (ws cA ad h) H.size q → A q := by
    intro q hq
    rcases hq with ⟨k, e1, hk⟩ | hq
    · exact hD.2 k (q, e1) hk
    · exact hA q (Nat.le_trans hS.1 hq)
  have keep : ∀ (t T' : State) (Lc : List Loc) , T'.heap = t.heap → (H.size ≤ t.heap.size ∧ ∀ q : Nat, q < H.size → ¬ va_A (ws cA ad h) H.size q → t.heap[q]? = H[q]?) → (∀ q ∈ Lc, va_A (ws cA ad h) H.size q.base) → va_S A s.heap T'.heap (locs ++ Lc) := fun t T' Lc e1 hk hL => ⟨Nat.le_trans hS.1 (by rw [e1]; exact hk.1), fun q g1 g2 => by
      rw [e1, hk.2 q (Nat.lt_of_lt_of_le g1 hS.1) (fun z => g2 (hfree q z))]
      exact hS.2.1 q g1 g2, fun q hq => by
      rcases List.mem_append.mp hq with g | g
      · exact hS.2.2 q g
      · exact hfree _ (hL q g)⟩
  rcases run T0 hT X with ⟨v, st₀, t, T', Lc, h0, X', hL, e1, e2, ⟨⟨r, h', hoc, hq, h1, hP1⟩, hz, hk⟩, go⟩ | ⟨q, st₀, t, T', Lc, E, ce, h0, X', hL, e1, e2, ⟨hE, ⟨h', hq, h1, hP1⟩, hz, hk⟩, hce, hcv, hcl9, stp⟩
  · have hv : v = r.map (tr ad) := Outcome.returned.inj hoc
    subst hv
    rw [h0] at hz hk
    have hst2 : (r.toList ++ rest).map (tr ad) = (r.map (tr ad)).toList ++ rest.map (tr ad) := by cases r <;> rfl
    have k9 := (show wp (p, l, e, R, s, m, args, below, meth, c, fin, D, cA, A, ad, 1, 6) (pc + 3) L (r.toList ++ rest) h' from kk r h' hq h1) T'.heap (locs ++ Lc) ls (by rw [e1]; exact hP1) (va_D_dom h1 hD) (keep t T' Lc e1 ⟨hz, hk⟩ hL) hl
    rw [hst2] at k9
    obtain ⟨t2, a1, b1⟩ := k9 T' rfl X'
    exact ⟨t2, go t2 a1, b1⟩
  · rw [h0] at hz hk
    subst hE
    have kw := (show wp (p, l, e, R, s, m, args, below, meth, c, fin, D, cA, A, ad, 1, 6) ph2 L [] h' from kx h' hq h1) T'.heap (locs ++ Lc)
    have hfl : (trL ad L).filter (fun q => !(q.1 == ka) && !(q.1 + 1 == ka && q.2.category == 2)) = trL ad L := by
      have e5 := trL_sto1 ad L ka (.int 0)
      rw [hsto] at e5
      exact (List.cons.inj e5).2
    have K : vx_W p l e R s m args below meth c T'.heap (locs ++ Lc) 1 6 fin (F0 m pc ls (rest.map (tr ad))) q := by
      refine vx_catch (name := eNS) (E := eNS) hown [] ⟨lo, hi, ph, ct⟩ [] tab (fun z hz => nomatch hz) hcov hct (hts _ hcl) ((show Thr s from th).words _ (by simp [eB])) (by rw [e1]; exact hce) hcv hcl9 ?_
      rcases da with ⟨da, rfl⟩ | ⟨kf, rfl, da, rfl⟩
      · refine lv_astore hx hb da hl (by rw [hml]; exact hka) (by rw [hfl]) (fun ls' h9 => ?_)
        exact kw ls' (by rw [e1]; exact hP1) (va_D_dom h1 hD) (keep t T' Lc e1 ⟨hz, hk⟩ hL) ⟨h9.1, h9.2.1, fun q hq => h9.2.2 q (List.mem_cons_of_mem _ hq)⟩
      · refine lv_astore_n hx hb da rfl hl (by rw [hml]; exact hka) (by rw [hfl]) (fun ls' h9 => ?_)
        exact kw ls' (by rw [e1]; exact hP1) (va_D_dom h1 hD) (keep t T' Lc e1 ⟨hz, hk⟩ hL) ⟨h9.1, h9.2.1, fun q hq => h9.2.2 q (List.mem_cons_of_mem _ hq)⟩
    obtain ⟨t2, a1, b1⟩ := K T' rfl X'
    exact ⟨t2, stp.trans a1, b1⟩
end Catch
/-! the three wrappers -/
def rE (h : HP) (o : Nat) (rp : Option Int32 × HP) : Int32 × HP := match rp.1 with
  | some v => (0, setJ rp.2 o 0 v.toInt64)
  | none => (1, rp.2)
def rEJ (h : HP) (o : Nat) (rp : Option Int64 × HP) : Int32 × HP := match rp.1 with
  | some v => (0, setJ rp.2 o 0 v)
  | none => (1, rp.2)
