/-! ===== methods that throw ===== -/
def eNS : String := "java/util/NoSuchElementException"
def eNames : List String := ["java/lang/RuntimeException", "java/lang/Exception"]
def eB : List Cond := [.castable eNS eNS, .declares (Bundle.init0 "java/lang/RuntimeException"), .declares (Bundle.init0 "java/lang/Exception"), .declares (Bundle.init0 Bundle.tN)]
theorem th_rest : ∀ w ∈ (vx_at0 RX9 146 eNS eNames).filter (fun w => !goodWord w), w ∈ eB := by decide +kernel
theorem th_ot : ∀ w ∈ Cond.classLink RX9 144 eNS :: Cond.initialized eNS :: vx_at0 RX9 146 eNS eNames, vx_ot w = true := by decide +kernel
theorem th_x0 : ∀ w ∈ (vx_at0 RX9 146 eNS eNames).filter goodWord, w ∈ lw_tbl := by decide +kernel
theorem th_gw : ∀ w ∈ (vx_at0 RX9 146 eNS eNames).filter goodWord, w ∈ gw := fun w h => gw_in (th_x0 w h) (List.mem_filter.mp h).2
theorem th_fit : Bundle.fit eNS = true ∧ ∀ n ∈ eNames, Bundle.fit n = true := by decide +kernel
/-- the words of a throw that warming keeps but no rule of good ones -/
def Thr (U : State) : Prop := ∀ w ∈ eB, va_Nw w U
theorem Thr.warm {s U : State} (hW : s.WarmedH U.vm) (h : Thr s) : Thr U := by
  intro w hw
  have h0 := h w hw
  simp only [eB, List.mem_cons, List.not_mem_nil, or_false] at hw
  rcases hw with rfl | rfl | rfl | rfl
  · exact va_Nw.warmC hW h0
  · exact va_Nw.warmD hW h0
  · exact va_Nw.warmD hW h0
  · exact va_Nw.warmD hW h0
theorem Thr.words {s : State} {args : Array Value} (h : Thr s) : ∀ w ∈ eB, w.before args s = true := by
  intro w hw
  have h0 := h w hw
  simp only [eB, List.mem_cons, List.not_mem_nil, or_false] at hw
  rcases hw with rfl | rfl | rfl | rfl <;> exact va_Nw.use rfl h0
/-! a contract of a method that returns or throws -/
def XCx (ad : Nat → Nat) (D : va_G) (cA : Nat → ClassId) (h : HP) (sz : Nat) (Qt : HP → Prop) : String → State → State → Prop := fun E st t =>
  E = eNS ∧ (∃ h' : HP, Qt h' ∧ h'.1 = h.1 ∧ va_P D vwCl (ws cA ad h') t.heap) ∧ va_F (va_A (ws cA ad h) sz) st t
def MtX (l : Launch) (y : MethodName) (cc : ByteArray) (nL : Nat) (ret : Option FieldType) (f : Nat) (av : List Value) (h : HP) (Q : Option Value → HP → Prop) (Qt : HP → Prop) : Prop :=
  ∀ (D : va_G) (cA : Nat → ClassId) (ad : Nat → Nat) (sz : Nat), vx_Met l y (wsM y cc nL ret) (rmA f 1 6) (va_Pc (av.map (tr ad)) (fun U => Pre ad D cA h sz U ∧ Thr U)) (Post ad D cA h sz Q) (XCx ad D cA h sz Qt) 1 6 (va_A (ws cA ad h) sz)
/-- what a body that may throw owes there -/
def FendX (x : Cx) (h0 : HP) (Q : Option Value → HP → Prop) (Qt : HP → Prop) : Prop := match x with
  | (p, l, e, R, s, m, args, below, meth, c, fin, D, cA, A, ad, kc, ks) => (∀ t, vx_MQ below (Post ad D cA h0 s.heap.size Q) (XCx ad D cA h0 s.heap.size Qt) args s 1 6 A t → fin t) ∧ A = va_A (ws cA ad h0) s.heap.size ∧ Thr s ∧ l.stackTraces = false ∧ (∀ z ∈ c.exceptionTable.toList, False) ∧ kc = 0 ∧ ks = 0 ∧ 1 ≤ R.cells ∧ 6 ≤ R.slots
theorem MtX.of {l : Launch} {y : MethodName} {cc : ByteArray} {nL : Nat} {ret : Option FieldType} {f : Nat} {av : List Value} {h : HP} {Q : Option Value → HP → Prop} {Qt : HP → Prop} (hl0 : l.stackTraces = false) (hy : plainName y.cls = true) (hn : (lg_sl av).length ≤ nL)
    (body : ∀ x : Cx, cxl x = l → Okx x cc y.cls nL f → Fend x h ret Q → FendX x h Q Qt → wp x 0 (lv_args 0 av) [] h) : MtX l y cc nL ret f av h Q Qt := by
  intro D cA ad sz
  refine vx_ofW (cc := cc) (maxL := nL) (ret := ret) hy rfl ?_
  intro p e s m args below meth c s₁ B hml htab hv
  obtain ⟨rfl, ⟨hsz, hP, hK, hD0, hSt⟩, hTh⟩ := hv
  subst hsz
  have hts := atoms_spec (ws := wsM y cc nL ret) B.pre
  have hD := hD0.self (sz := s.heap.size)
  have hW := body (p, l, e, (headSpec (wsM y cc nL ret) (rmA f 1 6)).room, s, m, (av.map (tr ad)).toArray, below, meth, c, vx_MQ below (Post ad D cA h s.heap.size Q) (XCx ad D cA h s.heap.size Qt) (av.map (tr ad)).toArray s 1 6 (va_A (ws cA ad h) s.heap.size), D, cA, va_A (ws cA ad h) s.heap.size, ad, 0, 0) rfl
    ⟨B.exec, B.bytes, findClass_of_methodNamed B.named, hml, fun w hw => hts w (List.mem_cons_of_mem _ hw), hK, fun q hq => Or.inr hq, hSt, B.notSynchronized, Nat.le_refl _, Nat.le_refl _, Nat.zero_le _, Nat.zero_le _⟩ ⟨fun t ht => by
      obtain ⟨o, b1, b2, b3, L, f1, f2⟩ := ht
      refine ⟨o, b1, b2, Or.inl ⟨b3, L, ?_, f2⟩⟩
      exact ⟨f1.1, f1.2.1, f1.2.2.mono (Nat.zero_le _) (Nat.zero_le _)⟩, B.returns, rfl⟩ ⟨fun t ht => ht, rfl, hTh, hl0, htab, rfl, rfl, Nat.le_refl _, Nat.le_refl _⟩
  have hlen := lgsl_len ad av
  have hargs : ∀ (vs : List Value) (i : Nat), lv_args i (vs.map (tr ad)) = trL ad (lv_args i vs) := by
    intro vs
    induction vs with
    | nil => intro i; rfl
    | cons v t ih =>
      intro i
      show (i, tr ad v) :: lv_args (if (tr ad v).category = 2 then i + 2 else i + 1) (t.map (tr ad)) = (i, tr ad v) :: trL ad (lv_args (if v.category = 2 then i + 2 else i + 1) t)
      rw [tr_cat, ih]
  have hl := lv_entry (av.map (tr ad)) (n := nL) (by rw [hlen]; exact hn)
  rw [lg_entry_eq]
  rw [hargs] at hl
  rw [← hml] at hl ⊢
  exact hW s.heap [] _ hP hD va_S.rf hl
section Throw
variable {x : Cx} {cc : ByteArray} {nL f pc : Nat} {L : List (Nat × Value)} {st : List Value} {h h0 : HP}
theorem wp_throw {Q : Option Value → HP → Prop} {Qt : HP → Prop} (ok : Okx x cc RX9 nL f) (hF : FendX x h0 Q Qt) (h1 : h.1 = h0.1) (hq : Qt h) (hf : 6 ≤ f) (d0 : decode cc pc = .ok (.new 144, 3)) (d3 : decode cc (pc + 3) = .ok (.dup, 1)) (d4 : decode cc (pc + 4) = .ok (.invokespecial 146, 3)) (d7 : decode cc (pc + 7) = .ok (.athrow, 1)) : wp x pc L [] h := by
  obtain ⟨p, l, e, R, s, m, args, below, meth, c, fin, D, cA, A, ad, kc, ks⟩ := x
  obtain ⟨hx, hb, hown, hml, hts, hK, hA, hSt, hlk, hfr, hlo, hkc, hks⟩ := ok
  obtain ⟨hF1, hF3, hTh, hl0, htab, rfl, rfl, hR1, hR2⟩ := hF
  intro H locs ls hP hD hS hl
  have hcl : Cond.classLink RX9 144 eNS ∈ gw := gw_t 962 (by decide +kernel) (by decide +kernel)
  have hin : Cond.initialized eNS ∈ gw := gw_t 22 (by decide +kernel) (by decide +kernel)
  have hat : ∀ w ∈ vx_at0 RX9 146 eNS eNames, w.before args s = true := vx_hat (B := eB) (fun w hw => hts w (th_gw w hw)) th_rest hTh.words
  have hSA : va_S A s.heap H locs := hS
  have k : W p l e R s m args below meth c H locs 0 0 (vx_MQ below (Post ad D cA h0 s.heap.size Q) (XCx ad D cA h0 s.heap.size Qt) args s 1 6 A) (F0 m pc ls []) :=
    vx_throw0 (own := RX9) (cls := eNS) (names := eNames) (ik := 144) (ic := 146) (A := A) hx hb hl0 hown th_fit.1 th_fit.2 (hts _ hcl) (hts _ hin) hat th_ot hSt.2.2.2.2.2.1 hSt.2.2.2.2.2.2.1 hS hl.1 d0 d3 d4 d7 (fun z hz => (htab z hz).elim)
      (by show 2 + 3 < R.frames; omega) (by show 0 + (13 * (2 + 1) + 42) ≤ R.locals; omega) (by omega) (by omega) hlk
      (fun t hal hz hk => ⟨rfl, ⟨h, hq, h1, hP.kept (fun k9 x hx => hk x.1 ((hP k9 x hx).lt))⟩, ⟨Nat.le_trans hS.1 hz, fun q g1 g2 => by
        rw [hk q (Nat.lt_of_lt_of_le g1 hS.1)]
        exact hS.2.1 q g1 (by rw [hF3]; exact g2)⟩⟩) hS.2.2 (by omega) (by omega)
  intro T hT X
  obtain ⟨t, a1, b1⟩ := k T hT X
  exact ⟨t, a1, hF1 t b1⟩
end Throw
