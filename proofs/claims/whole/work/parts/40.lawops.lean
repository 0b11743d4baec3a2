/-! ===== the law: what its walk stands on ===== -/
def S0 : List (Nat × Nat) := (nw zX10_init_L (103, 1)).1
theorem S0_0 : S0[0]? = some (9, 16) := by decide +kernel
theorem S0_188 : S0[188]? = some (10, 48) := by decide +kernel
theorem S0_219 : S0[219]? = some (103, 1) := by decide +kernel
theorem lcmp_eq {a b : Int64} (h : a = b) : lg_cmp a b = 0 := by subst h; simp [lg_cmp]
def ScX (x : Cx) (Ln : Nat) (xs : Nat → Int32) : Prop := match x with
  | (p, l, e, R, s, m, args, below, meth, c, fin, D, cA, A, ad, kc, ks) => va_X (ad (SB + 400)) Ln xs s s.heap ∧ ad (SB + 400) < s.heap.size ∧ ¬ A (ad (SB + 400))
def MyH (y : MethodName) (cy : ByteArray) (nL : Nat) (ret : Option FieldType) (hh : List (Nat × Nat × Nat × Nat)) : Prop := Cond.static y ∈ gw ∧ Cond.initialized y.cls ∈ gw ∧ Cond.codeWith y cy nL ret hh ∈ gw ∧ (y.cls ≠ "java/lang/invoke/MethodHandle" ∧ y.cls ≠ "java/lang/invoke/VarHandle")
section LawR
variable {x : Cx} {cc : ByteArray} {own : String} {nL f pc c n Ln : Nat} {L : List (Nat × Value)} {st : List Value} {h : HP} {xs : Nat → Int32}
theorem wp_sld (ok : Okx (cs x c n) cc own nL f) (sc : ScX x Ln xs) {i : Int32} (hin : vp_in i Ln) (d : decode cc pc = .ok (.iaload, 1)) (kk : wp (cs x c n) (pc + 1) L (.int (xs i.toNatClampNeg) :: st) h) : wp (cs x c n) pc L (.int i :: .ref (SB + 400) :: st) h := by
  obtain ⟨p, l, e, R, s, m, args, below, meth, c0, fin, D, cA, A, ad, kc, ks⟩ := x
  obtain ⟨hx, hb, hown, hml, hts, hK, hA, hSt, hlk, hfr, hlo, hkc, hks⟩ := (show Okx (p, l, e, R, s, m, args, below, meth, c0, fin, D, cA, A, ad, c, n) cc own nL f from ok)
  obtain ⟨s1, s2, s3⟩ := sc
  show wp (p, l, e, R, s, m, args, below, meth, c0, fin, D, cA, A, ad, c, n) pc L (.int i :: .ref (SB + 400) :: st) h
  intro H locs ls hP hD hS hl
  exact va_sld hx hb s1 s2 s3 hS hin d ((show wp (p, l, e, R, s, m, args, below, meth, c0, fin, D, cA, A, ad, c, n) (pc + 1) L (.int (xs i.toNatClampNeg) :: st) h from kk) H locs ls hP hD hS hl)
theorem wp_xlen (ok : Okx (cs x c n) cc own nL f) (sc : ScX x Ln xs) (d : decode cc pc = .ok (.arraylength, 1)) (kk : wp (cs x c n) (pc + 1) L (.int (Int32.ofNat Ln) :: st) h) : wp (cs x c n) pc L (.ref (SB + 400) :: st) h := by
  obtain ⟨p, l, e, R, s, m, args, below, meth, c0, fin, D, cA, A, ad, kc, ks⟩ := x
  obtain ⟨hx, hb, hown, hml, hts, hK, hA, hSt, hlk, hfr, hlo, hkc, hks⟩ := (show Okx (p, l, e, R, s, m, args, below, meth, c0, fin, D, cA, A, ad, c, n) cc own nL f from ok)
  obtain ⟨s1, s2, s3⟩ := sc
  show wp (p, l, e, R, s, m, args, below, meth, c0, fin, D, cA, A, ad, c, n) pc L (.ref (SB + 400) :: st) h
  intro H locs ls hP hD hS hl
  exact va_slen hx hb s1 s2 s3 hS d ((show wp (p, l, e, R, s, m, args, below, meth, c0, fin, D, cA, A, ad, c, n) (pc + 1) L (.int (Int32.ofNat Ln) :: st) h from kk) H locs ls hP hD hS hl)
theorem wp_widen {c2 n2 : Nat} (hc : c ≤ c2) (hn : n ≤ n2) (kk : wp (cs x c2 n2) pc L st h) : wp (cs x c n) pc L st h := by
  obtain ⟨p, l, e, R, s, m, args, below, meth, c0, fin, D, cA, A, ad, kc, ks⟩ := x
  show wp (p, l, e, R, s, m, args, below, meth, c0, fin, D, cA, A, ad, c, n) pc L st h
  intro H locs ls hP hD hS hl
  exact W.widen hc hn ((show wp (p, l, e, R, s, m, args, below, meth, c0, fin, D, cA, A, ad, c2, n2) pc L st h from kk) H locs ls hP hD hS hl)
/-- a static call of a method with handlers, that makes a cell of six -/
theorem wp_callSH (ok : Okx (cs x c n) cc own nL f) (ok2 : Okx (cs x (c + 1) (n + 6)) cc own nL f) (th : ThX x) {y : MethodName} {cy : ByteArray} {nLy fy index na : Nat} {ret : Option FieldType} {hh : List (Nat × Nat × Nat × Nat)} {As : List Value} {v : Int32} {h1 : HP} (hm : MtH (cxl x) y cy nLy ret hh fy As h (QI v h1)) (my : MyH y cy nLy ret hh) (hlink : Cond.methodLink own index y ∈ gw) (hd : (parseMethodDescriptor y.desc).map (fun d => d.parameters.length) = some na) (hf : fy + 1 ≤ f) (hnL : Nat.ble nLy 21 = true)
    (hn : As.length = na) (hst : st = As.reverse) (d : decode cc pc = .ok (.invokestatic index, 3)) (kk : h1.1 = h.1 → wp (cs x (c + 1) (n + 6)) (pc + 3) L [.int v] h1) : wp (cs x c n) pc L st h := by
  have hpre := pre_ok (h := h) ok
  obtain ⟨p, l, e, R, s, m, args, below, meth, c0, fin, D, cA, A, ad, kc, ks⟩ := x
  obtain ⟨hx, hb, hown, hml, hts, hK, hA, hSt, hlk, hfr, hlo, hkc, hks⟩ := (show Okx (p, l, e, R, s, m, args, below, meth, c0, fin, D, cA, A, ad, c, n) cc own nL f from ok)
  obtain ⟨-, -, -, -, -, -, -, -, -, -, -, hkc2, hks2⟩ := (show Okx (p, l, e, R, s, m, args, below, meth, c0, fin, D, cA, A, ad, c + 1, n + 6) cc own nL f from ok2)
  obtain ⟨m1, m2, m3, m4, m5⟩ := my
  show wp (p, l, e, R, s, m, args, below, meth, c0, fin, D, cA, A, ad, c, n) pc L st h
  intro H locs ls hP hD hS hl
  have hnL' := Nat.le_of_ble_eq_true hnL
  have hp0 := hpre H locs As hP hD hS
  have cw : vx_CSW R s args own index y cy nLy ret hh (wsH y cy nLy ret hh) (rmA fy 1 6) 1 6 na := vx_cwSW na hts (gw1 hlink (gw1 m1 (gw1 m2 (wsH_good m3)))) rfl rfl rfl ⟨m4, m5, hd⟩ ⟨by show fy + 1 ≤ R.frames; omega, by show 8 + (nLy + 11) + 40 * fy ≤ R.locals; omega⟩
  have run := vx_runSW (As := As.map (tr ad)) (rest := []) (g := F0 m pc ls (st.map (tr ad))) (H := H) (locs := locs) (cells := c) (slots := n) (below := below) (meth := meth) (nL := c0.maxLocals) (e := e) ⟨hx, hb, rfl, hown, hts⟩ (hm D cA ad H.size) cw ⟨fun a9 U g mk q => ⟨q.1, (hp0.1 a9 U g mk ⟨q.1, q.2.1⟩).2, Thr.warm (s := U) (U := U.calling g mk a9) (State.WarmedH.refl U) q.2.2⟩, fun U hU hW => ⟨rfl, (hp0.2 U hU hW).2, Thr.warm hW (show Thr s from th)⟩⟩ rfl (by rw [List.length_map]; exact hn) hl.1 (by rw [hst]; simp) (by show 2 * 0 + 0 ≤ 8; omega) d ⟨hkc2, hks2⟩
  intro T hT X
  have hfree : ∀ q, va_A (ws cA ad h) H.size q → A q := by
    intro q hq
    rcases hq with ⟨k, e1, hk⟩ | hq
    · exact hD.2 k (q, e1) hk
    · exact hA q (Nat.le_trans hS.1 hq)
  obtain ⟨v9, st₀, t, T', Lc, h0, X', hL, e1, e2, ⟨⟨r, h', hoc, ⟨hr, hh1⟩, h1', hP1⟩, hz, hk⟩, go⟩ := run T hT X
  have hv : v9 = r.map (tr ad) := Outcome.returned.inj hoc
  subst hv
  subst hr
  subst hh1
  rw [h0] at hz hk
  have hS' : va_S A s.heap T'.heap (locs ++ Lc) := ⟨Nat.le_trans hS.1 (by rw [e1]; exact hz), fun q g1 g2 => by
      rw [e1, hk q (Nat.lt_of_lt_of_le g1 hS.1) (fun z => g2 (hfree q z))]
      exact hS.2.1 q g1 g2, fun q hq => by
      rcases List.mem_append.mp hq with g | g
      · exact hS.2.2 q g
      · exact hfree _ (hL q g)⟩
  obtain ⟨t2, a1, b1⟩ := (show wp (p, l, e, R, s, m, args, below, meth, c0, fin, D, cA, A, ad, c + 1, n + 6) (pc + 3) L [.int v] h' from kk h1') T'.heap (locs ++ Lc) ls (by rw [e1]; exact hP1) (va_D_dom h1' hD) hS' hl T' rfl X'
  exact ⟨t2, go t2 a1, b1⟩
end LawR
theorem my_X10_sign : MyV yX10_sign cX10_sign 3 (some (.int)) := ⟨gw_t 1193 (by decide +kernel) (by decide +kernel), gw_t 1194 (by decide +kernel) (by decide +kernel), gw_t 12 (by decide +kernel) (by decide +kernel), gw_t 1195 (by decide +kernel) (by decide +kernel), by decide +kernel, by decide +kernel⟩
theorem pd_X10_sign : (parseMethodDescriptor yX10_sign.desc).map (fun d => d.parameters.length) = some 1 := by decide +kernel
theorem my_X9_sign : MyV yX9_sign cX9_sign 2 (some (.int)) := ⟨gw_t 286 (by decide +kernel) (by decide +kernel), gw_t 287 (by decide +kernel) (by decide +kernel), gw_t 1 (by decide +kernel) (by decide +kernel), gw_t 288 (by decide +kernel) (by decide +kernel), by decide +kernel, by decide +kernel⟩
theorem pd_X9_sign : (parseMethodDescriptor yX9_sign.desc).map (fun d => d.parameters.length) = some 1 := by decide +kernel
theorem lk285 : Cond.methodLink RL 26 yX9_sign ∈ gw := gw_t 285 (by decide +kernel) (by decide +kernel)
theorem lk1192 : Cond.methodLink RL 30 yX10_sign ∈ gw := gw_t 1192 (by decide +kernel) (by decide +kernel)
theorem my_X10_end : MyV yX10_end cX10_end 2 (some (.boolean)) := ⟨gw_t 1197 (by decide +kernel) (by decide +kernel), gw_t 1198 (by decide +kernel) (by decide +kernel), gw_t 12 (by decide +kernel) (by decide +kernel), gw_t 1199 (by decide +kernel) (by decide +kernel), by decide +kernel, by decide +kernel⟩
theorem pd_X10_end : (parseMethodDescriptor yX10_end.desc).map (fun d => d.parameters.length) = some 1 := by decide +kernel
theorem my_X9_end : MyV yX9_end cX9_end 2 (some (.boolean)) := ⟨gw_t 294 (by decide +kernel) (by decide +kernel), gw_t 295 (by decide +kernel) (by decide +kernel), gw_t 1 (by decide +kernel) (by decide +kernel), gw_t 296 (by decide +kernel) (by decide +kernel), by decide +kernel, by decide +kernel⟩
theorem pd_X9_end : (parseMethodDescriptor yX9_end.desc).map (fun d => d.parameters.length) = some 1 := by decide +kernel
theorem lk293 : Cond.methodLink RL 31 yX9_end ∈ gw := gw_t 293 (by decide +kernel) (by decide +kernel)
theorem lk1196 : Cond.methodLink RL 35 yX10_end ∈ gw := gw_t 1196 (by decide +kernel) (by decide +kernel)
theorem my_X10_markets : MyV yX10_markets cX10_markets 7 (some (.int)) := ⟨gw_t 1204 (by decide +kernel) (by decide +kernel), gw_t 1205 (by decide +kernel) (by decide +kernel), gw_t 12 (by decide +kernel) (by decide +kernel), gw_t 1206 (by decide +kernel) (by decide +kernel), by decide +kernel, by decide +kernel⟩
theorem pd_X10_markets : (parseMethodDescriptor yX10_markets.desc).map (fun d => d.parameters.length) = some 0 := by decide +kernel
theorem my_X9_markets : MyV yX9_markets cX9_markets 3 (some (.int)) := ⟨gw_t 302 (by decide +kernel) (by decide +kernel), gw_t 303 (by decide +kernel) (by decide +kernel), gw_t 1 (by decide +kernel) (by decide +kernel), gw_t 304 (by decide +kernel) (by decide +kernel), by decide +kernel, by decide +kernel⟩
theorem pd_X9_markets : (parseMethodDescriptor yX9_markets.desc).map (fun d => d.parameters.length) = some 0 := by decide +kernel
theorem lk301 : Cond.methodLink RL 36 yX9_markets ∈ gw := gw_t 301 (by decide +kernel) (by decide +kernel)
theorem lk1203 : Cond.methodLink RL 40 yX10_markets ∈ gw := gw_t 1203 (by decide +kernel) (by decide +kernel)
theorem my_X10_ships : MyV yX10_ships cX10_ships 5 (some (.int)) := ⟨gw_t 1242 (by decide +kernel) (by decide +kernel), gw_t 1243 (by decide +kernel) (by decide +kernel), gw_t 12 (by decide +kernel) (by decide +kernel), gw_t 1244 (by decide +kernel) (by decide +kernel), by decide +kernel, by decide +kernel⟩
theorem pd_X10_ships : (parseMethodDescriptor yX10_ships.desc).map (fun d => d.parameters.length) = some 0 := by decide +kernel
theorem my_X9_ships : MyV yX9_ships cX9_ships 3 (some (.int)) := ⟨gw_t 345 (by decide +kernel) (by decide +kernel), gw_t 346 (by decide +kernel) (by decide +kernel), gw_t 1 (by decide +kernel) (by decide +kernel), gw_t 347 (by decide +kernel) (by decide +kernel), by decide +kernel, by decide +kernel⟩
theorem pd_X9_ships : (parseMethodDescriptor yX9_ships.desc).map (fun d => d.parameters.length) = some 0 := by decide +kernel
theorem lk344 : Cond.methodLink RL 41 yX9_ships ∈ gw := gw_t 344 (by decide +kernel) (by decide +kernel)
theorem lk1241 : Cond.methodLink RL 44 yX10_ships ∈ gw := gw_t 1241 (by decide +kernel) (by decide +kernel)
theorem my_X10_rule : MyV yX10_rule cX10_rule 2 (some (.int)) := ⟨gw_t 1257 (by decide +kernel) (by decide +kernel), gw_t 1258 (by decide +kernel) (by decide +kernel), gw_t 12 (by decide +kernel) (by decide +kernel), gw_t 1259 (by decide +kernel) (by decide +kernel), by decide +kernel, by decide +kernel⟩
theorem pd_X10_rule : (parseMethodDescriptor yX10_rule.desc).map (fun d => d.parameters.length) = some 0 := by decide +kernel
theorem my_X9_rule : MyV yX9_rule cX9_rule 3 (some (.int)) := ⟨gw_t 357 (by decide +kernel) (by decide +kernel), gw_t 358 (by decide +kernel) (by decide +kernel), gw_t 1 (by decide +kernel) (by decide +kernel), gw_t 359 (by decide +kernel) (by decide +kernel), by decide +kernel, by decide +kernel⟩
theorem pd_X9_rule : (parseMethodDescriptor yX9_rule.desc).map (fun d => d.parameters.length) = some 0 := by decide +kernel
theorem lk356 : Cond.methodLink RL 45 yX9_rule ∈ gw := gw_t 356 (by decide +kernel) (by decide +kernel)
theorem lk1256 : Cond.methodLink RL 48 yX10_rule ∈ gw := gw_t 1256 (by decide +kernel) (by decide +kernel)
theorem my_X10_market : MyV yX10_market cX10_market 3 (some (.int)) := ⟨gw_t 1285 (by decide +kernel) (by decide +kernel), gw_t 1286 (by decide +kernel) (by decide +kernel), gw_t 12 (by decide +kernel) (by decide +kernel), gw_t 1287 (by decide +kernel) (by decide +kernel), by decide +kernel, by decide +kernel⟩
theorem pd_X10_market : (parseMethodDescriptor yX10_market.desc).map (fun d => d.parameters.length) = some 2 := by decide +kernel
theorem my_X10_thrown : MyV yX10_thrown cX10_thrown 1 (some (.int)) := ⟨gw_t 1038 (by decide +kernel) (by decide +kernel), gw_t 1039 (by decide +kernel) (by decide +kernel), gw_t 12 (by decide +kernel) (by decide +kernel), gw_t 1040 (by decide +kernel) (by decide +kernel), by decide +kernel, by decide +kernel⟩
theorem pd_X10_thrown : (parseMethodDescriptor yX10_thrown.desc).map (fun d => d.parameters.length) = some 0 := by decide +kernel
theorem lk954 : Cond.methodLink RL 49 yL_market ∈ gw := gw_t 954 (by decide +kernel) (by decide +kernel)
theorem lk1284 : Cond.methodLink RL 54 yX10_market ∈ gw := gw_t 1284 (by decide +kernel) (by decide +kernel)
theorem lk1037 : Cond.methodLink RL 55 yX10_thrown ∈ gw := gw_t 1037 (by decide +kernel) (by decide +kernel)
theorem my_X10_load : MyV yX10_load cX10_load 3 (some (.int)) := ⟨gw_t 1318 (by decide +kernel) (by decide +kernel), gw_t 1319 (by decide +kernel) (by decide +kernel), gw_t 12 (by decide +kernel) (by decide +kernel), gw_t 1320 (by decide +kernel) (by decide +kernel), by decide +kernel, by decide +kernel⟩
theorem pd_X10_load : (parseMethodDescriptor yX10_load.desc).map (fun d => d.parameters.length) = some 2 := by decide +kernel
theorem lk1023 : Cond.methodLink RL 58 yL_load ∈ gw := gw_t 1023 (by decide +kernel) (by decide +kernel)
theorem lk1317 : Cond.methodLink RL 60 yX10_load ∈ gw := gw_t 1317 (by decide +kernel) (by decide +kernel)
theorem my_X10_sheet : MyV yX10_sheet cX10_sheet 9 (some (.int)) := ⟨gw_t 1322 (by decide +kernel) (by decide +kernel), gw_t 1323 (by decide +kernel) (by decide +kernel), gw_t 12 (by decide +kernel) (by decide +kernel), gw_t 1324 (by decide +kernel) (by decide +kernel), by decide +kernel, by decide +kernel⟩
theorem pd_X10_sheet : (parseMethodDescriptor yX10_sheet.desc).map (fun d => d.parameters.length) = some 4 := by decide +kernel
theorem my_X9_sheet : MyV yX9_sheet cX9_sheet 5 (some (.int)) := ⟨gw_t 488 (by decide +kernel) (by decide +kernel), gw_t 489 (by decide +kernel) (by decide +kernel), gw_t 1 (by decide +kernel) (by decide +kernel), gw_t 490 (by decide +kernel) (by decide +kernel), by decide +kernel, by decide +kernel⟩
theorem pd_X9_sheet : (parseMethodDescriptor yX9_sheet.desc).map (fun d => d.parameters.length) = some 4 := by decide +kernel
theorem lk487 : Cond.methodLink RL 61 yX9_sheet ∈ gw := gw_t 487 (by decide +kernel) (by decide +kernel)
theorem lk1321 : Cond.methodLink RL 65 yX10_sheet ∈ gw := gw_t 1321 (by decide +kernel) (by decide +kernel)
theorem my_X10_months : MyV yX10_months cX10_months 2 (some (.int)) := ⟨gw_t 1331 (by decide +kernel) (by decide +kernel), gw_t 1332 (by decide +kernel) (by decide +kernel), gw_t 12 (by decide +kernel) (by decide +kernel), gw_t 1333 (by decide +kernel) (by decide +kernel), by decide +kernel, by decide +kernel⟩
theorem pd_X10_months : (parseMethodDescriptor yX10_months.desc).map (fun d => d.parameters.length) = some 1 := by decide +kernel
theorem my_X9_months : MyV yX9_months cX9_months 4 (some (.int)) := ⟨gw_t 507 (by decide +kernel) (by decide +kernel), gw_t 508 (by decide +kernel) (by decide +kernel), gw_t 1 (by decide +kernel) (by decide +kernel), gw_t 509 (by decide +kernel) (by decide +kernel), by decide +kernel, by decide +kernel⟩
theorem pd_X9_months : (parseMethodDescriptor yX9_months.desc).map (fun d => d.parameters.length) = some 1 := by decide +kernel
theorem lk506 : Cond.methodLink RL 66 yX9_months ∈ gw := gw_t 506 (by decide +kernel) (by decide +kernel)
theorem lk1330 : Cond.methodLink RL 69 yX10_months ∈ gw := gw_t 1330 (by decide +kernel) (by decide +kernel)
theorem my_X10_brings : MyV yX10_brings cX10_brings 5 (some (.int)) := ⟨gw_t 1356 (by decide +kernel) (by decide +kernel), gw_t 1357 (by decide +kernel) (by decide +kernel), gw_t 12 (by decide +kernel) (by decide +kernel), gw_t 1358 (by decide +kernel) (by decide +kernel), by decide +kernel, by decide +kernel⟩
theorem pd_X10_brings : (parseMethodDescriptor yX10_brings.desc).map (fun d => d.parameters.length) = some 3 := by decide +kernel
theorem my_X9_brings : MyV yX9_brings cX9_brings 4 (some (.int)) := ⟨gw_t 580 (by decide +kernel) (by decide +kernel), gw_t 581 (by decide +kernel) (by decide +kernel), gw_t 1 (by decide +kernel) (by decide +kernel), gw_t 582 (by decide +kernel) (by decide +kernel), by decide +kernel, by decide +kernel⟩
theorem pd_X9_brings : (parseMethodDescriptor yX9_brings.desc).map (fun d => d.parameters.length) = some 3 := by decide +kernel
theorem lk579 : Cond.methodLink RL 70 yX9_brings ∈ gw := gw_t 579 (by decide +kernel) (by decide +kernel)
theorem lk1355 : Cond.methodLink RL 74 yX10_brings ∈ gw := gw_t 1355 (by decide +kernel) (by decide +kernel)
theorem my_X10_lays : MyV yX10_lays cX10_lays 4 (some (.int)) := ⟨gw_t 1367 (by decide +kernel) (by decide +kernel), gw_t 1368 (by decide +kernel) (by decide +kernel), gw_t 12 (by decide +kernel) (by decide +kernel), gw_t 1369 (by decide +kernel) (by decide +kernel), by decide +kernel, by decide +kernel⟩
theorem pd_X10_lays : (parseMethodDescriptor yX10_lays.desc).map (fun d => d.parameters.length) = some 3 := by decide +kernel
theorem my_X9_lays : MyV yX9_lays cX9_lays 4 (some (.int)) := ⟨gw_t 597 (by decide +kernel) (by decide +kernel), gw_t 598 (by decide +kernel) (by decide +kernel), gw_t 1 (by decide +kernel) (by decide +kernel), gw_t 599 (by decide +kernel) (by decide +kernel), by decide +kernel, by decide +kernel⟩
theorem pd_X9_lays : (parseMethodDescriptor yX9_lays.desc).map (fun d => d.parameters.length) = some 3 := by decide +kernel
theorem lk596 : Cond.methodLink RL 75 yX9_lays ∈ gw := gw_t 596 (by decide +kernel) (by decide +kernel)
theorem lk1366 : Cond.methodLink RL 78 yX10_lays ∈ gw := gw_t 1366 (by decide +kernel) (by decide +kernel)
theorem my_X10_spends : MyV yX10_spends cX10_spends 4 (some (.int)) := ⟨gw_t 1379 (by decide +kernel) (by decide +kernel), gw_t 1380 (by decide +kernel) (by decide +kernel), gw_t 12 (by decide +kernel) (by decide +kernel), gw_t 1381 (by decide +kernel) (by decide +kernel), by decide +kernel, by decide +kernel⟩
theorem pd_X10_spends : (parseMethodDescriptor yX10_spends.desc).map (fun d => d.parameters.length) = some 3 := by decide +kernel
theorem my_X9_spends : MyV yX9_spends cX9_spends 4 (some (.int)) := ⟨gw_t 605 (by decide +kernel) (by decide +kernel), gw_t 606 (by decide +kernel) (by decide +kernel), gw_t 1 (by decide +kernel) (by decide +kernel), gw_t 607 (by decide +kernel) (by decide +kernel), by decide +kernel, by decide +kernel⟩
theorem pd_X9_spends : (parseMethodDescriptor yX9_spends.desc).map (fun d => d.parameters.length) = some 3 := by decide +kernel
theorem lk604 : Cond.methodLink RL 79 yX9_spends ∈ gw := gw_t 604 (by decide +kernel) (by decide +kernel)
theorem lk1378 : Cond.methodLink RL 82 yX10_spends ∈ gw := gw_t 1378 (by decide +kernel) (by decide +kernel)
theorem my_X10_taxes : MyV yX10_taxes cX10_taxes 3 (some (.int)) := ⟨gw_t 1387 (by decide +kernel) (by decide +kernel), gw_t 1388 (by decide +kernel) (by decide +kernel), gw_t 12 (by decide +kernel) (by decide +kernel), gw_t 1389 (by decide +kernel) (by decide +kernel), by decide +kernel, by decide +kernel⟩
theorem pd_X10_taxes : (parseMethodDescriptor yX10_taxes.desc).map (fun d => d.parameters.length) = some 2 := by decide +kernel
theorem my_X9_taxes : MyV yX9_taxes cX9_taxes 3 (some (.int)) := ⟨gw_t 613 (by decide +kernel) (by decide +kernel), gw_t 614 (by decide +kernel) (by decide +kernel), gw_t 1 (by decide +kernel) (by decide +kernel), gw_t 615 (by decide +kernel) (by decide +kernel), by decide +kernel, by decide +kernel⟩
theorem pd_X9_taxes : (parseMethodDescriptor yX9_taxes.desc).map (fun d => d.parameters.length) = some 2 := by decide +kernel
theorem lk612 : Cond.methodLink RL 83 yX9_taxes ∈ gw := gw_t 612 (by decide +kernel) (by decide +kernel)
theorem lk1386 : Cond.methodLink RL 86 yX10_taxes ∈ gw := gw_t 1386 (by decide +kernel) (by decide +kernel)
theorem my_X10_burns : MyV yX10_burns cX10_burns 2 (some (.int)) := ⟨gw_t 1397 (by decide +kernel) (by decide +kernel), gw_t 1398 (by decide +kernel) (by decide +kernel), gw_t 12 (by decide +kernel) (by decide +kernel), gw_t 1399 (by decide +kernel) (by decide +kernel), by decide +kernel, by decide +kernel⟩
theorem pd_X10_burns : (parseMethodDescriptor yX10_burns.desc).map (fun d => d.parameters.length) = some 1 := by decide +kernel
theorem my_X9_burns : MyV yX9_burns cX9_burns 2 (some (.int)) := ⟨gw_t 622 (by decide +kernel) (by decide +kernel), gw_t 623 (by decide +kernel) (by decide +kernel), gw_t 1 (by decide +kernel) (by decide +kernel), gw_t 624 (by decide +kernel) (by decide +kernel), by decide +kernel, by decide +kernel⟩
theorem pd_X9_burns : (parseMethodDescriptor yX9_burns.desc).map (fun d => d.parameters.length) = some 1 := by decide +kernel
theorem lk621 : Cond.methodLink RL 87 yX9_burns ∈ gw := gw_t 621 (by decide +kernel) (by decide +kernel)
theorem lk1396 : Cond.methodLink RL 90 yX10_burns ∈ gw := gw_t 1396 (by decide +kernel) (by decide +kernel)
theorem my_X10_port : MyV yX10_port cX10_port 1 (some (.int)) := ⟨gw_t 1405 (by decide +kernel) (by decide +kernel), gw_t 1406 (by decide +kernel) (by decide +kernel), gw_t 12 (by decide +kernel) (by decide +kernel), gw_t 1407 (by decide +kernel) (by decide +kernel), by decide +kernel, by decide +kernel⟩
theorem pd_X10_port : (parseMethodDescriptor yX10_port.desc).map (fun d => d.parameters.length) = some 0 := by decide +kernel
theorem my_X9_port : MyV yX9_port cX9_port 1 (some (.int)) := ⟨gw_t 630 (by decide +kernel) (by decide +kernel), gw_t 631 (by decide +kernel) (by decide +kernel), gw_t 1 (by decide +kernel) (by decide +kernel), gw_t 632 (by decide +kernel) (by decide +kernel), by decide +kernel, by decide +kernel⟩
theorem pd_X9_port : (parseMethodDescriptor yX9_port.desc).map (fun d => d.parameters.length) = some 0 := by decide +kernel
theorem lk629 : Cond.methodLink RL 91 yX9_port ∈ gw := gw_t 629 (by decide +kernel) (by decide +kernel)
theorem lk1404 : Cond.methodLink RL 94 yX10_port ∈ gw := gw_t 1404 (by decide +kernel) (by decide +kernel)
theorem my_X10_flow : MyV yX10_flow cX10_flow 2 (some (.int)) := ⟨gw_t 1409 (by decide +kernel) (by decide +kernel), gw_t 1410 (by decide +kernel) (by decide +kernel), gw_t 12 (by decide +kernel) (by decide +kernel), gw_t 1411 (by decide +kernel) (by decide +kernel), by decide +kernel, by decide +kernel⟩
theorem pd_X10_flow : (parseMethodDescriptor yX10_flow.desc).map (fun d => d.parameters.length) = some 1 := by decide +kernel
theorem my_X9_flow : MyV yX9_flow cX9_flow 2 (some (.int)) := ⟨gw_t 638 (by decide +kernel) (by decide +kernel), gw_t 639 (by decide +kernel) (by decide +kernel), gw_t 1 (by decide +kernel) (by decide +kernel), gw_t 640 (by decide +kernel) (by decide +kernel), by decide +kernel, by decide +kernel⟩
theorem pd_X9_flow : (parseMethodDescriptor yX9_flow.desc).map (fun d => d.parameters.length) = some 1 := by decide +kernel
theorem lk637 : Cond.methodLink RL 95 yX9_flow ∈ gw := gw_t 637 (by decide +kernel) (by decide +kernel)
theorem lk1408 : Cond.methodLink RL 98 yX10_flow ∈ gw := gw_t 1408 (by decide +kernel) (by decide +kernel)
theorem my_X10_year : MyV yX10_year cX10_year 5 (some (.int)) := ⟨gw_t 1417 (by decide +kernel) (by decide +kernel), gw_t 1418 (by decide +kernel) (by decide +kernel), gw_t 12 (by decide +kernel) (by decide +kernel), gw_t 1419 (by decide +kernel) (by decide +kernel), by decide +kernel, by decide +kernel⟩
theorem pd_X10_year : (parseMethodDescriptor yX10_year.desc).map (fun d => d.parameters.length) = some 0 := by decide +kernel
theorem my_X9_year : MyV yX9_year cX9_year 5 (some (.int)) := ⟨gw_t 646 (by decide +kernel) (by decide +kernel), gw_t 647 (by decide +kernel) (by decide +kernel), gw_t 1 (by decide +kernel) (by decide +kernel), gw_t 648 (by decide +kernel) (by decide +kernel), by decide +kernel, by decide +kernel⟩
theorem pd_X9_year : (parseMethodDescriptor yX9_year.desc).map (fun d => d.parameters.length) = some 0 := by decide +kernel
theorem lk645 : Cond.methodLink RL 99 yX9_year ∈ gw := gw_t 645 (by decide +kernel) (by decide +kernel)
theorem lk1416 : Cond.methodLink RL 102 yX10_year ∈ gw := gw_t 1416 (by decide +kernel) (by decide +kernel)
theorem my_X10_undo : MyV yX10_undo cX10_undo 2 (some (.int)) := ⟨gw_t 1327 (by decide +kernel) (by decide +kernel), gw_t 1328 (by decide +kernel) (by decide +kernel), gw_t 12 (by decide +kernel) (by decide +kernel), gw_t 1329 (by decide +kernel) (by decide +kernel), by decide +kernel, by decide +kernel⟩
theorem pd_X10_undo : (parseMethodDescriptor yX10_undo.desc).map (fun d => d.parameters.length) = some 0 := by decide +kernel
theorem my_X9_undo : MyV yX9_undo cX9_undo 1 (some (.int)) := ⟨gw_t 699 (by decide +kernel) (by decide +kernel), gw_t 700 (by decide +kernel) (by decide +kernel), gw_t 1 (by decide +kernel) (by decide +kernel), gw_t 701 (by decide +kernel) (by decide +kernel), by decide +kernel, by decide +kernel⟩
theorem pd_X9_undo : (parseMethodDescriptor yX9_undo.desc).map (fun d => d.parameters.length) = some 0 := by decide +kernel
theorem lk698 : Cond.methodLink RL 103 yX9_undo ∈ gw := gw_t 698 (by decide +kernel) (by decide +kernel)
theorem lk1326 : Cond.methodLink RL 106 yX10_undo ∈ gw := gw_t 1326 (by decide +kernel) (by decide +kernel)
theorem my_X10_ahead : MyV yX10_ahead cX10_ahead 3 (some (.int)) := ⟨gw_t 1434 (by decide +kernel) (by decide +kernel), gw_t 1435 (by decide +kernel) (by decide +kernel), gw_t 12 (by decide +kernel) (by decide +kernel), gw_t 1436 (by decide +kernel) (by decide +kernel), by decide +kernel, by decide +kernel⟩
theorem pd_X10_ahead : (parseMethodDescriptor yX10_ahead.desc).map (fun d => d.parameters.length) = some 2 := by decide +kernel
theorem my_X9_ahead : MyV yX9_ahead cX9_ahead 3 (some (.int)) := ⟨gw_t 707 (by decide +kernel) (by decide +kernel), gw_t 708 (by decide +kernel) (by decide +kernel), gw_t 1 (by decide +kernel) (by decide +kernel), gw_t 709 (by decide +kernel) (by decide +kernel), by decide +kernel, by decide +kernel⟩
theorem pd_X9_ahead : (parseMethodDescriptor yX9_ahead.desc).map (fun d => d.parameters.length) = some 2 := by decide +kernel
theorem lk706 : Cond.methodLink RL 107 yX9_ahead ∈ gw := gw_t 706 (by decide +kernel) (by decide +kernel)
theorem lk1433 : Cond.methodLink RL 110 yX10_ahead ∈ gw := gw_t 1433 (by decide +kernel) (by decide +kernel)
theorem my_X10_doubles : MyV yX10_doubles cX10_doubles 5 (some (.int)) := ⟨gw_t 1443 (by decide +kernel) (by decide +kernel), gw_t 1444 (by decide +kernel) (by decide +kernel), gw_t 12 (by decide +kernel) (by decide +kernel), gw_t 1445 (by decide +kernel) (by decide +kernel), by decide +kernel, by decide +kernel⟩
theorem pd_X10_doubles : (parseMethodDescriptor yX10_doubles.desc).map (fun d => d.parameters.length) = some 1 := by decide +kernel
theorem my_X9_doubles : MyV yX9_doubles cX9_doubles 6 (some (.int)) := ⟨gw_t 715 (by decide +kernel) (by decide +kernel), gw_t 716 (by decide +kernel) (by decide +kernel), gw_t 1 (by decide +kernel) (by decide +kernel), gw_t 717 (by decide +kernel) (by decide +kernel), by decide +kernel, by decide +kernel⟩
theorem pd_X9_doubles : (parseMethodDescriptor yX9_doubles.desc).map (fun d => d.parameters.length) = some 1 := by decide +kernel
theorem lk714 : Cond.methodLink RL 111 yX9_doubles ∈ gw := gw_t 714 (by decide +kernel) (by decide +kernel)
theorem lk1442 : Cond.methodLink RL 114 yX10_doubles ∈ gw := gw_t 1442 (by decide +kernel) (by decide +kernel)
theorem my_X10_trade : MyV yX10_trade cX10_trade 10 (some (.int)) := ⟨gw_t 1447 (by decide +kernel) (by decide +kernel), gw_t 1448 (by decide +kernel) (by decide +kernel), gw_t 12 (by decide +kernel) (by decide +kernel), gw_t 1449 (by decide +kernel) (by decide +kernel), by decide +kernel, by decide +kernel⟩
theorem pd_X10_trade : (parseMethodDescriptor yX10_trade.desc).map (fun d => d.parameters.length) = some 1 := by decide +kernel
theorem my_X9_trade : MyV yX9_trade cX9_trade 6 (some (.int)) := ⟨gw_t 723 (by decide +kernel) (by decide +kernel), gw_t 724 (by decide +kernel) (by decide +kernel), gw_t 1 (by decide +kernel) (by decide +kernel), gw_t 725 (by decide +kernel) (by decide +kernel), by decide +kernel, by decide +kernel⟩
theorem pd_X9_trade : (parseMethodDescriptor yX9_trade.desc).map (fun d => d.parameters.length) = some 1 := by decide +kernel
theorem lk722 : Cond.methodLink RL 115 yX9_trade ∈ gw := gw_t 722 (by decide +kernel) (by decide +kernel)
theorem lk1446 : Cond.methodLink RL 118 yX10_trade ∈ gw := gw_t 1446 (by decide +kernel) (by decide +kernel)
theorem my_X10_buys : MyV yX10_buys cX10_buys 5 (some (.int)) := ⟨gw_t 1454 (by decide +kernel) (by decide +kernel), gw_t 1455 (by decide +kernel) (by decide +kernel), gw_t 12 (by decide +kernel) (by decide +kernel), gw_t 1456 (by decide +kernel) (by decide +kernel), by decide +kernel, by decide +kernel⟩
theorem pd_X10_buys : (parseMethodDescriptor yX10_buys.desc).map (fun d => d.parameters.length) = some 4 := by decide +kernel
theorem my_X9_buys : MyV yX9_buys cX9_buys 5 (some (.int)) := ⟨gw_t 739 (by decide +kernel) (by decide +kernel), gw_t 740 (by decide +kernel) (by decide +kernel), gw_t 1 (by decide +kernel) (by decide +kernel), gw_t 741 (by decide +kernel) (by decide +kernel), by decide +kernel, by decide +kernel⟩
theorem pd_X9_buys : (parseMethodDescriptor yX9_buys.desc).map (fun d => d.parameters.length) = some 4 := by decide +kernel
theorem lk738 : Cond.methodLink RL 119 yX9_buys ∈ gw := gw_t 738 (by decide +kernel) (by decide +kernel)
theorem lk1453 : Cond.methodLink RL 122 yX10_buys ∈ gw := gw_t 1453 (by decide +kernel) (by decide +kernel)
theorem my_X10_best : MyV yX10_best cX10_best 8 (some (.int)) := ⟨gw_t 1470 (by decide +kernel) (by decide +kernel), gw_t 1471 (by decide +kernel) (by decide +kernel), gw_t 12 (by decide +kernel) (by decide +kernel), gw_t 1472 (by decide +kernel) (by decide +kernel), by decide +kernel, by decide +kernel⟩
theorem pd_X10_best : (parseMethodDescriptor yX10_best.desc).map (fun d => d.parameters.length) = some 3 := by decide +kernel
theorem my_X9_best : MyV yX9_best cX9_best 8 (some (.int)) := ⟨gw_t 754 (by decide +kernel) (by decide +kernel), gw_t 755 (by decide +kernel) (by decide +kernel), gw_t 1 (by decide +kernel) (by decide +kernel), gw_t 756 (by decide +kernel) (by decide +kernel), by decide +kernel, by decide +kernel⟩
theorem pd_X9_best : (parseMethodDescriptor yX9_best.desc).map (fun d => d.parameters.length) = some 3 := by decide +kernel
theorem lk753 : Cond.methodLink RL 123 yX9_best ∈ gw := gw_t 753 (by decide +kernel) (by decide +kernel)
theorem lk1469 : Cond.methodLink RL 126 yX10_best ∈ gw := gw_t 1469 (by decide +kernel) (by decide +kernel)
theorem my_X10_closes : MyV yX10_closes cX10_closes 9 (some (.int)) := ⟨gw_t 1474 (by decide +kernel) (by decide +kernel), gw_t 1475 (by decide +kernel) (by decide +kernel), gw_t 12 (by decide +kernel) (by decide +kernel), gw_t 1476 (by decide +kernel) (by decide +kernel), by decide +kernel, by decide +kernel⟩
theorem pd_X10_closes : (parseMethodDescriptor yX10_closes.desc).map (fun d => d.parameters.length) = some 3 := by decide +kernel
theorem my_X9_closes : MyV yX9_closes cX9_closes 8 (some (.int)) := ⟨gw_t 758 (by decide +kernel) (by decide +kernel), gw_t 759 (by decide +kernel) (by decide +kernel), gw_t 1 (by decide +kernel) (by decide +kernel), gw_t 760 (by decide +kernel) (by decide +kernel), by decide +kernel, by decide +kernel⟩
theorem pd_X9_closes : (parseMethodDescriptor yX9_closes.desc).map (fun d => d.parameters.length) = some 3 := by decide +kernel
theorem lk757 : Cond.methodLink RL 127 yX9_closes ∈ gw := gw_t 757 (by decide +kernel) (by decide +kernel)
theorem lk1473 : Cond.methodLink RL 130 yX10_closes ∈ gw := gw_t 1473 (by decide +kernel) (by decide +kernel)
theorem my_X10_grows : MyV yX10_grows cX10_grows 6 (some (.int)) := ⟨gw_t 1484 (by decide +kernel) (by decide +kernel), gw_t 1485 (by decide +kernel) (by decide +kernel), gw_t 12 (by decide +kernel) (by decide +kernel), gw_t 1486 (by decide +kernel) (by decide +kernel), by decide +kernel, by decide +kernel⟩
theorem pd_X10_grows : (parseMethodDescriptor yX10_grows.desc).map (fun d => d.parameters.length) = some 1 := by decide +kernel
theorem my_X9_grows : MyV yX9_grows cX9_grows 5 (some (.int)) := ⟨gw_t 775 (by decide +kernel) (by decide +kernel), gw_t 776 (by decide +kernel) (by decide +kernel), gw_t 1 (by decide +kernel) (by decide +kernel), gw_t 777 (by decide +kernel) (by decide +kernel), by decide +kernel, by decide +kernel⟩
theorem pd_X9_grows : (parseMethodDescriptor yX9_grows.desc).map (fun d => d.parameters.length) = some 1 := by decide +kernel
theorem lk774 : Cond.methodLink RL 131 yX9_grows ∈ gw := gw_t 774 (by decide +kernel) (by decide +kernel)
theorem lk1483 : Cond.methodLink RL 134 yX10_grows ∈ gw := gw_t 1483 (by decide +kernel) (by decide +kernel)
theorem my_X10_reign : MyV yX10_reign cX10_reign 9 (some (.int)) := ⟨gw_t 1489 (by decide +kernel) (by decide +kernel), gw_t 1490 (by decide +kernel) (by decide +kernel), gw_t 12 (by decide +kernel) (by decide +kernel), gw_t 1491 (by decide +kernel) (by decide +kernel), by decide +kernel, by decide +kernel⟩
theorem pd_X10_reign : (parseMethodDescriptor yX10_reign.desc).map (fun d => d.parameters.length) = some 3 := by decide +kernel
theorem my_X9_reign : MyV yX9_reign cX9_reign 8 (some (.int)) := ⟨gw_t 783 (by decide +kernel) (by decide +kernel), gw_t 784 (by decide +kernel) (by decide +kernel), gw_t 1 (by decide +kernel) (by decide +kernel), gw_t 785 (by decide +kernel) (by decide +kernel), by decide +kernel, by decide +kernel⟩
theorem pd_X9_reign : (parseMethodDescriptor yX9_reign.desc).map (fun d => d.parameters.length) = some 3 := by decide +kernel
theorem lk782 : Cond.methodLink RL 135 yX9_reign ∈ gw := gw_t 782 (by decide +kernel) (by decide +kernel)
theorem lk1488 : Cond.methodLink RL 138 yX10_reign ∈ gw := gw_t 1488 (by decide +kernel) (by decide +kernel)
theorem my_X10_melts : MyV yX10_melts cX10_melts 6 (some (.int)) := ⟨gw_t 1494 (by decide +kernel) (by decide +kernel), gw_t 1495 (by decide +kernel) (by decide +kernel), gw_t 12 (by decide +kernel) (by decide +kernel), gw_t 1496 (by decide +kernel) (by decide +kernel), by decide +kernel, by decide +kernel⟩
theorem pd_X10_melts : (parseMethodDescriptor yX10_melts.desc).map (fun d => d.parameters.length) = some 3 := by decide +kernel
theorem my_X9_melts : MyV yX9_melts cX9_melts 6 (some (.int)) := ⟨gw_t 792 (by decide +kernel) (by decide +kernel), gw_t 793 (by decide +kernel) (by decide +kernel), gw_t 1 (by decide +kernel) (by decide +kernel), gw_t 794 (by decide +kernel) (by decide +kernel), by decide +kernel, by decide +kernel⟩
theorem pd_X9_melts : (parseMethodDescriptor yX9_melts.desc).map (fun d => d.parameters.length) = some 3 := by decide +kernel
theorem lk791 : Cond.methodLink RL 139 yX9_melts ∈ gw := gw_t 791 (by decide +kernel) (by decide +kernel)
theorem lk1493 : Cond.methodLink RL 142 yX10_melts ∈ gw := gw_t 1493 (by decide +kernel) (by decide +kernel)
theorem my_X10_when : MyV yX10_when cX10_when 8 (some (.int)) := ⟨gw_t 1498 (by decide +kernel) (by decide +kernel), gw_t 1499 (by decide +kernel) (by decide +kernel), gw_t 12 (by decide +kernel) (by decide +kernel), gw_t 1500 (by decide +kernel) (by decide +kernel), by decide +kernel, by decide +kernel⟩
theorem pd_X10_when : (parseMethodDescriptor yX10_when.desc).map (fun d => d.parameters.length) = some 2 := by decide +kernel
theorem my_X9_when : MyV yX9_when cX9_when 8 (some (.int)) := ⟨gw_t 796 (by decide +kernel) (by decide +kernel), gw_t 797 (by decide +kernel) (by decide +kernel), gw_t 1 (by decide +kernel) (by decide +kernel), gw_t 798 (by decide +kernel) (by decide +kernel), by decide +kernel, by decide +kernel⟩
theorem pd_X9_when : (parseMethodDescriptor yX9_when.desc).map (fun d => d.parameters.length) = some 2 := by decide +kernel
theorem lk795 : Cond.methodLink RL 143 yX9_when ∈ gw := gw_t 795 (by decide +kernel) (by decide +kernel)
theorem lk1497 : Cond.methodLink RL 146 yX10_when ∈ gw := gw_t 1497 (by decide +kernel) (by decide +kernel)
theorem my_X10_rises : MyV yX10_rises cX10_rises 5 (some (.int)) := ⟨gw_t 1502 (by decide +kernel) (by decide +kernel), gw_t 1503 (by decide +kernel) (by decide +kernel), gw_t 12 (by decide +kernel) (by decide +kernel), gw_t 1504 (by decide +kernel) (by decide +kernel), by decide +kernel, by decide +kernel⟩
theorem pd_X10_rises : (parseMethodDescriptor yX10_rises.desc).map (fun d => d.parameters.length) = some 1 := by decide +kernel
theorem my_X9_rises : MyV yX9_rises cX9_rises 6 (some (.int)) := ⟨gw_t 800 (by decide +kernel) (by decide +kernel), gw_t 801 (by decide +kernel) (by decide +kernel), gw_t 1 (by decide +kernel) (by decide +kernel), gw_t 802 (by decide +kernel) (by decide +kernel), by decide +kernel, by decide +kernel⟩
theorem pd_X9_rises : (parseMethodDescriptor yX9_rises.desc).map (fun d => d.parameters.length) = some 1 := by decide +kernel
theorem lk799 : Cond.methodLink RL 147 yX9_rises ∈ gw := gw_t 799 (by decide +kernel) (by decide +kernel)
theorem lk1501 : Cond.methodLink RL 150 yX10_rises ∈ gw := gw_t 1501 (by decide +kernel) (by decide +kernel)
theorem my_X10_caravan : MyV yX10_caravan cX10_caravan 3 (some (.int)) := ⟨gw_t 1506 (by decide +kernel) (by decide +kernel), gw_t 1507 (by decide +kernel) (by decide +kernel), gw_t 12 (by decide +kernel) (by decide +kernel), gw_t 1508 (by decide +kernel) (by decide +kernel), by decide +kernel, by decide +kernel⟩
theorem pd_X10_caravan : (parseMethodDescriptor yX10_caravan.desc).map (fun d => d.parameters.length) = some 1 := by decide +kernel
theorem my_X9_caravan : MyV yX9_caravan cX9_caravan 8 (some (.int)) := ⟨gw_t 804 (by decide +kernel) (by decide +kernel), gw_t 805 (by decide +kernel) (by decide +kernel), gw_t 1 (by decide +kernel) (by decide +kernel), gw_t 806 (by decide +kernel) (by decide +kernel), by decide +kernel, by decide +kernel⟩
theorem pd_X9_caravan : (parseMethodDescriptor yX9_caravan.desc).map (fun d => d.parameters.length) = some 1 := by decide +kernel
theorem lk803 : Cond.methodLink RL 151 yX9_caravan ∈ gw := gw_t 803 (by decide +kernel) (by decide +kernel)
theorem lk1505 : Cond.methodLink RL 154 yX10_caravan ∈ gw := gw_t 1505 (by decide +kernel) (by decide +kernel)
theorem my_X10_strings : MyV yX10_strings cX10_strings 4 (some (.int)) := ⟨gw_t 1517 (by decide +kernel) (by decide +kernel), gw_t 1518 (by decide +kernel) (by decide +kernel), gw_t 12 (by decide +kernel) (by decide +kernel), gw_t 1519 (by decide +kernel) (by decide +kernel), by decide +kernel, by decide +kernel⟩
theorem pd_X10_strings : (parseMethodDescriptor yX10_strings.desc).map (fun d => d.parameters.length) = some 2 := by decide +kernel
theorem my_X9_strings : MyV yX9_strings cX9_strings 4 (some (.int)) := ⟨gw_t 824 (by decide +kernel) (by decide +kernel), gw_t 825 (by decide +kernel) (by decide +kernel), gw_t 1 (by decide +kernel) (by decide +kernel), gw_t 826 (by decide +kernel) (by decide +kernel), by decide +kernel, by decide +kernel⟩
theorem pd_X9_strings : (parseMethodDescriptor yX9_strings.desc).map (fun d => d.parameters.length) = some 2 := by decide +kernel
theorem lk823 : Cond.methodLink RL 155 yX9_strings ∈ gw := gw_t 823 (by decide +kernel) (by decide +kernel)
theorem lk1516 : Cond.methodLink RL 158 yX10_strings ∈ gw := gw_t 1516 (by decide +kernel) (by decide +kernel)
theorem my_X10_counts : MyV yX10_counts cX10_counts 5 (some (.int)) := ⟨gw_t 1521 (by decide +kernel) (by decide +kernel), gw_t 1522 (by decide +kernel) (by decide +kernel), gw_t 12 (by decide +kernel) (by decide +kernel), gw_t 1523 (by decide +kernel) (by decide +kernel), by decide +kernel, by decide +kernel⟩
theorem pd_X10_counts : (parseMethodDescriptor yX10_counts.desc).map (fun d => d.parameters.length) = some 2 := by decide +kernel
theorem my_X9_counts : MyV yX9_counts cX9_counts 5 (some (.int)) := ⟨gw_t 831 (by decide +kernel) (by decide +kernel), gw_t 832 (by decide +kernel) (by decide +kernel), gw_t 1 (by decide +kernel) (by decide +kernel), gw_t 833 (by decide +kernel) (by decide +kernel), by decide +kernel, by decide +kernel⟩
theorem pd_X9_counts : (parseMethodDescriptor yX9_counts.desc).map (fun d => d.parameters.length) = some 2 := by decide +kernel
theorem lk830 : Cond.methodLink RL 159 yX9_counts ∈ gw := gw_t 830 (by decide +kernel) (by decide +kernel)
theorem lk1520 : Cond.methodLink RL 162 yX10_counts ∈ gw := gw_t 1520 (by decide +kernel) (by decide +kernel)
theorem my_X10_pays : MyV yX10_pays cX10_pays 10 (some (.int)) := ⟨gw_t 1525 (by decide +kernel) (by decide +kernel), gw_t 1526 (by decide +kernel) (by decide +kernel), gw_t 12 (by decide +kernel) (by decide +kernel), gw_t 1527 (by decide +kernel) (by decide +kernel), by decide +kernel, by decide +kernel⟩
theorem pd_X10_pays : (parseMethodDescriptor yX10_pays.desc).map (fun d => d.parameters.length) = some 1 := by decide +kernel
theorem my_X9_pays : MyV yX9_pays cX9_pays 5 (some (.int)) := ⟨gw_t 838 (by decide +kernel) (by decide +kernel), gw_t 839 (by decide +kernel) (by decide +kernel), gw_t 1 (by decide +kernel) (by decide +kernel), gw_t 840 (by decide +kernel) (by decide +kernel), by decide +kernel, by decide +kernel⟩
theorem pd_X9_pays : (parseMethodDescriptor yX9_pays.desc).map (fun d => d.parameters.length) = some 1 := by decide +kernel
theorem lk837 : Cond.methodLink RL 163 yX9_pays ∈ gw := gw_t 837 (by decide +kernel) (by decide +kernel)
theorem lk1524 : Cond.methodLink RL 166 yX10_pays ∈ gw := gw_t 1524 (by decide +kernel) (by decide +kernel)
theorem my_X10_bearers : MyV yX10_bearers cX10_bearers 4 (some (.int)) := ⟨gw_t 1529 (by decide +kernel) (by decide +kernel), gw_t 1530 (by decide +kernel) (by decide +kernel), gw_t 12 (by decide +kernel) (by decide +kernel), gw_t 1531 (by decide +kernel) (by decide +kernel), by decide +kernel, by decide +kernel⟩
theorem pd_X10_bearers : (parseMethodDescriptor yX10_bearers.desc).map (fun d => d.parameters.length) = some 2 := by decide +kernel
theorem my_X9_bearers : MyV yX9_bearers cX9_bearers 4 (some (.int)) := ⟨gw_t 846 (by decide +kernel) (by decide +kernel), gw_t 847 (by decide +kernel) (by decide +kernel), gw_t 1 (by decide +kernel) (by decide +kernel), gw_t 848 (by decide +kernel) (by decide +kernel), by decide +kernel, by decide +kernel⟩
theorem pd_X9_bearers : (parseMethodDescriptor yX9_bearers.desc).map (fun d => d.parameters.length) = some 2 := by decide +kernel
theorem lk845 : Cond.methodLink RL 167 yX9_bearers ∈ gw := gw_t 845 (by decide +kernel) (by decide +kernel)
theorem lk1528 : Cond.methodLink RL 170 yX10_bearers ∈ gw := gw_t 1528 (by decide +kernel) (by decide +kernel)
theorem my_X10_left : MyV yX10_left cX10_left 3 (some (.int)) := ⟨gw_t 1533 (by decide +kernel) (by decide +kernel), gw_t 1534 (by decide +kernel) (by decide +kernel), gw_t 12 (by decide +kernel) (by decide +kernel), gw_t 1535 (by decide +kernel) (by decide +kernel), by decide +kernel, by decide +kernel⟩
theorem pd_X10_left : (parseMethodDescriptor yX10_left.desc).map (fun d => d.parameters.length) = some 2 := by decide +kernel
theorem my_X9_left : MyV yX9_left cX9_left 3 (some (.int)) := ⟨gw_t 850 (by decide +kernel) (by decide +kernel), gw_t 851 (by decide +kernel) (by decide +kernel), gw_t 1 (by decide +kernel) (by decide +kernel), gw_t 852 (by decide +kernel) (by decide +kernel), by decide +kernel, by decide +kernel⟩
theorem pd_X9_left : (parseMethodDescriptor yX9_left.desc).map (fun d => d.parameters.length) = some 2 := by decide +kernel
theorem lk849 : Cond.methodLink RL 171 yX9_left ∈ gw := gw_t 849 (by decide +kernel) (by decide +kernel)
theorem lk1532 : Cond.methodLink RL 174 yX10_left ∈ gw := gw_t 1532 (by decide +kernel) (by decide +kernel)
theorem my_X10_forget : MyV yX10_forget cX10_forget 2 (some (.int)) := ⟨gw_t 1539 (by decide +kernel) (by decide +kernel), gw_t 1540 (by decide +kernel) (by decide +kernel), gw_t 12 (by decide +kernel) (by decide +kernel), gw_t 1541 (by decide +kernel) (by decide +kernel), by decide +kernel, by decide +kernel⟩
theorem pd_X10_forget : (parseMethodDescriptor yX10_forget.desc).map (fun d => d.parameters.length) = some 0 := by decide +kernel
theorem my_X9_forget : MyV yX9_forget cX9_forget 2 (some (.int)) := ⟨gw_t 858 (by decide +kernel) (by decide +kernel), gw_t 859 (by decide +kernel) (by decide +kernel), gw_t 1 (by decide +kernel) (by decide +kernel), gw_t 860 (by decide +kernel) (by decide +kernel), by decide +kernel, by decide +kernel⟩
theorem pd_X9_forget : (parseMethodDescriptor yX9_forget.desc).map (fun d => d.parameters.length) = some 0 := by decide +kernel
theorem lk857 : Cond.methodLink RL 175 yX9_forget ∈ gw := gw_t 857 (by decide +kernel) (by decide +kernel)
theorem lk1538 : Cond.methodLink RL 178 yX10_forget ∈ gw := gw_t 1538 (by decide +kernel) (by decide +kernel)
theorem my_X10_fits : MyV yX10_fits cX10_fits 5 (some (.int)) := ⟨gw_t 1543 (by decide +kernel) (by decide +kernel), gw_t 1544 (by decide +kernel) (by decide +kernel), gw_t 12 (by decide +kernel) (by decide +kernel), gw_t 1545 (by decide +kernel) (by decide +kernel), by decide +kernel, by decide +kernel⟩
theorem pd_X10_fits : (parseMethodDescriptor yX10_fits.desc).map (fun d => d.parameters.length) = some 0 := by decide +kernel
theorem my_X9_fits : MyV yX9_fits cX9_fits 5 (some (.int)) := ⟨gw_t 862 (by decide +kernel) (by decide +kernel), gw_t 863 (by decide +kernel) (by decide +kernel), gw_t 1 (by decide +kernel) (by decide +kernel), gw_t 864 (by decide +kernel) (by decide +kernel), by decide +kernel, by decide +kernel⟩
theorem pd_X9_fits : (parseMethodDescriptor yX9_fits.desc).map (fun d => d.parameters.length) = some 0 := by decide +kernel
theorem lk861 : Cond.methodLink RL 179 yX9_fits ∈ gw := gw_t 861 (by decide +kernel) (by decide +kernel)
theorem lk1542 : Cond.methodLink RL 182 yX10_fits ∈ gw := gw_t 1542 (by decide +kernel) (by decide +kernel)
theorem my_X10_ask : MyV yX10_ask cX10_ask 6 (some (.int)) := ⟨gw_t 1551 (by decide +kernel) (by decide +kernel), gw_t 1552 (by decide +kernel) (by decide +kernel), gw_t 12 (by decide +kernel) (by decide +kernel), gw_t 1553 (by decide +kernel) (by decide +kernel), by decide +kernel, by decide +kernel⟩
theorem pd_X10_ask : (parseMethodDescriptor yX10_ask.desc).map (fun d => d.parameters.length) = some 0 := by decide +kernel
theorem my_X9_ask : MyV yX9_ask cX9_ask 5 (some (.int)) := ⟨gw_t 874 (by decide +kernel) (by decide +kernel), gw_t 875 (by decide +kernel) (by decide +kernel), gw_t 1 (by decide +kernel) (by decide +kernel), gw_t 876 (by decide +kernel) (by decide +kernel), by decide +kernel, by decide +kernel⟩
theorem pd_X9_ask : (parseMethodDescriptor yX9_ask.desc).map (fun d => d.parameters.length) = some 0 := by decide +kernel
theorem lk873 : Cond.methodLink RL 183 yX9_ask ∈ gw := gw_t 873 (by decide +kernel) (by decide +kernel)
theorem lk1550 : Cond.methodLink RL 186 yX10_ask ∈ gw := gw_t 1550 (by decide +kernel) (by decide +kernel)
theorem my_X10_sound : MyV yX10_sound cX10_sound 9 (some (.int)) := ⟨gw_t 1555 (by decide +kernel) (by decide +kernel), gw_t 1556 (by decide +kernel) (by decide +kernel), gw_t 12 (by decide +kernel) (by decide +kernel), gw_t 1557 (by decide +kernel) (by decide +kernel), by decide +kernel, by decide +kernel⟩
theorem pd_X10_sound : (parseMethodDescriptor yX10_sound.desc).map (fun d => d.parameters.length) = some 3 := by decide +kernel
theorem my_X9_sound : MyV yX9_sound cX9_sound 9 (some (.int)) := ⟨gw_t 883 (by decide +kernel) (by decide +kernel), gw_t 884 (by decide +kernel) (by decide +kernel), gw_t 1 (by decide +kernel) (by decide +kernel), gw_t 885 (by decide +kernel) (by decide +kernel), by decide +kernel, by decide +kernel⟩
theorem pd_X9_sound : (parseMethodDescriptor yX9_sound.desc).map (fun d => d.parameters.length) = some 3 := by decide +kernel
theorem lk882 : Cond.methodLink RL 187 yX9_sound ∈ gw := gw_t 882 (by decide +kernel) (by decide +kernel)
theorem lk1554 : Cond.methodLink RL 190 yX10_sound ∈ gw := gw_t 1554 (by decide +kernel) (by decide +kernel)
theorem my_X10_finds : MyV yX10_finds cX10_finds 11 (some (.int)) := ⟨gw_t 1567 (by decide +kernel) (by decide +kernel), gw_t 1568 (by decide +kernel) (by decide +kernel), gw_t 12 (by decide +kernel) (by decide +kernel), gw_t 1569 (by decide +kernel) (by decide +kernel), by decide +kernel, by decide +kernel⟩
theorem pd_X10_finds : (parseMethodDescriptor yX10_finds.desc).map (fun d => d.parameters.length) = some 3 := by decide +kernel
theorem my_X9_finds : MyV yX9_finds cX9_finds 6 (some (.int)) := ⟨gw_t 895 (by decide +kernel) (by decide +kernel), gw_t 896 (by decide +kernel) (by decide +kernel), gw_t 1 (by decide +kernel) (by decide +kernel), gw_t 897 (by decide +kernel) (by decide +kernel), by decide +kernel, by decide +kernel⟩
theorem pd_X9_finds : (parseMethodDescriptor yX9_finds.desc).map (fun d => d.parameters.length) = some 3 := by decide +kernel
theorem lk894 : Cond.methodLink RL 191 yX9_finds ∈ gw := gw_t 894 (by decide +kernel) (by decide +kernel)
theorem lk1566 : Cond.methodLink RL 194 yX10_finds ∈ gw := gw_t 1566 (by decide +kernel) (by decide +kernel)
theorem my_X10_law : MyV yX10_law cX10_law 5 (some (.int)) := ⟨gw_t 1572 (by decide +kernel) (by decide +kernel), gw_t 1573 (by decide +kernel) (by decide +kernel), gw_t 12 (by decide +kernel) (by decide +kernel), gw_t 1574 (by decide +kernel) (by decide +kernel), by decide +kernel, by decide +kernel⟩
theorem pd_X10_law : (parseMethodDescriptor yX10_law.desc).map (fun d => d.parameters.length) = some 0 := by decide +kernel
theorem my_X9_law : MyV yX9_law cX9_law 5 (some (.int)) := ⟨gw_t 902 (by decide +kernel) (by decide +kernel), gw_t 903 (by decide +kernel) (by decide +kernel), gw_t 1 (by decide +kernel) (by decide +kernel), gw_t 904 (by decide +kernel) (by decide +kernel), by decide +kernel, by decide +kernel⟩
theorem pd_X9_law : (parseMethodDescriptor yX9_law.desc).map (fun d => d.parameters.length) = some 0 := by decide +kernel
theorem lk901 : Cond.methodLink RL 195 yX9_law ∈ gw := gw_t 901 (by decide +kernel) (by decide +kernel)
theorem lk1571 : Cond.methodLink RL 198 yX10_law ∈ gw := gw_t 1571 (by decide +kernel) (by decide +kernel)
theorem my_X10_rests : MyV yX10_rests cX10_rests 5 (some (.int)) := ⟨gw_t 1581 (by decide +kernel) (by decide +kernel), gw_t 1582 (by decide +kernel) (by decide +kernel), gw_t 12 (by decide +kernel) (by decide +kernel), gw_t 1583 (by decide +kernel) (by decide +kernel), by decide +kernel, by decide +kernel⟩
theorem pd_X10_rests : (parseMethodDescriptor yX10_rests.desc).map (fun d => d.parameters.length) = some 1 := by decide +kernel
theorem my_X9_rests : MyV yX9_rests cX9_rests 5 (some (.int)) := ⟨gw_t 907 (by decide +kernel) (by decide +kernel), gw_t 908 (by decide +kernel) (by decide +kernel), gw_t 1 (by decide +kernel) (by decide +kernel), gw_t 909 (by decide +kernel) (by decide +kernel), by decide +kernel, by decide +kernel⟩
theorem pd_X9_rests : (parseMethodDescriptor yX9_rests.desc).map (fun d => d.parameters.length) = some 1 := by decide +kernel
theorem lk906 : Cond.methodLink RL 199 yX9_rests ∈ gw := gw_t 906 (by decide +kernel) (by decide +kernel)
theorem lk1580 : Cond.methodLink RL 202 yX10_rests ∈ gw := gw_t 1580 (by decide +kernel) (by decide +kernel)
theorem my_X10_years : MyV yX10_years cX10_years 6 (some (.int)) := ⟨gw_t 1591 (by decide +kernel) (by decide +kernel), gw_t 1592 (by decide +kernel) (by decide +kernel), gw_t 12 (by decide +kernel) (by decide +kernel), gw_t 1593 (by decide +kernel) (by decide +kernel), by decide +kernel, by decide +kernel⟩
theorem pd_X10_years : (parseMethodDescriptor yX10_years.desc).map (fun d => d.parameters.length) = some 2 := by decide +kernel
theorem my_X9_years : MyV yX9_years cX9_years 4 (some (.int)) := ⟨gw_t 917 (by decide +kernel) (by decide +kernel), gw_t 918 (by decide +kernel) (by decide +kernel), gw_t 1 (by decide +kernel) (by decide +kernel), gw_t 919 (by decide +kernel) (by decide +kernel), by decide +kernel, by decide +kernel⟩
theorem pd_X9_years : (parseMethodDescriptor yX9_years.desc).map (fun d => d.parameters.length) = some 2 := by decide +kernel
theorem lk916 : Cond.methodLink RL 203 yX9_years ∈ gw := gw_t 916 (by decide +kernel) (by decide +kernel)
theorem lk1590 : Cond.methodLink RL 206 yX10_years ∈ gw := gw_t 1590 (by decide +kernel) (by decide +kernel)
theorem my_X10_keep : MyV yX10_keep cX10_keep 3 (some (.boolean)) := ⟨gw_t 1604 (by decide +kernel) (by decide +kernel), gw_t 1605 (by decide +kernel) (by decide +kernel), gw_t 12 (by decide +kernel) (by decide +kernel), gw_t 1606 (by decide +kernel) (by decide +kernel), by decide +kernel, by decide +kernel⟩
theorem pd_X10_keep : (parseMethodDescriptor yX10_keep.desc).map (fun d => d.parameters.length) = some 1 := by decide +kernel
theorem my_X9_keep : MyV yX9_keep cX9_keep 2 (some (.boolean)) := ⟨gw_t 939 (by decide +kernel) (by decide +kernel), gw_t 940 (by decide +kernel) (by decide +kernel), gw_t 1 (by decide +kernel) (by decide +kernel), gw_t 941 (by decide +kernel) (by decide +kernel), by decide +kernel, by decide +kernel⟩
theorem pd_X9_keep : (parseMethodDescriptor yX9_keep.desc).map (fun d => d.parameters.length) = some 1 := by decide +kernel
theorem lk938 : Cond.methodLink RL 207 yX9_keep ∈ gw := gw_t 938 (by decide +kernel) (by decide +kernel)
theorem lk1603 : Cond.methodLink RL 210 yX10_keep ∈ gw := gw_t 1603 (by decide +kernel) (by decide +kernel)
theorem my_X10_again : MyV yX10_again cX10_again 3 (some (.boolean)) := ⟨gw_t 1608 (by decide +kernel) (by decide +kernel), gw_t 1609 (by decide +kernel) (by decide +kernel), gw_t 12 (by decide +kernel) (by decide +kernel), gw_t 1610 (by decide +kernel) (by decide +kernel), by decide +kernel, by decide +kernel⟩
theorem pd_X10_again : (parseMethodDescriptor yX10_again.desc).map (fun d => d.parameters.length) = some 1 := by decide +kernel
theorem my_X9_again : MyV yX9_again cX9_again 2 (some (.boolean)) := ⟨gw_t 943 (by decide +kernel) (by decide +kernel), gw_t 944 (by decide +kernel) (by decide +kernel), gw_t 1 (by decide +kernel) (by decide +kernel), gw_t 945 (by decide +kernel) (by decide +kernel), by decide +kernel, by decide +kernel⟩
theorem pd_X9_again : (parseMethodDescriptor yX9_again.desc).map (fun d => d.parameters.length) = some 1 := by decide +kernel
theorem lk942 : Cond.methodLink RL 211 yX9_again ∈ gw := gw_t 942 (by decide +kernel) (by decide +kernel)
theorem lk1607 : Cond.methodLink RL 214 yX10_again ∈ gw := gw_t 1607 (by decide +kernel) (by decide +kernel)
theorem my_X10_count : MyV yX10_count cX10_count 2 (some (.int)) := ⟨gw_t 1612 (by decide +kernel) (by decide +kernel), gw_t 1613 (by decide +kernel) (by decide +kernel), gw_t 12 (by decide +kernel) (by decide +kernel), gw_t 1614 (by decide +kernel) (by decide +kernel), by decide +kernel, by decide +kernel⟩
theorem pd_X10_count : (parseMethodDescriptor yX10_count.desc).map (fun d => d.parameters.length) = some 1 := by decide +kernel
theorem my_X9_count : MyV yX9_count cX9_count 2 (some (.int)) := ⟨gw_t 947 (by decide +kernel) (by decide +kernel), gw_t 948 (by decide +kernel) (by decide +kernel), gw_t 1 (by decide +kernel) (by decide +kernel), gw_t 949 (by decide +kernel) (by decide +kernel), by decide +kernel, by decide +kernel⟩
theorem pd_X9_count : (parseMethodDescriptor yX9_count.desc).map (fun d => d.parameters.length) = some 1 := by decide +kernel
theorem lk946 : Cond.methodLink RL 215 yX9_count ∈ gw := gw_t 946 (by decide +kernel) (by decide +kernel)
theorem lk1611 : Cond.methodLink RL 218 yX10_count ∈ gw := gw_t 1611 (by decide +kernel) (by decide +kernel)
theorem my_X10_row : MyV yX10_row cX10_row 2 (some (.long)) := ⟨gw_t 1616 (by decide +kernel) (by decide +kernel), gw_t 1617 (by decide +kernel) (by decide +kernel), gw_t 12 (by decide +kernel) (by decide +kernel), gw_t 1618 (by decide +kernel) (by decide +kernel), by decide +kernel, by decide +kernel⟩
theorem pd_X10_row : (parseMethodDescriptor yX10_row.desc).map (fun d => d.parameters.length) = some 1 := by decide +kernel
theorem lk1030 : Cond.methodLink RL 219 yL_row ∈ gw := gw_t 1030 (by decide +kernel) (by decide +kernel)
theorem lk1615 : Cond.methodLink RL 222 yX10_row ∈ gw := gw_t 1615 (by decide +kernel) (by decide +kernel)
theorem my_L_market : MyH yL_market cL_market 5 (some .int) [(0, 10, 13, 13)] := ⟨gw_t 955 (by decide +kernel) (by decide +kernel), gw_t 0 (by decide +kernel) (by decide +kernel), gw_t 956 (by decide +kernel) (by decide +kernel), by decide +kernel, by decide +kernel⟩
theorem pd_L_market : (parseMethodDescriptor yL_market.desc).map (fun d => d.parameters.length) = some 4 := by decide +kernel
theorem my_L_load : MyH yL_load cL_load 5 (some .int) [(0, 10, 13, 13)] := ⟨gw_t 1024 (by decide +kernel) (by decide +kernel), gw_t 0 (by decide +kernel) (by decide +kernel), gw_t 1025 (by decide +kernel) (by decide +kernel), by decide +kernel, by decide +kernel⟩
theorem pd_L_load : (parseMethodDescriptor yL_load.desc).map (fun d => d.parameters.length) = some 4 := by decide +kernel
theorem my_L_row : MyH yL_row cL_row 4 (some .int) [(0, 8, 11, 13)] := ⟨gw_t 1031 (by decide +kernel) (by decide +kernel), gw_t 0 (by decide +kernel) (by decide +kernel), gw_t 1032 (by decide +kernel) (by decide +kernel), by decide +kernel, by decide +kernel⟩
theorem pd_L_row : (parseMethodDescriptor yL_row.desc).map (fun d => d.parameters.length) = some 3 := by decide +kernel
def Op_sign (Inv Jnv : HP → Prop) : Prop := ∀ (h : HP) (a1 : Int32), Inv h → ∃ (v : Int32) (h1 : HP) (h2 : HP), f_X9_sign 200 h 0 a1 = some (v, h1) ∧ f_X10_sign 200 h1 188 a1 = some (v, h2) ∧ Jnv h2
def Op_end (Inv Jnv : HP → Prop) : Prop := ∀ (h : HP) (a1 : Int32), Inv h → ∃ (v : Int32) (h1 : HP) (h2 : HP), f_X9_end h 0 a1 = some (v, h1) ∧ f_X10_end h1 188 a1 = some (v, h2) ∧ Jnv h2
def Op_markets (Inv Jnv : HP → Prop) : Prop := ∀ (h : HP), Inv h → ∃ (v : Int32) (h1 : HP) (h2 : HP), f_X9_markets 200 h 0 = some (v, h1) ∧ f_X10_markets 200 h1 188 = some (v, h2) ∧ Jnv h2
def Op_ships (Inv Jnv : HP → Prop) : Prop := ∀ (h : HP), Inv h → ∃ (v : Int32) (h1 : HP) (h2 : HP), f_X9_ships 200 h 0 = some (v, h1) ∧ f_X10_ships 200 h1 188 = some (v, h2) ∧ Jnv h2
def Op_rule (Inv Jnv : HP → Prop) : Prop := ∀ (h : HP), Inv h → ∃ (v : Int32) (h1 : HP) (h2 : HP), f_X9_rule 100 h 0 = some (v, h1) ∧ f_X10_rule 100 h1 188 = some (v, h2) ∧ Jnv h2
def Op_market (Inv Jnv : HP → Prop) : Prop := ∀ (h : HP) (a1 : Int32) (a2 : Int32), Inv h → ∃ (rp : Option Int32 × HP) (b : Int32) (h2 : HP) (t : Int32), f_X9_market 200 h 0 a1 a2 = some rp ∧ f_X10_market 200 (rE h 219 rp).2 188 a1 a2 = some (b, h2) ∧ f_X10_thrown h2 188 = some t ∧ t = (rE h 219 rp).1 ∧ ((rE h 219 rp).1 = 0 → h2.2.2.1 219 0 = b.toInt64) ∧ Jnv h2
def Op_load (Inv Jnv : HP → Prop) : Prop := ∀ (h : HP) (a1 : Int32) (a2 : Int32), Inv h → ∃ (rp : Option Int32 × HP) (b : Int32) (h2 : HP) (t : Int32), f_X9_load h 0 a1 a2 = some rp ∧ f_X10_load (rE h 219 rp).2 188 a1 a2 = some (b, h2) ∧ f_X10_thrown h2 188 = some t ∧ t = (rE h 219 rp).1 ∧ ((rE h 219 rp).1 = 0 → h2.2.2.1 219 0 = b.toInt64) ∧ Jnv h2
def Op_sheet (Inv Jnv : HP → Prop) : Prop := ∀ (h : HP) (a1 : Int32) (a2 : Int32) (a3 : Int32) (a4 : Int32), Inv h → ∃ (v : Int32) (h1 : HP) (h2 : HP), f_X9_sheet 200 h 0 a1 a2 a3 a4 = some (v, h1) ∧ f_X10_sheet 200 h1 188 a1 a2 a3 a4 = some (v, h2) ∧ Jnv h2
def Op_months (Inv Jnv : HP → Prop) : Prop := ∀ (h : HP) (a1 : Int32), Inv h → ∃ (v : Int32) (h1 : HP) (h2 : HP), f_X9_months 1000 h 0 a1 = some (v, h1) ∧ f_X10_months 1000 h1 188 a1 = some (v, h2) ∧ Jnv h2
def Op_brings (Inv Jnv : HP → Prop) : Prop := ∀ (h : HP) (a1 : Int32) (a2 : Int32) (a3 : Int32), Inv h → ∃ (v : Int32) (h1 : HP) (h2 : HP), f_X9_brings 1000 h 0 a1 a2 a3 = some (v, h1) ∧ f_X10_brings 1000 h1 188 a1 a2 a3 = some (v, h2) ∧ Jnv h2
def Op_lays (Inv Jnv : HP → Prop) : Prop := ∀ (h : HP) (a1 : Int32) (a2 : Int32) (a3 : Int32), Inv h → ∃ (v : Int32) (h1 : HP) (h2 : HP), f_X9_lays 1000 h 0 a1 a2 a3 = some (v, h1) ∧ f_X10_lays 1000 h1 188 a1 a2 a3 = some (v, h2) ∧ Jnv h2
def Op_spends (Inv Jnv : HP → Prop) : Prop := ∀ (h : HP) (a1 : Int32) (a2 : Int32) (a3 : Int32), Inv h → ∃ (v : Int32) (h1 : HP) (h2 : HP), f_X9_spends 1000 h 0 a1 a2 a3 = some (v, h1) ∧ f_X10_spends 1000 h1 188 a1 a2 a3 = some (v, h2) ∧ Jnv h2
def Op_taxes (Inv Jnv : HP → Prop) : Prop := ∀ (h : HP) (a1 : Int32) (a2 : Int32), Inv h → ∃ (v : Int32) (h1 : HP) (h2 : HP), f_X9_taxes 1000 h 0 a1 a2 = some (v, h1) ∧ f_X10_taxes 1000 h1 188 a1 a2 = some (v, h2) ∧ Jnv h2
def Op_burns (Inv Jnv : HP → Prop) : Prop := ∀ (h : HP) (a1 : Int32), Inv h → ∃ (v : Int32) (h1 : HP) (h2 : HP), f_X9_burns 1000 h 0 a1 = some (v, h1) ∧ f_X10_burns 1000 h1 188 a1 = some (v, h2) ∧ Jnv h2
def Op_port (Inv Jnv : HP → Prop) : Prop := ∀ (h : HP), Inv h → ∃ (v : Int32) (h1 : HP) (h2 : HP), f_X9_port 1000 h 0 = some (v, h1) ∧ f_X10_port 1000 h1 188 = some (v, h2) ∧ Jnv h2
def Op_flow (Inv Jnv : HP → Prop) : Prop := ∀ (h : HP) (a1 : Int32), Inv h → ∃ (v : Int32) (h1 : HP) (h2 : HP), f_X9_flow 1000 h 0 a1 = some (v, h1) ∧ f_X10_flow 1000 h1 188 a1 = some (v, h2) ∧ Jnv h2
def Op_year (Inv Jnv : HP → Prop) : Prop := ∀ (h : HP), Inv h → ∃ (v : Int32) (h1 : HP) (h2 : HP), f_X9_year 1000 h 0 = some (v, h1) ∧ f_X10_year 1000 h1 188 = some (v, h2) ∧ Jnv h2
def Op_undo (Inv Jnv : HP → Prop) : Prop := ∀ (h : HP), Inv h → ∃ (v : Int32) (h1 : HP) (h2 : HP), f_X9_undo 200 h 0 = some (v, h1) ∧ f_X10_undo 200 h1 188 = some (v, h2) ∧ Jnv h2
def Op_ahead (Inv Jnv : HP → Prop) : Prop := ∀ (h : HP) (a1 : Int32) (a2 : Int32), Inv h → ∃ (v : Int32) (h1 : HP) (h2 : HP), f_X9_ahead 200 h 0 a1 a2 = some (v, h1) ∧ f_X10_ahead 200 h1 188 a1 a2 = some (v, h2) ∧ Jnv h2
def Op_doubles (Inv Jnv : HP → Prop) : Prop := ∀ (h : HP) (a1 : Int32), Inv h → ∃ (v : Int32) (h1 : HP) (h2 : HP), f_X9_doubles 200 h 0 a1 = some (v, h1) ∧ f_X10_doubles 200 h1 188 a1 = some (v, h2) ∧ Jnv h2
def Op_trade (Inv Jnv : HP → Prop) : Prop := ∀ (h : HP) (a1 : Int32), Inv h → ∃ (v : Int32) (h1 : HP) (h2 : HP), f_X9_trade 200 h 0 a1 = some (v, h1) ∧ f_X10_trade 200 h1 188 a1 = some (v, h2) ∧ Jnv h2
def Op_buys (Inv Jnv : HP → Prop) : Prop := ∀ (h : HP) (a1 : Int32) (a2 : Int32) (a3 : Int32) (a4 : Int32), Inv h → ∃ (v : Int32) (h1 : HP) (h2 : HP), f_X9_buys 200 h 0 a1 a2 a3 a4 = some (v, h1) ∧ f_X10_buys 200 h1 188 a1 a2 a3 a4 = some (v, h2) ∧ Jnv h2
def Op_best (Inv Jnv : HP → Prop) : Prop := ∀ (h : HP) (a1 : Int32) (a2 : Int32) (a3 : Int32), Inv h → ∃ (v : Int32) (h1 : HP) (h2 : HP), f_X9_best 200 h 0 a1 a2 a3 = some (v, h1) ∧ f_X10_best 200 h1 188 a1 a2 a3 = some (v, h2) ∧ Jnv h2
def Op_closes (Inv Jnv : HP → Prop) : Prop := ∀ (h : HP) (a1 : Int32) (a2 : Int32) (a3 : Int32), Inv h → ∃ (v : Int32) (h1 : HP) (h2 : HP), f_X9_closes 1000 h 0 a1 a2 a3 = some (v, h1) ∧ f_X10_closes 1000 h1 188 a1 a2 a3 = some (v, h2) ∧ Jnv h2
def Op_grows (Inv Jnv : HP → Prop) : Prop := ∀ (h : HP) (a1 : Int32), Inv h → ∃ (v : Int32) (h1 : HP) (h2 : HP), f_X9_grows 200 h 0 a1 = some (v, h1) ∧ f_X10_grows 200 h1 188 a1 = some (v, h2) ∧ Jnv h2
def Op_reign (Inv Jnv : HP → Prop) : Prop := ∀ (h : HP) (a1 : Int32) (a2 : Int32) (a3 : Int32), Inv h → ∃ (v : Int32) (h1 : HP) (h2 : HP), f_X9_reign 1000 h 0 a1 a2 a3 = some (v, h1) ∧ f_X10_reign 1000 h1 188 a1 a2 a3 = some (v, h2) ∧ Jnv h2
def Op_melts (Inv Jnv : HP → Prop) : Prop := ∀ (h : HP) (a1 : Int32) (a2 : Int32) (a3 : Int32), Inv h → ∃ (v : Int32) (h1 : HP) (h2 : HP), f_X9_melts 200 h 0 a1 a2 a3 = some (v, h1) ∧ f_X10_melts 200 h1 188 a1 a2 a3 = some (v, h2) ∧ Jnv h2
def Op_when (Inv Jnv : HP → Prop) : Prop := ∀ (h : HP) (a1 : Int32) (a2 : Int32), Inv h → ∃ (v : Int32) (h1 : HP) (h2 : HP), f_X9_when 200 h 0 a1 a2 = some (v, h1) ∧ f_X10_when 200 h1 188 a1 a2 = some (v, h2) ∧ Jnv h2
def Op_rises (Inv Jnv : HP → Prop) : Prop := ∀ (h : HP) (a1 : Int32), Inv h → ∃ (v : Int32) (h1 : HP) (h2 : HP), f_X9_rises 200 h 0 a1 = some (v, h1) ∧ f_X10_rises 200 h1 188 a1 = some (v, h2) ∧ Jnv h2
def Op_caravan (Inv Jnv : HP → Prop) : Prop := ∀ (h : HP) (a1 : Int32), Inv h → ∃ (v : Int32) (h1 : HP) (h2 : HP), f_X9_caravan 1000 h 0 a1 = some (v, h1) ∧ f_X10_caravan 1000 h1 188 a1 = some (v, h2) ∧ Jnv h2
def Op_strings (Inv Jnv : HP → Prop) : Prop := ∀ (h : HP) (a1 : Int32) (a2 : Int32), Inv h → ∃ (v : Int32) (h1 : HP) (h2 : HP), f_X9_strings h 0 a1 a2 = some (v, h1) ∧ f_X10_strings h1 188 a1 a2 = some (v, h2) ∧ Jnv h2
def Op_counts (Inv Jnv : HP → Prop) : Prop := ∀ (h : HP) (a1 : Int32) (a2 : Int32), Inv h → ∃ (v : Int32) (h1 : HP) (h2 : HP), f_X9_counts 10100 h 0 a1 a2 = some (v, h1) ∧ f_X10_counts 10100 h1 188 a1 a2 = some (v, h2) ∧ Jnv h2
def Op_pays (Inv Jnv : HP → Prop) : Prop := ∀ (h : HP) (a1 : Int32), Inv h → ∃ (v : Int32) (h1 : HP) (h2 : HP), f_X9_pays 1000 h 0 a1 = some (v, h1) ∧ f_X10_pays 1000 h1 188 a1 = some (v, h2) ∧ Jnv h2
def Op_bearers (Inv Jnv : HP → Prop) : Prop := ∀ (h : HP) (a1 : Int32) (a2 : Int32), Inv h → ∃ (v : Int32) (h1 : HP) (h2 : HP), f_X9_bearers h 0 a1 a2 = some (v, h1) ∧ f_X10_bearers h1 188 a1 a2 = some (v, h2) ∧ Jnv h2
def Op_left (Inv Jnv : HP → Prop) : Prop := ∀ (h : HP) (a1 : Int32) (a2 : Int32), Inv h → ∃ (v : Int32) (h1 : HP) (h2 : HP), f_X9_left h 0 a1 a2 = some (v, h1) ∧ f_X10_left h1 188 a1 a2 = some (v, h2) ∧ Jnv h2
def Op_forget (Inv Jnv : HP → Prop) : Prop := ∀ (h : HP), Inv h → ∃ (v : Int32) (h1 : HP) (h2 : HP), f_X9_forget h 0 = some (v, h1) ∧ f_X10_forget h1 188 = some (v, h2) ∧ Jnv h2
def Op_fits (Inv Jnv : HP → Prop) : Prop := ∀ (h : HP), Inv h → ∃ (v : Int32) (h1 : HP) (h2 : HP), f_X9_fits 1100 h 0 = some (v, h1) ∧ f_X10_fits 1100 h1 188 = some (v, h2) ∧ Jnv h2
def Op_ask (Inv Jnv : HP → Prop) : Prop := ∀ (h : HP), Inv h → ∃ (v : Int32) (h1 : HP) (h2 : HP), f_X9_ask 1100 h 0 = some (v, h1) ∧ f_X10_ask 1100 h1 188 = some (v, h2) ∧ Jnv h2
def Op_sound (Inv Jnv : HP → Prop) : Prop := ∀ (h : HP) (a1 : Int32) (a2 : Int32) (a3 : Int32), Inv h → ∃ (v : Int32) (h1 : HP) (h2 : HP), f_X9_sound 100 h 0 a1 a2 a3 = some (v, h1) ∧ f_X10_sound 100 h1 188 a1 a2 a3 = some (v, h2) ∧ Jnv h2
def Op_finds (Inv Jnv : HP → Prop) : Prop := ∀ (h : HP) (a1 : Int32) (a2 : Int32) (a3 : Int32), Inv h → ∃ (v : Int32) (h1 : HP) (h2 : HP), f_X9_finds 100 h 0 a1 a2 a3 = some (v, h1) ∧ f_X10_finds 100 h1 188 a1 a2 a3 = some (v, h2) ∧ Jnv h2
def Op_law (Inv Jnv : HP → Prop) : Prop := ∀ (h : HP), Inv h → ∃ (v : Int32) (h1 : HP) (h2 : HP), f_X9_law 100 h 0 = some (v, h1) ∧ f_X10_law 100 h1 188 = some (v, h2) ∧ Jnv h2
def Op_rests (Inv Jnv : HP → Prop) : Prop := ∀ (h : HP) (a1 : Int32), Inv h → ∃ (v : Int32) (h1 : HP) (h2 : HP), f_X9_rests 200 h 0 a1 = some (v, h1) ∧ f_X10_rests 200 h1 188 a1 = some (v, h2) ∧ Jnv h2
def Op_years (Inv Jnv : HP → Prop) : Prop := ∀ (h : HP) (a1 : Int32) (a2 : Int32), Inv h → ∃ (v : Int32) (h1 : HP) (h2 : HP), f_X9_years 200 h 0 a1 a2 = some (v, h1) ∧ f_X10_years 200 h1 188 a1 a2 = some (v, h2) ∧ Jnv h2
def Op_keep (Inv Jnv : HP → Prop) : Prop := ∀ (h : HP) (a1 : Int32), Inv h → ∃ (v : Int32) (h1 : HP) (h2 : HP), f_X9_keep 200 h 0 a1 = some (v, h1) ∧ f_X10_keep 200 h1 188 a1 = some (v, h2) ∧ Jnv h2
def Op_again (Inv Jnv : HP → Prop) : Prop := ∀ (h : HP) (a1 : Int32), Inv h → ∃ (v : Int32) (h1 : HP) (h2 : HP), f_X9_again 200 h 0 a1 = some (v, h1) ∧ f_X10_again 200 h1 188 a1 = some (v, h2) ∧ Jnv h2
def Op_count (Inv Jnv : HP → Prop) : Prop := ∀ (h : HP) (a1 : Int32), Inv h → ∃ (v : Int32) (h2 : HP), f_X9_count 200 h 0 a1 = some v ∧ f_X10_count 200 h 188 a1 = some (v, h2) ∧ Jnv h2
def Op_row (Inv Jnv : HP → Prop) : Prop := ∀ (h : HP) (a1 : Int32), Inv h → ∃ (rp : Option Int64 × HP) (b : Int64) (h2 : HP) (t : Int32), f_X9_row h 0 a1 = some rp ∧ f_X10_row (rEJ h 219 rp).2 188 a1 = some (b, h2) ∧ f_X10_thrown h2 188 = some t ∧ t = (rEJ h 219 rp).1 ∧ ((rEJ h 219 rp).1 = 0 → h2.2.2.1 219 0 = b) ∧ Jnv h2
