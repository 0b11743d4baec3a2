/-! ===== texts: the String methods that the class and the check call, on String constants ===== -/
def IsS (a : Nat) : Prop := ∃ (i : Nat) (q : String × Nat × String × List Int32), a = SB + i ∧ strT[i]? = some q
def strO (s : Nat) : Option (List Int32) := if SB ≤ s then (match strT[s - SB]? with
  | some q => some q.2.2.2
  | none => none) else none
theorem strO_some {s : Nat} {b : List Int32} (h : strO s = some b) : ∃ (i : Nat) (q : String × Nat × String × List Int32), s = SB + i ∧ strT[i]? = some q ∧ q.2.2.2 = b := by
  unfold strO at h
  by_cases hs : SB ≤ s
  · rw [if_pos hs] at h
    cases hq : strT[s - SB]? with
    | none => rw [hq] at h; cases h
    | some q =>
      rw [hq] at h
      exact ⟨s - SB, q, by omega, hq, Option.some.inj h⟩
  · rw [if_neg hs] at h; cases h
section Text
variable {x : Cx} {cc : ByteArray} {own : String} {nL f pc : Nat} {L : List (Nat × Value)} {st rest : List Value} {h h1 : HP}
theorem wp_ldcS (ok : Okx x cc own nL f) {i index : Nat} {q : String × Nat × String × List Int32} (hq : strT[i]? = some q) (h1 : q.1 = own) (h2 : q.2.1 = index) (d : decode cc pc = .ok (.ldc index, 2)) (kk : wp x (pc + 2) L (.ref (SB + i) :: st) h) : wp x pc L st h := by
  obtain ⟨p, l, e, R, s, m, args, below, meth, c, fin, D, cA, A, ad, kc, ks⟩ := x
  obtain ⟨hx, hb, hown, hml, hts, hK, hA, hSt, hlk, hfr, hlo, hkc, hks⟩ := ok
  intro H locs ls hP hD hS hl
  have hz := (hSt.1 i q hq).1
  rw [h1, h2] at hz
  exact va_ldcS hx hb hown hz d (kk H locs ls hP hD hS hl)
theorem wp_ldcSw (ok : Okx x cc own nL f) {i index : Nat} {q : String × Nat × String × List Int32} (hq : strT[i]? = some q) (h1 : q.1 = own) (h2 : q.2.1 = index) (d : decode cc pc = .ok (.ldc_w index, 3)) (kk : wp x (pc + 3) L (.ref (SB + i) :: st) h) : wp x pc L st h := by
  obtain ⟨p, l, e, R, s, m, args, below, meth, c, fin, D, cA, A, ad, kc, ks⟩ := x
  obtain ⟨hx, hb, hown, hml, hts, hK, hA, hSt, hlk, hfr, hlo, hkc, hks⟩ := ok
  intro H locs ls hP hD hS hl
  have hz := (hSt.1 i q hq).1
  rw [h1, h2] at hz
  intro T hT X
  obtain ⟨t, a1, b1⟩ := kk H locs ls hP hD hS hl T hT X
  exact ⟨t, X.ldcStringW hx hown (text := q.2.2.1) (a := ad (SB + i)) hz.1 hz.2 (g := F0 m pc ls (st.map (tr ad))) rfl (by rw [hb]; exact d) t a1, b1⟩
theorem wp_sval (ok : Okx x cc own nL f) {i index : Nat} {q : String × Nat × String × List Int32} (hq : strT[i]? = some q) (hlink : Cond.fieldLink own index "java/lang/String" "value" "[B" ∈ gw) (d : decode cc pc = .ok (.getfield index, 3)) (kk : wp x (pc + 3) L (.ref (SB + 100 + i) :: st) h) : wp x pc L (.ref (SB + i) :: st) h := by
  obtain ⟨p, l, e, R, s, m, args, below, meth, c, fin, D, cA, A, ad, kc, ks⟩ := x
  obtain ⟨hx, hb, hown, hml, hts, hK, hA, hSt, hlk, hfr, hlo, hkc, hks⟩ := ok
  intro H locs ls hP hD hS hl
  exact vk_getf hx hb (hSt.1 i q hq).2.2.2.1 hS hown (hts _ hlink) (fun _ z => z) d (kk H locs ls hP hD hS hl)
theorem wp_scod (ok : Okx x cc own nL f) {i index : Nat} {q : String × Nat × String × List Int32} (hq : strT[i]? = some q) (hlink : Cond.fieldLink own index "java/lang/String" "code\x72" "B" ∈ gw) (d : decode cc pc = .ok (.getfield index, 3)) (kk : wp x (pc + 3) L (.int 0 :: st) h) : wp x pc L (.ref (SB + i) :: st) h := by
  obtain ⟨p, l, e, R, s, m, args, below, meth, c, fin, D, cA, A, ad, kc, ks⟩ := x
  obtain ⟨hx, hb, hown, hml, hts, hK, hA, hSt, hlk, hfr, hlo, hkc, hks⟩ := ok
  intro H locs ls hP hD hS hl
  exact vk_getf hx hb (hSt.1 i q hq).2.2.1 hS hown (hts _ hlink) (fun _ z => z) d (kk H locs ls hP hD hS hl)
theorem wp_slen (ok : Okx x cc own nL f) {i : Nat} {q : String × Nat × String × List Int32} (hq : strT[i]? = some q) (d : decode cc pc = .ok (.arraylength, 1)) (kk : wp x (pc + 1) L (.int (Int32.ofNat q.2.2.2.length) :: st) h) : wp x pc L (.ref (SB + 100 + i) :: st) h := by
  obtain ⟨p, l, e, R, s, m, args, below, meth, c, fin, D, cA, A, ad, kc, ks⟩ := x
  obtain ⟨hx, hb, hown, hml, hts, hK, hA, hSt, hlk, hfr, hlo, hkc, hks⟩ := ok
  intro H locs ls hP hD hS hl
  exact va_tlen hx hb (hSt.1 i q hq).2.2.2.2 hS rfl d (kk H locs ls hP hD hS hl)
theorem wp_sbyte (ok : Okx x cc own nL f) {i : Nat} {j : Int32} {q : String × Nat × String × List Int32} (hq : strT[i]? = some q) (hin : vp_in j q.2.2.2.length) (d : decode cc pc = .ok (.baload, 1)) (kk : wp x (pc + 1) L (.int (q.2.2.2.getD j.toNatClampNeg 0) :: st) h) : wp x pc L (.int j :: .ref (SB + 100 + i) :: st) h := by
  obtain ⟨p, l, e, R, s, m, args, below, meth, c, fin, D, cA, A, ad, kc, ks⟩ := x
  obtain ⟨hx, hb, hown, hml, hts, hK, hA, hSt, hlk, hfr, hlo, hkc, hks⟩ := ok
  intro H locs ls hP hD hS hl
  exact va_tb hx hb (hSt.1 i q hq).2.2.2.2 hS hin rfl d (kk H locs ls hP hD hS hl)
theorem wp_cmps (ok : Okx x cc own nL f) {index : Nat} (hlink : Cond.fieldLink own index "java/lang/String" "COMPACT_STRINGS" "Z" ∈ gw) (d : decode cc pc = .ok (.getstatic index, 3)) (kk : wp x (pc + 3) L (.int 1 :: st) h) : wp x pc L st h := by
  obtain ⟨p, l, e, R, s, m, args, below, meth, c, fin, D, cA, A, ad, kc, ks⟩ := x
  obtain ⟨hx, hb, hown, hml, hts, hK, hA, hSt, hlk, hfr, hlo, hkc, hks⟩ := ok
  intro H locs ls hP hD hS hl
  exact va_gets hx hb hSt.2.2.2.2.1 hS hown (hts _ hlink) (fun z hz => hz) d (kk H locs ls hP hD hS hl)
theorem wp_sio (ok : Okx x cc own nL f) {index : Nat} (hlink : Cond.fieldLink own index "jdk/internal/util/Preconditions" "SIOOBE_FORMATTER" "Ljava/util/function/BiFunction;" ∈ gw) (d : decode cc pc = .ok (.getstatic index, 3)) (kk : ∀ v : Value, v = .null ∨ v = .ref (SB + 300) → wp x (pc + 3) L (v :: st) h) : wp x pc L st h := by
  have k1 := kk .null (Or.inl rfl)
  have k2 := kk (.ref (SB + 300)) (Or.inr rfl)
  obtain ⟨p, l, e, R, s, m, args, below, meth, c, fin, D, cA, A, ad, kc, ks⟩ := x
  obtain ⟨hx, hb, hown, hml, hts, hK, hA, hSt, hlk, hfr, hlo, hkc, hks⟩ := ok
  intro H locs ls hP hD hS hl
  rcases hSt.2.2.2.2.2.2.2 with hz | hz
  · exact va_gets hx hb hz hS hown (hts _ hlink) (fun z hz => hz) d (k1 H locs ls hP hD hS hl)
  · exact va_gets hx hb hz hS hown (hts _ hlink) (fun z hz => hz) d (k2 H locs ls hP hD hS hl)
variable {y : MethodName} {cy : ByteArray} {nLy fy index n : Nat} {ret : Option FieldType} {As : List Value} {Q : Option Value → HP → Prop}
theorem wp_callT (ok : Okx x cc own nL f) {i : Nat} {q : String × Nat × String × List Int32} (hs : strT[i]? = some q) (hm : Mt (cxl x) y cy nLy ret fy (.ref (SB + i) :: As) h Q) (my : MyV y cy nLy ret) (hlink : Cond.methodLink own index y ∈ gw) (hd : (parseMethodDescriptor y.desc).map (fun d => d.parameters.length) = some n) (hf : fy + 1 ≤ f) (hnL : Nat.ble nLy 21 = true)
    (hc : y.cls = "java/lang/String") (hn : As.length = n) (hst : st = As.reverse ++ .ref (SB + i) :: rest) (hr : Nat.ble (rest.map fun v => v.category).sum 8 = true) (d : decode cc pc = .ok (.invokevirtual index, 3))
    (kk : ∀ (r : Option Value) (h' : HP), Q r h' → h'.1 = h.1 → wp x (pc + 3) L (r.toList ++ rest) h') : wp x pc L st h := by
  have hpre := pre_ok (h := h) ok
  obtain ⟨p, l, e, R, s, m, args, below, meth, c, fin, D, cA, A, ad, kc, ks⟩ := x
  obtain ⟨hx, hb, hown, hml, hts, hK, hA, hSt, hlk, hfr, hlo, hkc, hks⟩ := ok
  obtain ⟨m1, m2, m3, m4, m5, m6⟩ := my
  intro H locs ls hP hD hS hl
  have hnL' := Nat.le_of_ble_eq_true hnL
  have hp := hpre H locs (.ref (SB + i) :: As) hP hD hS
  have cw : CallW R s args own y.cls index y cy nLy ret (wsM y cy nLy ret) (rmF fy) 0 0 n := cwV n hts (gw1 hlink (gw1 m1 (gw1 m2 (gw1 m3 (gwC m4))))) rfl rfl rfl ⟨rfl, m5, m6, hd⟩ ⟨by show fy + 1 ≤ R.frames; omega, by show 8 + (nLy + 11) + 40 * fy ≤ R.locals; omega⟩
  have hrc := va_Orecv (hSt.1 i q hs).2.1 hS
  rw [← hc] at hrc
  have run := va_runV (As := As.map (tr ad)) (rest := rest.map (tr ad)) (g := F0 m pc ls (st.map (tr ad))) (H := H) (locs := locs) (cells := kc) (slots := ks) (below := below) (meth := meth) (nL := c.maxLocals) (e := e) ⟨hx, hb, rfl, hown, hts⟩ (hm D cA ad H.size) cw ⟨hp.1, hrc, hp.2⟩ rfl (by rw [List.length_map]; exact hn) hl.1 (by rw [hst]; simp [tr]) (by
    show 2 * 0 + _ ≤ 8
    rw [tr_sum]
    have := Nat.le_of_ble_eq_true hr
    omega) d ⟨hkc, hks⟩
  exact run_go hD hS hA hl run kk
theorem wp_callTi (ok : Okx x cc own nL f) {i : Nat} {q : String × Nat × String × List Int32} {v : Int32} (hs : strT[i]? = some q) (hm : Mt (cxl x) y cy nLy ret fy (.ref (SB + i) :: As) h (QI v h1)) (my : MyV y cy nLy ret) (hlink : Cond.methodLink own index y ∈ gw) (hd : (parseMethodDescriptor y.desc).map (fun d => d.parameters.length) = some n) (hf : fy + 1 ≤ f) (hnL : Nat.ble nLy 21 = true)
    (hc : y.cls = "java/lang/String") (hn : As.length = n) (hst : st = As.reverse ++ .ref (SB + i) :: rest) (hr : Nat.ble (rest.map fun v => v.category).sum 8 = true) (d : decode cc pc = .ok (.invokevirtual index, 3))
    (kk : h1.1 = h.1 → wp x (pc + 3) L (.int v :: rest) h1) : wp x pc L st h :=
  wp_callT ok hs hm my hlink hd hf hnL hc hn hst hr d (fun r h' hQ e => by obtain ⟨rfl, rfl⟩ := hQ; exact kk e)
/-- the same, the text by its number -/
theorem wp_callTI (ok : Okx x cc own nL f) {a : Nat} {v : Int32} (hm : Mt (cxl x) y cy nLy ret fy (.ref a :: As) h (QI v h1)) (my : MyV y cy nLy ret) (hlink : Cond.methodLink own index y ∈ gw) (hd : (parseMethodDescriptor y.desc).map (fun d => d.parameters.length) = some n) (hf : fy + 1 ≤ f) (hnL : Nat.ble nLy 21 = true)
    (hs : IsS a) (hc : y.cls = "java/lang/String") (hn : As.length = n) (hst : st = As.reverse ++ .ref a :: rest) (hr : Nat.ble (rest.map fun v => v.category).sum 8 = true) (d : decode cc pc = .ok (.invokevirtual index, 3))
    (kk : h1.1 = h.1 → wp x (pc + 3) L (.int v :: rest) h1) : wp x pc L st h := by
  obtain ⟨i, q, rfl, hq⟩ := hs
  exact wp_callTi ok hq hm my hlink hd hf hnL hc hn hst hr d kk
end Text
theorem wt_cmps : Cond.fieldLink RJ0 38 "java/lang/String" "COMPACT_STRINGS" "Z" ∈ gw := gw_t 391 (by decide +kernel) (by decide +kernel)
theorem wt_coder : Cond.fieldLink RJ0 15 "java/lang/String" "code\x72" "B" ∈ gw := gw_t 1635 (by decide +kernel) (by decide +kernel)
theorem wt_value : Cond.fieldLink RJ0 9 "java/lang/String" "value" "[B" ∈ gw := gw_t 1634 (by decide +kernel) (by decide +kernel)
theorem wt_sio : Cond.fieldLink RJ0 1053 "jdk/internal/util/Preconditions" "SIOOBE_FORMATTER" "Ljava/util/function/BiFunction;" ∈ gw := gw_t 432 (by decide +kernel) (by decide +kernel)
theorem wt_633 : Cond.methodLink RJ0 633 yJ0_indexOf_7cf53 ∈ gw := gw_t 383 (by decide +kernel) (by decide +kernel)
theorem wt_492 : Cond.methodLink RJ0 492 yJ0_isLatin1_aae02 ∈ gw := gw_t 387 (by decide +kernel) (by decide +kernel)
theorem wt_505 : Cond.methodLink RJ0 505 yJ0_length_8abf5 ∈ gw := gw_t 393 (by decide +kernel) (by decide +kernel)
theorem wt_335 : Cond.methodLink RJ0 335 yJ0_coder_7d493 ∈ gw := gw_t 397 (by decide +kernel) (by decide +kernel)
theorem wt_637 : Cond.methodLink RJ0 637 yJ1_indexOf_4cfef ∈ gw := gw_t 401 (by decide +kernel) (by decide +kernel)
theorem wtl_88 : Cond.methodLink RJ1 88 yJ1_canEncode_9a6ad ∈ gw := gw_t 404 (by decide +kernel) (by decide +kernel)
theorem wtl_92 : Cond.methodLink RJ1 92 yJ9_max_7cf53 ∈ gw := gw_t 407 (by decide +kernel) (by decide +kernel)
theorem wtl_38 : Cond.methodLink RJ1 38 yJ9_min_7cf53 ∈ gw := gw_t 410 (by decide +kernel) (by decide +kernel)
theorem wtl_95 : Cond.methodLink RJ1 95 yJ1_indexOfChar_4cfef ∈ gw := gw_t 411 (by decide +kernel) (by decide +kernel)
theorem wt_640 : Cond.methodLink RJ0 640 yJ2_indexOf_4cfef ∈ gw := gw_t 414 (by decide +kernel) (by decide +kernel)
theorem wt_1062 : Cond.methodLink RJ0 1062 yJ3_checkFromToIndex_8c36e ∈ gw := gw_t 434 (by decide +kernel) (by decide +kernel)
theorem wt_495 : Cond.methodLink RJ0 495 yJ1_charAt_3b067 ∈ gw := gw_t 674 (by decide +kernel) (by decide +kernel)
theorem wtl_9 : Cond.methodLink RJ1 9 yJ0_checkIndex_df160 ∈ gw := gw_t 677 (by decide +kernel) (by decide +kernel)
theorem wt_1059 : Cond.methodLink RJ0 1059 yJ3_checkIndex_8e157 ∈ gw := gw_t 680 (by decide +kernel) (by decide +kernel)
theorem wt_498 : Cond.methodLink RJ0 498 yJ2_charAt_3b067 ∈ gw := gw_t 683 (by decide +kernel) (by decide +kernel)
theorem my_J9_max_7cf53 : MyS yJ9_max_7cf53 cJ9_max_7cf53 2 (some (.int)) := ⟨gw_t 408 (by decide +kernel) (by decide +kernel), gw_t 13 (by decide +kernel) (by decide +kernel), gw_t 409 (by decide +kernel) (by decide +kernel), by decide +kernel, by decide +kernel⟩
theorem pd_J9_max_7cf53 : (parseMethodDescriptor yJ9_max_7cf53.desc).map (fun d => d.parameters.length) = some 2 := by decide +kernel
theorem my_J9_min_7cf53 : MyS yJ9_min_7cf53 cJ9_min_7cf53 2 (some (.int)) := ⟨gw_t 310 (by decide +kernel) (by decide +kernel), gw_t 13 (by decide +kernel) (by decide +kernel), gw_t 311 (by decide +kernel) (by decide +kernel), by decide +kernel, by decide +kernel⟩
theorem pd_J9_min_7cf53 : (parseMethodDescriptor yJ9_min_7cf53.desc).map (fun d => d.parameters.length) = some 2 := by decide +kernel
theorem my_J0_length_8abf5 : MyV yJ0_length_8abf5 cJ0_length_8abf5 1 (some (.int)) := ⟨gw_t 394 (by decide +kernel) (by decide +kernel), gw_t 395 (by decide +kernel) (by decide +kernel), gw_t 14 (by decide +kernel) (by decide +kernel), gw_t 396 (by decide +kernel) (by decide +kernel), by decide +kernel, by decide +kernel⟩
theorem pd_J0_length_8abf5 : (parseMethodDescriptor yJ0_length_8abf5.desc).map (fun d => d.parameters.length) = some 0 := by decide +kernel
theorem my_J0_isEmpty_aae02 : MyV yJ0_isEmpty_aae02 cJ0_isEmpty_aae02 1 (some (.boolean)) := ⟨gw_t 666 (by decide +kernel) (by decide +kernel), gw_t 667 (by decide +kernel) (by decide +kernel), gw_t 14 (by decide +kernel) (by decide +kernel), gw_t 668 (by decide +kernel) (by decide +kernel), by decide +kernel, by decide +kernel⟩
theorem pd_J0_isEmpty_aae02 : (parseMethodDescriptor yJ0_isEmpty_aae02.desc).map (fun d => d.parameters.length) = some 0 := by decide +kernel
theorem my_J0_charAt_5068e : MyV yJ0_charAt_5068e cJ0_charAt_5068e 2 (some (.char)) := ⟨gw_t 671 (by decide +kernel) (by decide +kernel), gw_t 672 (by decide +kernel) (by decide +kernel), gw_t 14 (by decide +kernel) (by decide +kernel), gw_t 673 (by decide +kernel) (by decide +kernel), by decide +kernel, by decide +kernel⟩
theorem pd_J0_charAt_5068e : (parseMethodDescriptor yJ0_charAt_5068e.desc).map (fun d => d.parameters.length) = some 1 := by decide +kernel
theorem my_J0_indexOf_0f7a4 : MyV yJ0_indexOf_0f7a4 cJ0_indexOf_0f7a4 2 (some (.int)) := ⟨gw_t 380 (by decide +kernel) (by decide +kernel), gw_t 381 (by decide +kernel) (by decide +kernel), gw_t 14 (by decide +kernel) (by decide +kernel), gw_t 382 (by decide +kernel) (by decide +kernel), by decide +kernel, by decide +kernel⟩
theorem pd_J0_indexOf_0f7a4 : (parseMethodDescriptor yJ0_indexOf_0f7a4.desc).map (fun d => d.parameters.length) = some 1 := by decide +kernel
theorem my_J0_indexOf_7cf53 : MyV yJ0_indexOf_7cf53 cJ0_indexOf_7cf53 3 (some (.int)) := ⟨gw_t 384 (by decide +kernel) (by decide +kernel), gw_t 385 (by decide +kernel) (by decide +kernel), gw_t 14 (by decide +kernel) (by decide +kernel), gw_t 386 (by decide +kernel) (by decide +kernel), by decide +kernel, by decide +kernel⟩
theorem pd_J0_indexOf_7cf53 : (parseMethodDescriptor yJ0_indexOf_7cf53.desc).map (fun d => d.parameters.length) = some 2 := by decide +kernel
theorem my_J0_coder_7d493 : MyV yJ0_coder_7d493 cJ0_coder_7d493 1 (some (.byte)) := ⟨gw_t 398 (by decide +kernel) (by decide +kernel), gw_t 399 (by decide +kernel) (by decide +kernel), gw_t 14 (by decide +kernel) (by decide +kernel), gw_t 400 (by decide +kernel) (by decide +kernel), by decide +kernel, by decide +kernel⟩
theorem pd_J0_coder_7d493 : (parseMethodDescriptor yJ0_coder_7d493.desc).map (fun d => d.parameters.length) = some 0 := by decide +kernel
theorem my_J0_isLatin1_aae02 : MyV yJ0_isLatin1_aae02 cJ0_isLatin1_aae02 1 (some (.boolean)) := ⟨gw_t 388 (by decide +kernel) (by decide +kernel), gw_t 389 (by decide +kernel) (by decide +kernel), gw_t 14 (by decide +kernel) (by decide +kernel), gw_t 390 (by decide +kernel) (by decide +kernel), by decide +kernel, by decide +kernel⟩
theorem pd_J0_isLatin1_aae02 : (parseMethodDescriptor yJ0_isLatin1_aae02.desc).map (fun d => d.parameters.length) = some 0 := by decide +kernel
theorem my_J0_checkIndex_df160 : MyS yJ0_checkIndex_df160 cJ0_checkIndex_df160 2 none := ⟨gw_t 678 (by decide +kernel) (by decide +kernel), gw_t 14 (by decide +kernel) (by decide +kernel), gw_t 679 (by decide +kernel) (by decide +kernel), by decide +kernel, by decide +kernel⟩
theorem pd_J0_checkIndex_df160 : (parseMethodDescriptor yJ0_checkIndex_df160.desc).map (fun d => d.parameters.length) = some 2 := by decide +kernel
theorem my_J0_checkBoundsBeginEnd_23922 : MyS yJ0_checkBoundsBeginEnd_23922 cJ0_checkBoundsBeginEnd_23922 3 none := ⟨gw_t 430 (by decide +kernel) (by decide +kernel), gw_t 14 (by decide +kernel) (by decide +kernel), gw_t 431 (by decide +kernel) (by decide +kernel), by decide +kernel, by decide +kernel⟩
theorem pd_J0_checkBoundsBeginEnd_23922 : (parseMethodDescriptor yJ0_checkBoundsBeginEnd_23922.desc).map (fun d => d.parameters.length) = some 3 := by decide +kernel
theorem my_J1_charAt_3b067 : MyS yJ1_charAt_3b067 cJ1_charAt_3b067 2 (some (.char)) := ⟨gw_t 675 (by decide +kernel) (by decide +kernel), gw_t 15 (by decide +kernel) (by decide +kernel), gw_t 676 (by decide +kernel) (by decide +kernel), by decide +kernel, by decide +kernel⟩
theorem pd_J1_charAt_3b067 : (parseMethodDescriptor yJ1_charAt_3b067.desc).map (fun d => d.parameters.length) = some 2 := by decide +kernel
theorem my_J1_canEncode_9a6ad : MyS yJ1_canEncode_9a6ad cJ1_canEncode_9a6ad 1 (some (.boolean)) := ⟨gw_t 405 (by decide +kernel) (by decide +kernel), gw_t 15 (by decide +kernel) (by decide +kernel), gw_t 406 (by decide +kernel) (by decide +kernel), by decide +kernel, by decide +kernel⟩
theorem pd_J1_canEncode_9a6ad : (parseMethodDescriptor yJ1_canEncode_9a6ad.desc).map (fun d => d.parameters.length) = some 1 := by decide +kernel
theorem my_J1_indexOf_4cfef : MyS yJ1_indexOf_4cfef cJ1_indexOf_4cfef 4 (some (.int)) := ⟨gw_t 402 (by decide +kernel) (by decide +kernel), gw_t 15 (by decide +kernel) (by decide +kernel), gw_t 403 (by decide +kernel) (by decide +kernel), by decide +kernel, by decide +kernel⟩
theorem pd_J1_indexOf_4cfef : (parseMethodDescriptor yJ1_indexOf_4cfef.desc).map (fun d => d.parameters.length) = some 4 := by decide +kernel
theorem my_J1_indexOfChar_4cfef : MyS yJ1_indexOfChar_4cfef cJ1_indexOfChar_4cfef 6 (some (.int)) := ⟨gw_t 412 (by decide +kernel) (by decide +kernel), gw_t 15 (by decide +kernel) (by decide +kernel), gw_t 413 (by decide +kernel) (by decide +kernel), by decide +kernel, by decide +kernel⟩
theorem pd_J1_indexOfChar_4cfef : (parseMethodDescriptor yJ1_indexOfChar_4cfef.desc).map (fun d => d.parameters.length) = some 4 := by decide +kernel
theorem my_J3_checkIndex_8e157 : MyS yJ3_checkIndex_8e157 cJ3_checkIndex_8e157 3 (some (.int)) := ⟨gw_t 681 (by decide +kernel) (by decide +kernel), gw_t 16 (by decide +kernel) (by decide +kernel), gw_t 682 (by decide +kernel) (by decide +kernel), by decide +kernel, by decide +kernel⟩
theorem pd_J3_checkIndex_8e157 : (parseMethodDescriptor yJ3_checkIndex_8e157.desc).map (fun d => d.parameters.length) = some 3 := by decide +kernel
section TextM
variable {l : Launch} {h : HP} {fr i : Nat} {q : String × Nat × String × List Int32}
theorem mt_coder (hq : strT[i]? = some q) : Mt l yJ0_coder_7d493 cJ0_coder_7d493 1 (some .byte) fr [.ref (SB + i)] h (QI 0 h) := by
  refine Mt.of (by decide +kernel) (Nat.le_of_ble_eq_true rfl) (fun x hl ok hF => ?_)
  show wp x 0 [(0, .ref (SB + i))] [] h
  refine wp_cmps ok wt_cmps dJ0_coder_7d493_0 ?_
  refine wp_if_eq (tgt := 13) ok dJ0_coder_7d493_3 (by decide) (fun c => absurd c (by decide)) (fun _ => ?_)
  refine wp_aload_n (v := SB + i) ok dJ0_coder_7d493_6 rfl ?_
  refine wp_scod ok hq wt_coder dJ0_coder_7d493_7 ?_
  refine wp_goto (tgt := 14) ok dJ0_coder_7d493_10 (by decide) ?_
  exact wp_iret ok hF rfl rfl ⟨rfl, rfl⟩ dJ0_coder_7d493_14
theorem mt_isLatin1 (hq : strT[i]? = some q) : Mt l yJ0_isLatin1_aae02 cJ0_isLatin1_aae02 1 (some .boolean) fr [.ref (SB + i)] h (QI 1 h) := by
  refine Mt.of (by decide +kernel) (Nat.le_of_ble_eq_true rfl) (fun x hl ok hF => ?_)
  show wp x 0 [(0, .ref (SB + i))] [] h
  refine wp_cmps ok wt_cmps dJ0_isLatin1_aae02_0 ?_
  refine wp_if_eq (tgt := 17) ok dJ0_isLatin1_aae02_3 (by decide) (fun c => absurd c (by decide)) (fun _ => ?_)
  refine wp_aload_n (v := SB + i) ok dJ0_isLatin1_aae02_6 rfl ?_
  refine wp_scod ok hq wt_coder dJ0_isLatin1_aae02_7 ?_
  refine wp_if_ne (tgt := 17) ok dJ0_isLatin1_aae02_10 (by decide) (fun c => absurd rfl c) (fun _ => ?_)
  refine wp_iconst (v := 1) ok dJ0_isLatin1_aae02_13 (by decide) ?_
  refine wp_goto (tgt := 18) ok dJ0_isLatin1_aae02_14 (by decide) ?_
  exact wp_iret ok hF rfl rfl ⟨rfl, rfl⟩ dJ0_isLatin1_aae02_18
theorem shr_0 (a : Int32) : shr a 0 = a := by
  unfold shr
  show a >>> (0 : Int32) = a
  exact sb_shr0 a
theorem mt_length (hq : strT[i]? = some q) (hfr : 1 ≤ fr) : Mt l yJ0_length_8abf5 cJ0_length_8abf5 1 (some .int) fr [.ref (SB + i)] h (QI (Int32.ofNat q.2.2.2.length) h) := by
  refine Mt.of (by decide +kernel) (Nat.le_of_ble_eq_true rfl) (fun x hl ok hF => ?_)
  show wp x 0 [(0, .ref (SB + i))] [] h
  refine wp_aload_n (v := SB + i) ok dJ0_length_8abf5_0 rfl ?_
  refine wp_sval ok hq wt_value dJ0_length_8abf5_1 ?_
  refine wp_slen ok hq dJ0_length_8abf5_4 ?_
  refine wp_aload_n (v := SB + i) ok dJ0_length_8abf5_5 rfl ?_
  refine wp_callTi (As := []) (rest := [.int (Int32.ofNat q.2.2.2.length)]) (h1 := h) ok hq (mt_coder (fr := 0) hq) my_J0_coder_7d493 wt_335 pd_J0_coder_7d493 (by omega) rfl rfl rfl rfl rfl dJ0_length_8abf5_6 (fun _ => ?_)
  refine wp_ishr ok dJ0_length_8abf5_9 ?_
  exact wp_iret ok hF rfl rfl ⟨by rw [shr_0], rfl⟩ dJ0_length_8abf5_10
theorem mt_isEmpty (hq : strT[i]? = some q) : Mt l yJ0_isEmpty_aae02 cJ0_isEmpty_aae02 1 (some .boolean) fr [.ref (SB + i)] h (QI (if Int32.ofNat q.2.2.2.length = 0 then 1 else 0) h) := by
  refine Mt.of (by decide +kernel) (Nat.le_of_ble_eq_true rfl) (fun x hl ok hF => ?_)
  show wp x 0 [(0, .ref (SB + i))] [] h
  refine wp_aload_n (v := SB + i) ok dJ0_isEmpty_aae02_0 rfl ?_
  refine wp_sval ok hq wt_value dJ0_isEmpty_aae02_1 ?_
  refine wp_slen ok hq dJ0_isEmpty_aae02_4 ?_
  refine wp_if_ne (tgt := 12) ok dJ0_isEmpty_aae02_5 (by decide) (fun c => ?_) (fun c => ?_)
  · refine wp_iconst (v := 0) ok dJ0_isEmpty_aae02_12 (by decide) ?_
    exact wp_iret ok hF rfl rfl ⟨by rw [if_neg c], rfl⟩ dJ0_isEmpty_aae02_13
  · refine wp_iconst (v := 1) ok dJ0_isEmpty_aae02_8 (by decide) ?_
    refine wp_goto (tgt := 13) ok dJ0_isEmpty_aae02_9 (by decide) ?_
    exact wp_iret ok hF rfl rfl ⟨by rw [if_pos c], rfl⟩ dJ0_isEmpty_aae02_13
/-! the index is tested -/
theorem mt_pre {j n : Int32} {v : Value} (hv : v = .null ∨ v = .ref (SB + 300)) (h0 : ¬ j < 0) (hn : j < n) : Mt l yJ3_checkIndex_8e157 cJ3_checkIndex_8e157 3 (some .int) fr [.int j, .int n, v] h (QI j h) := by
  refine Mt.of (by decide +kernel) (by rcases hv with rfl | rfl <;> exact Nat.le_of_ble_eq_true rfl) (fun x hl ok hF => ?_)
  have e1 : lv_args 0 [.int j, .int n, v] = [(0, .int j), (1, .int n), (2, v)] := rfl
  rw [e1]
  refine wp_iload_n (v := j) ok dJ3_checkIndex_8e157_0 rfl ?_
  refine wp_if_lt (tgt := 9) ok dJ3_checkIndex_8e157_1 (by decide) (fun c => absurd c h0) (fun _ => ?_)
  refine wp_iload_n (v := j) ok dJ3_checkIndex_8e157_4 rfl ?_
  refine wp_iload_n (v := n) ok dJ3_checkIndex_8e157_5 rfl ?_
  refine wp_icmp_lt (tgt := 16) ok dJ3_checkIndex_8e157_6 (by decide) (fun _ => ?_) (fun c => absurd hn c)
  refine wp_iload_n (v := j) ok dJ3_checkIndex_8e157_16 rfl ?_
  exact wp_iret ok hF rfl rfl ⟨rfl, rfl⟩ dJ3_checkIndex_8e157_17
theorem mt_chk {j n : Int32} (h0 : ¬ j < 0) (hn : j < n) (hfr : 1 ≤ fr) : Mt l yJ0_checkIndex_df160 cJ0_checkIndex_df160 2 none fr [.int j, .int n] h (QV h) := by
  refine Mt.of (by decide +kernel) (Nat.le_of_ble_eq_true rfl) (fun x hl ok hF => ?_)
  show wp x 0 [(0, .int j), (1, .int n)] [] h
  refine wp_iload_n (v := j) ok dJ0_checkIndex_df160_0 rfl ?_
  refine wp_iload_n (v := n) ok dJ0_checkIndex_df160_1 rfl ?_
  refine wp_sio ok wt_sio dJ0_checkIndex_df160_2 (fun v hv => ?_)
  refine wp_callSI (As := [.int j, .int n, v]) (rest := []) (h1 := h) ok (mt_pre (fr := 0) hv h0 hn) my_J3_checkIndex_8e157 wt_1059 pd_J3_checkIndex_8e157 (by omega) rfl rfl rfl rfl dJ0_checkIndex_df160_5 (fun _ => ?_)
  refine wp_pop ok dJ0_checkIndex_df160_8 rfl ?_
  exact wp_vret ok hF rfl ⟨rfl, rfl⟩ dJ0_checkIndex_df160_9
theorem strT_len (hq : strT[i]? = some q) : q.2.2.2.length < 100 := by
  have h1 : ∀ q ∈ strT, q.2.2.2.length < 100 := by decide
  exact h1 q (List.mem_of_getElem? hq)
theorem ofN_toInt {n : Nat} (hn : n < 100) : (Int32.ofNat n).toInt = n := nI_toInt (n := n) (by omega)
theorem mt_l1charAt {j : Int32} (hq : strT[i]? = some q) (hin : vp_in j q.2.2.2.length) (hfr : 2 ≤ fr) : Mt l yJ1_charAt_3b067 cJ1_charAt_3b067 2 (some .char) fr [.ref (SB + 100 + i), .int j] h (QI (i2c ((q.2.2.2.getD j.toNatClampNeg 0) &&& 255)) h) := by
  refine Mt.of (by decide +kernel) (Nat.le_of_ble_eq_true rfl) (fun x hl ok hF => ?_)
  show wp x 0 [(0, .ref (SB + 100 + i)), (1, .int j)] [] h
  have hb := vp_in_iff.mp hin
  have hlen := strT_len hq
  have h0 : ¬ j < 0 := fun c => by
    have := Int32.lt_iff_toInt_lt.mp c
    have e : (0 : Int32).toInt = 0 := by decide
    omega
  have hn : j < Int32.ofNat q.2.2.2.length := Int32.lt_iff_toInt_lt.mpr (by rw [ofN_toInt hlen]; omega)
  refine wp_iload_n (v := j) ok dJ1_charAt_3b067_0 rfl ?_
  refine wp_aload_n (v := SB + 100 + i) ok dJ1_charAt_3b067_1 rfl ?_
  refine wp_slen ok hq dJ1_charAt_3b067_2 ?_
  refine wp_callSV (As := [.int j, .int (Int32.ofNat q.2.2.2.length)]) (rest := []) (h1 := h) ok (mt_chk (fr := 1) h0 hn (Nat.le_refl _)) my_J0_checkIndex_df160 wtl_9 pd_J0_checkIndex_df160 (by omega) rfl rfl rfl rfl dJ1_charAt_3b067_3 (fun _ => ?_)
  refine wp_aload_n (v := SB + 100 + i) ok dJ1_charAt_3b067_6 rfl ?_
  refine wp_iload_n (v := j) ok dJ1_charAt_3b067_7 rfl ?_
  refine wp_sbyte ok hq hin dJ1_charAt_3b067_8 ?_
  refine wp_sipush (v := 255) ok dJ1_charAt_3b067_9 (by decide) ?_
  refine wp_iand ok dJ1_charAt_3b067_12 ?_
  refine wp_i2c ok dJ1_charAt_3b067_13 ?_
  exact wp_iret ok hF (pk_nc _) rfl ⟨rfl, rfl⟩ dJ1_charAt_3b067_14
theorem mt_charAt {j : Int32} (hq : strT[i]? = some q) (hin : vp_in j q.2.2.2.length) (hfr : 3 ≤ fr) : Mt l yJ0_charAt_5068e cJ0_charAt_5068e 2 (some .char) fr [.ref (SB + i), .int j] h (QI (i2c ((q.2.2.2.getD j.toNatClampNeg 0) &&& 255)) h) := by
  refine Mt.of (by decide +kernel) (Nat.le_of_ble_eq_true rfl) (fun x hl ok hF => ?_)
  show wp x 0 [(0, .ref (SB + i)), (1, .int j)] [] h
  refine wp_aload_n (v := SB + i) ok dJ0_charAt_5068e_0 rfl ?_
  refine wp_callTi (As := []) (rest := []) (h1 := h) ok hq (mt_isLatin1 (fr := 0) hq) my_J0_isLatin1_aae02 wt_492 pd_J0_isLatin1_aae02 (by omega) rfl rfl rfl rfl rfl dJ0_charAt_5068e_1 (fun _ => ?_)
  refine wp_if_eq (tgt := 16) ok dJ0_charAt_5068e_4 (by decide) (fun c => absurd c (by decide)) (fun _ => ?_)
  refine wp_aload_n (v := SB + i) ok dJ0_charAt_5068e_7 rfl ?_
  refine wp_sval ok hq wt_value dJ0_charAt_5068e_8 ?_
  refine wp_iload_n (v := j) ok dJ0_charAt_5068e_11 rfl ?_
  refine wp_callSI (As := [.ref (SB + 100 + i), .int j]) (rest := []) (h1 := h) ok (mt_l1charAt (fr := 2) hq hin (Nat.le_refl _)) my_J1_charAt_3b067 wt_495 pd_J1_charAt_3b067 (by omega) rfl rfl rfl rfl dJ0_charAt_5068e_12 (fun _ => ?_)
  exact wp_iret ok hF (pk_nc _) rfl ⟨rfl, rfl⟩ dJ0_charAt_5068e_15
def idxF (bs : List Int32) (b : Int32) : Nat → Nat → Int32
  | _, 0 => -1
  | k, n + 1 => if bs.getD k 0 = b then Int32.ofNat k else idxF bs b (k + 1) n
theorem mt_idxChar {c : Int32} (hq : strT[i]? = some q) : Mt l yJ1_indexOfChar_4cfef cJ1_indexOfChar_4cfef 6 (some .int) fr [.ref (SB + 100 + i), .int c, .int 0, .int (Int32.ofNat q.2.2.2.length)] h (QI (idxF q.2.2.2 (i2b c) 0 q.2.2.2.length) h) := by
  refine Mt.of (by decide +kernel) (Nat.le_of_ble_eq_true rfl) (fun x hl ok hF => ?_)
  show wp x 0 [(0, .ref (SB + 100 + i)), (1, .int c), (2, .int 0), (3, .int (Int32.ofNat q.2.2.2.length))] [] h
  have hlen := strT_len hq
  refine wp_iload_n (v := c) ok dJ1_indexOfChar_4cfef_0 rfl ?_
  refine wp_i2b ok dJ1_indexOfChar_4cfef_1 ?_
  refine wp_istore (L' := [(4, .int (i2b c)), (0, .ref (SB + 100 + i)), (1, .int c), (2, .int 0), (3, .int (Int32.ofNat q.2.2.2.length))]) ok dJ1_indexOfChar_4cfef_2 rfl rfl ?_
  refine wp_iload_n (v := 0) ok dJ1_indexOfChar_4cfef_4 rfl ?_
  refine wp_istore (L' := [(5, .int 0), (4, .int (i2b c)), (0, .ref (SB + 100 + i)), (1, .int c), (2, .int 0), (3, .int (Int32.ofNat q.2.2.2.length))]) ok dJ1_indexOfChar_4cfef_5 rfl rfl ?_
  refine wp_sub (L' := [(5, .int (Int32.ofNat 0)), (4, .int (i2b c)), (0, .ref (SB + 100 + i)), (3, .int (Int32.ofNat q.2.2.2.length))]) [0, 1, 2, 5] rfl ?_
  have key : ∀ (n k : Nat), k + n = q.2.2.2.length → idxF q.2.2.2 (i2b c) k n = idxF q.2.2.2 (i2b c) 0 q.2.2.2.length → wp x 7 [(5, .int (Int32.ofNat k)), (4, .int (i2b c)), (0, .ref (SB + 100 + i)), (3, .int (Int32.ofNat q.2.2.2.length))] [] h := by
    intro n
    induction n with
    | zero =>
      intro k hk he
      refine wp_iload (v := Int32.ofNat k) ok dJ1_indexOfChar_4cfef_7 rfl ?_
      refine wp_iload_n (v := Int32.ofNat q.2.2.2.length) ok dJ1_indexOfChar_4cfef_9 rfl ?_
      refine wp_icmp_ge (tgt := 31) ok dJ1_indexOfChar_4cfef_10 (by decide) (fun _ => ?_) (fun c9 => absurd (by rw [show k = q.2.2.2.length by omega]; exact Int32.le_refl _) c9)
      refine wp_iconst (v := -1) ok dJ1_indexOfChar_4cfef_31 (by decide) ?_
      exact wp_iret ok hF rfl rfl ⟨by rw [← he]; rfl, rfl⟩ dJ1_indexOfChar_4cfef_32
    | succ n ih =>
      intro k hk he
      have hki : (Int32.ofNat k).toInt = k := ofN_toInt (by omega)
      have hcl : (Int32.ofNat k).toNatClampNeg = k := nI_clamp (n := k) (by omega)
      refine wp_iload (v := Int32.ofNat k) ok dJ1_indexOfChar_4cfef_7 rfl ?_
      refine wp_iload_n (v := Int32.ofNat q.2.2.2.length) ok dJ1_indexOfChar_4cfef_9 rfl ?_
      refine wp_icmp_ge (tgt := 31) ok dJ1_indexOfChar_4cfef_10 (by decide) (fun c9 => ?_) (fun _ => ?_)
      · have := Int32.le_iff_toInt_le.mp c9
        rw [hki, ofN_toInt hlen] at this
        omega
      · refine wp_aload_n (v := SB + 100 + i) ok dJ1_indexOfChar_4cfef_13 rfl ?_
        refine wp_iload (v := Int32.ofNat k) ok dJ1_indexOfChar_4cfef_14 rfl ?_
        refine wp_sbyte ok hq (vp_in_iff.mpr (by rw [hki]; omega)) dJ1_indexOfChar_4cfef_16 ?_
        rw [hcl]
        refine wp_iload (v := i2b c) ok dJ1_indexOfChar_4cfef_17 rfl ?_
        have e9 : idxF q.2.2.2 (i2b c) k (n + 1) = if q.2.2.2.getD k 0 = i2b c then Int32.ofNat k else idxF q.2.2.2 (i2b c) (k + 1) n := rfl
        refine wp_icmp_ne (tgt := 25) ok dJ1_indexOfChar_4cfef_19 (by decide) (fun c9 => ?_) (fun c9 => ?_)
        · rw [if_neg c9] at e9
          refine wp_iinc (v := Int32.ofNat k) (w := 1) (L' := [(5, .int (Int32.ofNat (k + 1))), (4, .int (i2b c)), (0, .ref (SB + 100 + i)), (3, .int (Int32.ofNat q.2.2.2.length))]) ok dJ1_indexOfChar_4cfef_25 rfl (by decide) rfl (by rw [show Int32.ofNat k + 1 = Int32.ofNat (k + 1) from nI_1 k]; rfl) ?_
          refine wp_goto (tgt := 7) ok dJ1_indexOfChar_4cfef_28 (by decide) ?_
          exact ih (k + 1) (by omega) (e9.symm.trans he)
        · rw [if_pos c9] at e9
          refine wp_iload (v := Int32.ofNat k) ok dJ1_indexOfChar_4cfef_22 rfl ?_
          exact wp_iret ok hF rfl rfl ⟨by rw [← he, e9], rfl⟩ dJ1_indexOfChar_4cfef_24
  exact key q.2.2.2.length 0 (by omega) rfl
def idxS (bs : List Int32) (c : Int32) : Int32 := if c < 0 then -1 else if 255 < c then -1 else if bs.length = 0 then -1 else idxF bs (i2b c) 0 bs.length
theorem mt_canEnc {c : Int32} : Mt l yJ1_canEncode_9a6ad cJ1_canEncode_9a6ad 1 (some .boolean) fr [.int c] h (QI (if c < 0 then 0 else if 255 < c then 0 else 1) h) := by
  refine Mt.of (by decide +kernel) (Nat.le_of_ble_eq_true rfl) (fun x hl ok hF => ?_)
  show wp x 0 [(0, .int c)] [] h
  refine wp_iload_n (v := c) ok dJ1_canEncode_9a6ad_0 rfl ?_
  refine wp_if_lt (tgt := 15) ok dJ1_canEncode_9a6ad_1 (by decide) (fun c1 => ?_) (fun c1 => ?_)
  · refine wp_iconst (v := 0) ok dJ1_canEncode_9a6ad_15 (by decide) ?_
    exact wp_iret ok hF rfl rfl ⟨by rw [if_pos c1], rfl⟩ dJ1_canEncode_9a6ad_16
  · refine wp_iload_n (v := c) ok dJ1_canEncode_9a6ad_4 rfl ?_
    refine wp_sipush (v := 255) ok dJ1_canEncode_9a6ad_5 (by decide) ?_
    refine wp_icmp_gt (tgt := 15) ok dJ1_canEncode_9a6ad_8 (by decide) (fun c2 => ?_) (fun c2 => ?_)
    · refine wp_iconst (v := 0) ok dJ1_canEncode_9a6ad_15 (by decide) ?_
      exact wp_iret ok hF rfl rfl ⟨by rw [if_neg c1, if_pos c2], rfl⟩ dJ1_canEncode_9a6ad_16
    · refine wp_iconst (v := 1) ok dJ1_canEncode_9a6ad_11 (by decide) ?_
      refine wp_goto (tgt := 16) ok dJ1_canEncode_9a6ad_12 (by decide) ?_
      exact wp_iret ok hF rfl rfl ⟨by rw [if_neg c1, if_neg c2], rfl⟩ dJ1_canEncode_9a6ad_16
theorem mt_max {a b : Int32} : Mt l yJ9_max_7cf53 cJ9_max_7cf53 2 (some .int) fr [.int a, .int b] h (QI (if a < b then b else a) h) := by
  refine Mt.of (by decide +kernel) (Nat.le_of_ble_eq_true rfl) (fun x hl ok hF => ?_)
  show wp x 0 [(0, .int a), (1, .int b)] [] h
  refine wp_iload_n (v := a) ok dJ9_max_7cf53_0 rfl ?_
  refine wp_iload_n (v := b) ok dJ9_max_7cf53_1 rfl ?_
  refine wp_icmp_lt (tgt := 9) ok dJ9_max_7cf53_2 (by decide) (fun c => ?_) (fun c => ?_)
  · refine wp_iload_n (v := b) ok dJ9_max_7cf53_9 rfl ?_
    exact wp_iret ok hF rfl rfl ⟨by rw [if_pos c], rfl⟩ dJ9_max_7cf53_10
  · refine wp_iload_n (v := a) ok dJ9_max_7cf53_5 rfl ?_
    refine wp_goto (tgt := 10) ok dJ9_max_7cf53_6 (by decide) ?_
    exact wp_iret ok hF rfl rfl ⟨by rw [if_neg c], rfl⟩ dJ9_max_7cf53_10
theorem mt_min {a b : Int32} : Mt l yJ9_min_7cf53 cJ9_min_7cf53 2 (some .int) fr [.int a, .int b] h (QI (if b < a then b else a) h) := by
  refine Mt.of (by decide +kernel) (Nat.le_of_ble_eq_true rfl) (fun x hl ok hF => ?_)
  show wp x 0 [(0, .int a), (1, .int b)] [] h
  refine wp_iload_n (v := a) ok dJ9_min_7cf53_0 rfl ?_
  refine wp_iload_n (v := b) ok dJ9_min_7cf53_1 rfl ?_
  refine wp_icmp_gt (tgt := 9) ok dJ9_min_7cf53_2 (by decide) (fun c => ?_) (fun c => ?_)
  · refine wp_iload_n (v := b) ok dJ9_min_7cf53_9 rfl ?_
    exact wp_iret ok hF rfl rfl ⟨by rw [if_pos c], rfl⟩ dJ9_min_7cf53_10
  · refine wp_iload_n (v := a) ok dJ9_min_7cf53_5 rfl ?_
    refine wp_goto (tgt := 10) ok dJ9_min_7cf53_6 (by decide) ?_
    exact wp_iret ok hF rfl rfl ⟨by rw [if_neg c], rfl⟩ dJ9_min_7cf53_10
theorem mt_l1idx {c : Int32} (hq : strT[i]? = some q) (hfr : 1 ≤ fr) : Mt l yJ1_indexOf_4cfef cJ1_indexOf_4cfef 4 (some .int) fr [.ref (SB + 100 + i), .int c, .int 0, .int (Int32.ofNat q.2.2.2.length)] h (QI (idxS q.2.2.2 c) h) := by
  refine Mt.of (by decide +kernel) (Nat.le_of_ble_eq_true rfl) (fun x hl ok hF => ?_)
  show wp x 0 [(0, .ref (SB + 100 + i)), (1, .int c), (2, .int 0), (3, .int (Int32.ofNat q.2.2.2.length))] [] h
  have hlen := strT_len hq
  have e9 : idxS q.2.2.2 c = if c < 0 then -1 else if 255 < c then -1 else if q.2.2.2.length = 0 then -1 else idxF q.2.2.2 (i2b c) 0 q.2.2.2.length := rfl
  refine wp_iload_n (v := c) ok dJ1_indexOf_4cfef_0 rfl ?_
  refine wp_callSI (As := [.int c]) (rest := []) (h1 := h) ok (mt_canEnc (fr := 0)) my_J1_canEncode_9a6ad wtl_88 pd_J1_canEncode_9a6ad (by omega) rfl rfl rfl rfl dJ1_indexOf_4cfef_1 (fun _ => ?_)
  refine wp_if_ne (tgt := 9) ok dJ1_indexOf_4cfef_4 (by decide) (fun c1 => ?_) (fun c1 => ?_)
  · have c2 : ¬ c < 0 := fun z => c1 (by rw [if_pos z])
    have c3 : ¬ 255 < c := fun z => c1 (by rw [if_neg c2, if_pos z])
    rw [if_neg c2, if_neg c3] at e9
    refine wp_iload_n (v := 0) ok dJ1_indexOf_4cfef_9 rfl ?_
    refine wp_iconst (v := 0) ok dJ1_indexOf_4cfef_10 (by decide) ?_
    refine wp_callSI (v := 0) (As := [.int 0, .int 0]) (rest := []) (h1 := h) ok (mt_max (fr := 0) (a := 0) (b := 0)) my_J9_max_7cf53 wtl_92 pd_J9_max_7cf53 (by omega) rfl rfl rfl rfl dJ1_indexOf_4cfef_11 (fun _ => ?_)
    refine wp_istore_n (L' := [(2, .int 0), (0, .ref (SB + 100 + i)), (1, .int c), (3, .int (Int32.ofNat q.2.2.2.length))]) ok dJ1_indexOf_4cfef_14 rfl rfl ?_
    refine wp_iload_n (v := Int32.ofNat q.2.2.2.length) ok dJ1_indexOf_4cfef_15 rfl ?_
    refine wp_aload_n (v := SB + 100 + i) ok dJ1_indexOf_4cfef_16 rfl ?_
    refine wp_slen ok hq dJ1_indexOf_4cfef_17 ?_
    refine wp_callSI (v := Int32.ofNat q.2.2.2.length) (As := [.int (Int32.ofNat q.2.2.2.length), .int (Int32.ofNat q.2.2.2.length)]) (rest := []) (h1 := h) ok (by have k := mt_min (l := cxl x) (h := h) (fr := 0) (a := Int32.ofNat q.2.2.2.length) (b := Int32.ofNat q.2.2.2.length); rw [ite_self] at k; exact k) my_J9_min_7cf53 wtl_38 pd_J9_min_7cf53 (by omega) rfl rfl rfl rfl dJ1_indexOf_4cfef_18 (fun _ => ?_)
    refine wp_istore_n (L' := [(3, .int (Int32.ofNat q.2.2.2.length)), (2, .int 0), (0, .ref (SB + 100 + i)), (1, .int c)]) ok dJ1_indexOf_4cfef_21 rfl rfl ?_
    refine wp_iload_n (v := 0) ok dJ1_indexOf_4cfef_22 rfl ?_
    refine wp_iload_n (v := Int32.ofNat q.2.2.2.length) ok dJ1_indexOf_4cfef_23 rfl ?_
    have hz : (0 : Int32).toInt = 0 := by decide
    refine wp_icmp_lt (tgt := 29) ok dJ1_indexOf_4cfef_24 (by decide) (fun c4 => ?_) (fun c4 => ?_)
    · have hne : ¬ q.2.2.2.length = 0 := fun z => by
        have := Int32.lt_iff_toInt_lt.mp c4
        rw [ofN_toInt hlen, hz] at this
        omega
      rw [if_neg hne] at e9
      refine wp_aload_n (v := SB + 100 + i) ok dJ1_indexOf_4cfef_29 rfl ?_
      refine wp_iload_n (v := c) ok dJ1_indexOf_4cfef_30 rfl ?_
      refine wp_iload_n (v := 0) ok dJ1_indexOf_4cfef_31 rfl ?_
      refine wp_iload_n (v := Int32.ofNat q.2.2.2.length) ok dJ1_indexOf_4cfef_32 rfl ?_
      refine wp_callSI (As := [.ref (SB + 100 + i), .int c, .int 0, .int (Int32.ofNat q.2.2.2.length)]) (rest := []) (h1 := h) ok (mt_idxChar (fr := 0) hq) my_J1_indexOfChar_4cfef wtl_95 pd_J1_indexOfChar_4cfef (by omega) rfl rfl rfl rfl dJ1_indexOf_4cfef_33 (fun _ => ?_)
      exact wp_iret ok hF rfl rfl ⟨by rw [e9], rfl⟩ dJ1_indexOf_4cfef_36
    · have hne : q.2.2.2.length = 0 := by
        have : ¬ (0 : Int) < (Int32.ofNat q.2.2.2.length).toInt := fun z => c4 (Int32.lt_iff_toInt_lt.mpr (by rw [hz]; exact z))
        rw [ofN_toInt hlen] at this
        omega
      rw [if_pos hne] at e9
      refine wp_iconst (v := -1) ok dJ1_indexOf_4cfef_27 (by decide) ?_
      exact wp_iret ok hF rfl rfl ⟨by rw [e9], rfl⟩ dJ1_indexOf_4cfef_28
  · have e8 : idxS q.2.2.2 c = -1 := by
      by_cases c2 : c < 0
      · rw [e9, if_pos c2]
      · by_cases c3 : 255 < c
        · rw [e9, if_neg c2, if_pos c3]
        · rw [if_neg c2, if_neg c3] at c1
          exact absurd c1 (by decide)
    refine wp_iconst (v := -1) ok dJ1_indexOf_4cfef_7 (by decide) ?_
    exact wp_iret ok hF rfl rfl ⟨by rw [e8], rfl⟩ dJ1_indexOf_4cfef_8
theorem mt_idx2 {c : Int32} (hq : strT[i]? = some q) (hfr : 2 ≤ fr) : Mt l yJ0_indexOf_7cf53 cJ0_indexOf_7cf53 3 (some .int) fr [.ref (SB + i), .int c, .int 0] h (QI (idxS q.2.2.2 c) h) := by
  refine Mt.of (by decide +kernel) (Nat.le_of_ble_eq_true rfl) (fun x hl ok hF => ?_)
  show wp x 0 [(0, .ref (SB + i)), (1, .int c), (2, .int 0)] [] h
  refine wp_aload_n (v := SB + i) ok dJ0_indexOf_7cf53_0 rfl ?_
  refine wp_callTi (As := []) (rest := []) (h1 := h) ok hq (mt_isLatin1 (fr := 0) hq) my_J0_isLatin1_aae02 wt_492 pd_J0_isLatin1_aae02 (by omega) rfl rfl rfl rfl rfl dJ0_indexOf_7cf53_1 (fun _ => ?_)
  refine wp_if_eq (tgt := 23) ok dJ0_indexOf_7cf53_4 (by decide) (fun c => absurd c (by decide)) (fun _ => ?_)
  refine wp_aload_n (v := SB + i) ok dJ0_indexOf_7cf53_7 rfl ?_
  refine wp_sval ok hq wt_value dJ0_indexOf_7cf53_8 ?_
  refine wp_iload_n (v := c) ok dJ0_indexOf_7cf53_11 rfl ?_
  refine wp_iload_n (v := 0) ok dJ0_indexOf_7cf53_12 rfl ?_
  refine wp_aload_n (v := SB + i) ok dJ0_indexOf_7cf53_13 rfl ?_
  refine wp_callTi (As := []) (rest := [.int 0, .int c, .ref (SB + 100 + i)]) (h1 := h) ok hq (mt_length (fr := 1) hq (Nat.le_refl _)) my_J0_length_8abf5 wt_505 pd_J0_length_8abf5 (by omega) rfl rfl rfl rfl rfl dJ0_indexOf_7cf53_14 (fun _ => ?_)
  refine wp_callSI (As := [.ref (SB + 100 + i), .int c, .int 0, .int (Int32.ofNat q.2.2.2.length)]) (rest := []) (h1 := h) ok (mt_l1idx (fr := 1) hq (Nat.le_refl _)) my_J1_indexOf_4cfef wt_637 pd_J1_indexOf_4cfef (by omega) rfl rfl rfl rfl dJ0_indexOf_7cf53_17 (fun _ => ?_)
  refine wp_goto (tgt := 36) ok dJ0_indexOf_7cf53_20 (by decide) ?_
  exact wp_iret ok hF rfl rfl ⟨rfl, rfl⟩ dJ0_indexOf_7cf53_36
theorem mt_idx {c : Int32} (hq : strT[i]? = some q) (hfr : 3 ≤ fr) : Mt l yJ0_indexOf_0f7a4 cJ0_indexOf_0f7a4 2 (some .int) fr [.ref (SB + i), .int c] h (QI (idxS q.2.2.2 c) h) := by
  refine Mt.of (by decide +kernel) (Nat.le_of_ble_eq_true rfl) (fun x hl ok hF => ?_)
  show wp x 0 [(0, .ref (SB + i)), (1, .int c)] [] h
  refine wp_aload_n (v := SB + i) ok dJ0_indexOf_0f7a4_0 rfl ?_
  refine wp_iload_n (v := c) ok dJ0_indexOf_0f7a4_1 rfl ?_
  refine wp_iconst (v := 0) ok dJ0_indexOf_0f7a4_2 (by decide) ?_
  refine wp_callTi (As := [.int c, .int 0]) (rest := []) (h1 := h) ok hq (mt_idx2 (fr := 2) hq (Nat.le_refl _)) my_J0_indexOf_7cf53 wt_633 pd_J0_indexOf_7cf53 (by omega) rfl rfl rfl rfl rfl dJ0_indexOf_0f7a4_3 (fun _ => ?_)
  exact wp_iret ok hF rfl rfl ⟨rfl, rfl⟩ dJ0_indexOf_0f7a4_6
end TextM
/-! the four as functions -/
def f_J0_length_8abf5 (x0 : Nat) : Option Int32 := bnd (strO x0) (fun b => some (Int32.ofNat b.length))
def f_J0_isEmpty_aae02 (x0 : Nat) : Option Int32 := bnd (strO x0) (fun b => some (if Int32.ofNat b.length = 0 then 1 else 0))
def f_J0_charAt_5068e (x0 : Nat) (x1 : Int32) : Option Int32 := bnd (strO x0) (fun b => gP (ixd x1 b.length = true) (some (i2c ((b.getD x1.toNatClampNeg 0) &&& 255))))
def f_J0_indexOf_0f7a4 (x0 : Nat) (x1 : Int32) : Option Int32 := bnd (strO x0) (fun b => some (idxS b x1))
section TextF
variable {l : Launch} {h : HP} {fr x0 : Nat} {x1 rr : Int32}
theorem iS_of {b : List Int32} (hb : strO x0 = some b) : IsS x0 := by obtain ⟨i, q, e, hq, -⟩ := strO_some hb; exact ⟨i, q, e, hq⟩
theorem iS_J0_length_8abf5 (hq : f_J0_length_8abf5 x0 = some rr) : IsS x0 := by obtain ⟨b, hb, -⟩ := bnd_some hq; exact iS_of hb
theorem iS_J0_isEmpty_aae02 (hq : f_J0_isEmpty_aae02 x0 = some rr) : IsS x0 := by obtain ⟨b, hb, -⟩ := bnd_some hq; exact iS_of hb
theorem iS_J0_charAt_5068e (hq : f_J0_charAt_5068e x0 x1 = some rr) : IsS x0 := by obtain ⟨b, hb, -⟩ := bnd_some hq; exact iS_of hb
theorem iS_J0_indexOf_0f7a4 (hq : f_J0_indexOf_0f7a4 x0 x1 = some rr) : IsS x0 := by obtain ⟨b, hb, -⟩ := bnd_some hq; exact iS_of hb
theorem m_J0_length_8abf5 (hq : f_J0_length_8abf5 x0 = some rr) (hfr : 1 ≤ fr) : Mt l yJ0_length_8abf5 cJ0_length_8abf5 1 (some .int) fr [.ref x0] h (QI rr h) := by
  obtain ⟨b, hb, hr⟩ := bnd_some hq
  obtain ⟨i, q, rfl, hq2, rfl⟩ := strO_some hb
  rw [← Option.some.inj hr]
  exact mt_length hq2 hfr
theorem m_J0_isEmpty_aae02 (hq : f_J0_isEmpty_aae02 x0 = some rr) (_ : 0 ≤ fr) : Mt l yJ0_isEmpty_aae02 cJ0_isEmpty_aae02 1 (some .boolean) fr [.ref x0] h (QI rr h) := by
  obtain ⟨b, hb, hr⟩ := bnd_some hq
  obtain ⟨i, q, rfl, hq2, rfl⟩ := strO_some hb
  rw [← Option.some.inj hr]
  exact mt_isEmpty hq2
theorem m_J0_charAt_5068e (hq : f_J0_charAt_5068e x0 x1 = some rr) (hfr : 3 ≤ fr) : Mt l yJ0_charAt_5068e cJ0_charAt_5068e 2 (some .char) fr [.ref x0, .int x1] h (QI rr h) := by
  obtain ⟨b, hb, hr⟩ := bnd_some hq
  obtain ⟨i, q, rfl, hq2, rfl⟩ := strO_some hb
  obtain ⟨g, hr⟩ := gP_some hr
  rw [← Option.some.inj hr]
  exact mt_charAt hq2 (ix_lit g) hfr
theorem m_J0_indexOf_0f7a4 (hq : f_J0_indexOf_0f7a4 x0 x1 = some rr) (hfr : 3 ≤ fr) : Mt l yJ0_indexOf_0f7a4 cJ0_indexOf_0f7a4 2 (some .int) fr [.ref x0, .int x1] h (QI rr h) := by
  obtain ⟨b, hb, hr⟩ := bnd_some hq
  obtain ⟨i, q, rfl, hq2, rfl⟩ := strO_some hb
  rw [← Option.some.inj hr]
  exact mt_idx hq2 hfr
end TextF
