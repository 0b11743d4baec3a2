/-! ===== whole_start, but for the operations' claims ===== -/
set_option maxHeartbeats 4000000 in
theorem whole_from {Inv : Nat → HP → Prop} (sh : ∀ k h, Inv k h → h.1 = S0) (ops : ∀ k, k < 512 → Ops (Inv k) (Inv (k + 1))) (mono : ∀ k h, Inv k h → Inv (k + 1) h) (hI : Inv 0 (nw zX10_init_L (103, 1)))
    {p : Program} {e : Env} {s : State} {m : MethodId} {below : List Frame} {meth : Method} {c : Code} (l : Launch) (hflags : l.flags = flags0) {b L : Nat} {xs : Nat → Int32} (hL : L ≤ 2560) (C0 : lw_At p s m meth c b L xs) : W p l e room_1 s m #[Value.ref b] below meth c s.heap [] 0 0 (lw_Z below #[Value.ref b] s) (entryFrame m ([Value.ref b] : List Value).toArray 8) := by
  obtain ⟨hx, hb, hr, hml, hown, hts, hX, hbl, hlocks, hg⟩ := C0
  have hA : ∀ a : Nat, a < s.heap.size → ¬ (fun q : Nat => s.heap.size ≤ q) a := fun a h1 h2 => Nat.lt_irrefl _ (Nat.lt_of_lt_of_le h1 h2)
  generalize hAd : (fun q : Nat => s.heap.size ≤ q) = A at hA
  obtain ⟨D, hD⟩ := cls_ok hts
  obtain ⟨cA, hcA⟩ := arr_ok hts
  have hst : ∀ i : Nat, ∃ ab : Nat × Nat, ∀ q : String × Nat × String × List Int32, strT[i]? = some q → vk_R q.1 q.2.1 q.2.2.1 ab.1 s ∧ va_O "java/lang/String" ab.1 A s s.heap ∧ va_OF "java/lang/String" "coder" "B" (.int 0) ab.1 A s s.heap ∧ va_OF "java/lang/String" "value" "[B" (.ref ab.2) ab.1 A s s.heap ∧ va_T .byte ab.2 q.2.2.2.length (fun j => .int (q.2.2.2.getD j 0)) A s s.heap := fun i => by
    cases hq : strT[i]? with
    | none => exact ⟨(0, 0), fun q h => by cases h⟩
    | some q =>
      obtain ⟨ab, h⟩ := str_ok hts hg hA (List.mem_of_getElem? hq)
      exact ⟨ab, fun q' h' => by cases h'; exact h⟩
  have htb : ∀ i : Nat, ∃ t : Nat, ∀ q : String × List Int32, tabT[i]? = some q → va_Z RX9 q.1 "[I" (.ref t) A s s.heap ∧ va_T .int t q.2.length (fun j => .int (q.2.getD j 0)) A s s.heap := fun i => by
    cases hq : tabT[i]? with
    | none => exact ⟨0, fun q h => by cases h⟩
    | some q =>
      obtain ⟨t, h⟩ := tab_ok hts hg hA (List.mem_of_getElem? hq)
      exact ⟨t, fun q' h' => by cases h'; exact h⟩
  have fm : ∃ t : Nat, va_Z "jdk/internal/util/Preconditions" "SIOOBE_FORMATTER" "Ljava/util/function/BiFunction;" .null A s s.heap ∨ va_Z "jdk/internal/util/Preconditions" "SIOOBE_FORMATTER" "Ljava/util/function/BiFunction;" (.ref t) A s s.heap := by
    rcases va_Zqof (A := A) (hts (.laysStatic "jdk/internal/util/Preconditions" "SIOOBE_FORMATTER" "Ljava/util/function/BiFunction;") (by decide +kernel)) (hts (.initialized "jdk/internal/util/Preconditions") (by decide +kernel)) (flat_of_before _ hg (.isRef (.static "jdk/internal/util/Preconditions" "SIOOBE_FORMATTER" "Ljava/util/function/BiFunction;")) (by decide +kernel)) hA with h | ⟨t, h⟩
    · exact ⟨0, Or.inl h⟩
    · exact ⟨t, Or.inr h⟩
  obtain ⟨tf, hfm⟩ := fm
  obtain ⟨ad, had⟩ : ∃ ad : Nat → Nat, ad = fun k => if k < SB then s.heap.size + k else if k < SB + 100 then (Classical.choose (hst (k - SB))).1 else if k < SB + 200 then (Classical.choose (hst (k - SB - 100))).2 else if k < SB + 300 then Classical.choose (htb (k - SB - 200)) else if k < SB + 400 then tf else b := ⟨_, rfl⟩
  have ad0 : ∀ k : Nat, k < SB → ad k = s.heap.size + k := fun k hk => by rw [had]; exact if_pos hk
  have ad1 : ∀ i : Nat, i < 100 → ad (SB + i) = (Classical.choose (hst i)).1 := fun i hi => by
    rw [had]
    show (if SB + i < SB then _ else if SB + i < SB + 100 then _ else _) = _
    rw [if_neg (by omega), if_pos (by omega), show SB + i - SB = i by omega]
  have ad2 : ∀ i : Nat, i < 100 → ad (SB + 100 + i) = (Classical.choose (hst i)).2 := fun i hi => by
    rw [had]
    show (if SB + 100 + i < SB then _ else if SB + 100 + i < SB + 100 then _ else if SB + 100 + i < SB + 200 then _ else _) = _
    rw [if_neg (by omega), if_neg (by omega), if_pos (by omega), show SB + 100 + i - SB - 100 = i by omega]
  have ad3 : ∀ i : Nat, i < 100 → ad (SB + 200 + i) = Classical.choose (htb i) := fun i hi => by
    rw [had]
    show (if SB + 200 + i < SB then _ else if SB + 200 + i < SB + 100 then _ else if SB + 200 + i < SB + 200 then _ else if SB + 200 + i < SB + 300 then _ else _) = _
    rw [if_neg (by omega), if_neg (by omega), if_neg (by omega), if_pos (by omega), show SB + 200 + i - SB - 200 = i by omega]
  have ad4 : ad (SB + 300) = tf := by
    rw [had]
    show (if SB + 300 < SB then _ else if SB + 300 < SB + 100 then _ else if SB + 300 < SB + 200 then _ else if SB + 300 < SB + 300 then _ else if SB + 300 < SB + 400 then _ else _) = _
    rw [if_neg (by omega), if_neg (by omega), if_neg (by omega), if_neg (by omega), if_pos (by omega)]
  have ad5 : ad (SB + 400) = b := by
    rw [had]
    show (if SB + 400 < SB then _ else if SB + 400 < SB + 100 then _ else if SB + 400 < SB + 200 then _ else if SB + 400 < SB + 300 then _ else if SB + 400 < SB + 400 then _ else _) = _
    rw [if_neg (by omega), if_neg (by omega), if_neg (by omega), if_neg (by omega), if_neg (by omega)]
  have hSta : Sta ad A s := by
    refine ⟨fun i q hi => ?_, fun i q hi => ?_, fun q hq => va_Nw.of rfl (hts _ (nm_in q hq)), fun q hq => va_Nw.of rfl (hts _ (nf_in q hq)), ?_, ?_, ?_, ?_⟩
    · have hlt : i < 16 := (List.getElem?_eq_some_iff.mp hi).1
      have h := Classical.choose_spec (hst i) q hi
      unfold SStr
      rw [ad1 i (by omega), ad2 i (by omega)]
      exact h
    · have hlt : i < 2 := (List.getElem?_eq_some_iff.mp hi).1
      have h := Classical.choose_spec (htb i) q hi
      unfold STab
      rw [ad3 i (by omega)]
      exact h
    · exact va_Zof (hts _ (by decide +kernel)) (hts _ (by decide +kernel)) (ev_eq (flat_of_before _ hg (.eq (.static "java/lang/String" "COMPACT_STRINGS" "Z") (.int 1)) (by decide +kernel))) hA
    · exact vx_Zqof (hts _ (by decide +kernel)) (hts _ (by decide +kernel)) (flat_of_before _ hg _ (by decide +kernel)) hA
    · exact vx_Zqof (hts _ (by decide +kernel)) (hts _ (by decide +kernel)) (flat_of_before _ hg _ (by decide +kernel)) hA
    · rw [ad4]
      exact hfm
  have hgw : ∀ w ∈ gw, w.before #[Value.ref b] s = true := fun w hw => hts w (gw_lw w hw)
  have hstk : l.stackTraces = false := by
    unfold Launch.stackTraces
    rw [hflags]
    decide
  have key := law_start (x := (p, l, e, room_1, s, m, #[Value.ref b], below, meth, c, lw_Z below #[Value.ref b] s, D, cA, A, ad, 0, 0)) (Ln := L) (xs := xs)
    (fun k n hk hn => ⟨hx, hb, hown, hml, hgw, ⟨hD, hcA⟩, fun q hq => by rw [← hAd]; exact hq, hSta, hlocks, Nat.le_of_ble_eq_true rfl, Nat.le_of_ble_eq_true rfl, hk, hn⟩)
    ⟨⟨s.heap.size, ad0, rfl⟩, Nat.le_of_ble_eq_true rfl⟩ ⟨va_AO.of (hts _ (by decide +kernel)), va_AOA.of (hts _ (by decide +kernel))⟩ ⟨by rw [ad5]; exact hX, by rw [ad5]; exact hbl, by rw [ad5]; exact hA b hbl⟩ (fun w hw => by
      have h0 := hts w (eB_in w hw)
      simp only [eB, List.mem_cons, List.not_mem_nil, or_false] at hw
      rcases hw with rfl | rfl | rfl | rfl <;> exact va_Nw.of rfl h0) hstk hL sh ops mono (fun H locs ls k n hk hn hl => va_forget (fun q hq => by
      have h1 := hl q hq
      rw [← hAd] at h1
      exact h1) (W.widen hk hn (lw_ret hx hb hr hlocks dL_law_1802))) hI
  have hl := lv_entry [Value.ref b] (n := 8) (by show 1 ≤ 8; omega)
  rw [lg_entry_eq]
  rw [← ad5] at hl
  rw [← hml] at hl ⊢
  have hargs : (lv_args 0 [Value.ref (ad (SB + 400))]) = trL ad [(0, .ref (SB + 400))] := rfl
  rw [hargs] at hl
  have hw0 : ws cA ad zE = [] := rfl
  have hP0 : va_P D vwCl (ws cA ad zE) s.heap := by
    rw [hw0]
    intro k q hq
    cases hq
  have hD0 : va_D A (ws cA ad zE) := by
    rw [hw0]
    exact ⟨fun i j q r hi _ _ => (by cases hi), fun k q hq => (by cases hq)⟩
  have key' : wp (p, l, e, room_1, s, m, #[Value.ref b], below, meth, c, lw_Z below #[Value.ref b] s, D, cA, A, ad, 0, 0) 0 [(0, .ref (SB + 400))] [] zE := key
  have k0 := key' s.heap [] _ hP0 hD0 va_S.rf hl
  rw [ad5] at k0
  exact k0
