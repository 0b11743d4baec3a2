/-! ===== copies; String constants; static tables ===== -/
def cpok (sp dp n : Int32) (a b : Nat) : Bool := decide (0 ≤ sp.toInt) && decide (0 ≤ dp.toInt) && decide (0 ≤ n.toInt) && decide (sp.toInt + n.toInt ≤ a) && decide (dp.toInt + n.toInt ≤ b)
def tabv (i j : Nat) : Int32 := ((tabT.getD i ("", [])).2).getD j 0
def cpyI (h : HP) (a b : Nat) (sp dp n : Int32) : HP := (h.1, va_up h.2.1 b (va_cpy (h.2.1 a) (h.2.1 b) sp.toNatClampNeg dp.toNatClampNeg n.toNatClampNeg), h.2.2)
def cpyT (h : HP) (i b : Nat) (sp dp n : Int32) : HP := (h.1, va_up h.2.1 b (va_cpy (tabv i) (h.2.1 b) sp.toNatClampNeg dp.toNatClampNeg n.toNatClampNeg), h.2.2)
theorem nn_of {z : Int32} (h : 0 ≤ z.toInt) : ¬ z < 0 ∧ z.toInt = (z.toNatClampNeg : Int) := by
  refine ⟨fun q => ?_, ?_⟩
  · have := Int32.lt_iff_toInt_lt.mp q
    have e : (0 : Int32).toInt = 0 := by decide
    omega
  · show z.toInt = ((z.toInt.toNat : Nat) : Int)
    omega
theorem cp_ok {sp dp n : Int32} {a b : Nat} (h : cpok sp dp n a b = true) : ¬ sp < 0 ∧ ¬ dp < 0 ∧ ¬ n < 0 ∧ sp.toNatClampNeg + n.toNatClampNeg ≤ a ∧ dp.toNatClampNeg + n.toNatClampNeg ≤ b := by
  unfold cpok at h
  simp only [Bool.and_eq_true, decide_eq_true_eq] at h
  obtain ⟨⟨⟨⟨h1, h2⟩, h3⟩, h4⟩, h5⟩ := h
  have q1 := nn_of h1
  have q2 := nn_of h2
  have q3 := nn_of h3
  exact ⟨q1.1, q2.1, q3.1, by omega, by omega⟩
theorem cp_of {h : HP} {a b n0 n1 : Nat} {k0 k1 : Nat} {sp dp n : Int32} (fa : h.1[a]? = some (k0, n0)) (fb : h.1[b]? = some (k1, n1)) (g : cpok sp dp n (lenH h a) (lenH h b) = true) : cpok sp dp n n0 n1 = true := by rw [len_of fa, len_of fb] at g; exact g
theorem cpT_of {h : HP} {b n1 k1 m : Nat} {sp dp n : Int32} (fb : h.1[b]? = some (k1, n1)) (g : cpok sp dp n m (lenH h b) = true) : cpok sp dp n m n1 = true := by rw [len_of fb] at g; exact g
theorem ix_lit {i : Int32} {n : Nat} (hi : ixd i n = true) : vp_in i n := by
  unfold ixd at hi
  simp only [Bool.and_eq_true, decide_eq_true_eq] at hi
  exact vp_in_iff.mpr hi
theorem ac_nat : Cond.native arraycopyName ∈ gw := gw_t 207 (by decide +kernel) (by decide +kernel)
theorem ac_sta : Cond.static arraycopyName ∈ gw := gw_t 206 (by decide +kernel) (by decide +kernel)
theorem ac_sys : Cond.initialized "java/lang/System" ∈ gw := gw_t 11 (by decide +kernel) (by decide +kernel)
section Stat
variable {x : Cx} {cc : ByteArray} {own : String} {nL f pc : Nat} {L : List (Nat × Value)} {st rest : List Value} {h : HP}
theorem wp_copyI (ok : Okx x cc own nL f) {a b n0 n1 index : Nat} {sp dp n : Int32} (hf : 1 ≤ f) (hlink : Cond.methodLink own index arraycopyName ∈ gw) (ha : h.1[a]? = some (102, n0)) (hb2 : h.1[b]? = some (102, n1)) (hc : cpok sp dp n n0 n1 = true) (hr : Nat.ble (rest.map fun v => v.category).sum 8 = true) (d : decode cc pc = .ok (.invokestatic index, 3)) (kk : wp x (pc + 3) L rest (cpyI h a b sp dp n)) : wp x pc L (.int n :: .int dp :: .ref b :: .int sp :: .ref a :: rest) h := by
  obtain ⟨p, l, e, R, s, m, args, below, meth, c, fin, D, cA, A, ad, kc, ks⟩ := x
  obtain ⟨hx, hb, hown, hml, hts, hK, hA, hSt, hlk, hfr, hlo, hkc, hks⟩ := ok
  intro H locs ls hP hD hS hl
  obtain ⟨h1, h2, h3, h4, h5⟩ := cp_ok hc
  have he : (ws cA ad h)[a]? = some (ad a, aent cA ad h a 102 n0) := ws_at (cA := cA) (ad := ad) ha
  have he2 : (ws cA ad h)[b]? = some (ad b, aent cA ad h b 102 n1) := ws_at (cA := cA) (ad := ad) hb2
  have hr' := Nat.le_of_ble_eq_true hr
  have hw5 : nativeFrameWords "java/lang/System" "arraycopy" 5 = 7 := by decide +kernel
  refine va_copyi hx hb hl.1.symm hown (hts _ hlink) (hts _ ac_nat) (hts _ ac_sta) (hts _ ac_sys) hK hP hD hS a b 1 1 he he2 rfl rfl rfl h1 h2 h3 h4 h5 (fun i hi => rfl) (by omega) (by rw [tr_sum, hw5]; omega) d (fun H1 locs1 hP1 hD1 hS1 => ?_)
  have e1 : (ws cA ad h).set b (ad b, .inl (cA 102, n1, .inl (va_cpy (h.2.1 a) (h.2.1 b) sp.toNatClampNeg dp.toNatClampNeg n.toNatClampNeg))) = ws cA ad (cpyI h a b sp dp n) := ws_set rfl hb2 (fun b' q hq => ent_cong (h := h) (h' := cpyI h a b sp dp n) (va_up_ne _ _ hq) rfl rfl q) (by simp [ent, aent, cpyI, va_up])
  exact kk H1 locs1 ls (Eq.mp (congrArg (fun w => va_P D vwCl w H1) e1) hP1) (Eq.mp (congrArg (fun w => va_D A w) e1) hD1) hS1 hl
theorem wp_gets (ok : Okx x cc own nL f) {i index : Nat} {q : String × List Int32} (hq : tabT[i]? = some q) (hlink : Cond.fieldLink own index RX9 q.1 "[I" ∈ gw) (d : decode cc pc = .ok (.getstatic index, 3)) (kk : wp x (pc + 3) L (.ref (SB + (200 + i)) :: st) h) : wp x pc L st h := by
  obtain ⟨p, l, e, R, s, m, args, below, meth, c, fin, D, cA, A, ad, kc, ks⟩ := x
  obtain ⟨hx, hb, hown, hml, hts, hK, hA, hSt, hlk, hfr, hlo, hkc, hks⟩ := ok
  intro H locs ls hP hD hS hl
  have hz := (hSt.2.1 i q hq).1
  rw [Nat.add_assoc] at hz
  exact va_gets hx hb hz hS hown (hts _ hlink) (fun z hz => hz) d (kk H locs ls hP hD hS hl)
theorem wp_getsN (ok : Okx x cc own nL f) {i index : Nat} {host : String} {q : String × List Int32} (hq : tabT[i]? = some q) (hlink : (own, index, RX9, q.1, "[I", host) ∈ nestF) (d : decode cc pc = .ok (.getstatic index, 3)) (kk : wp x (pc + 3) L (.ref (SB + (200 + i)) :: st) h) : wp x pc L st h := by
  obtain ⟨p, l, e, R, s, m, args, below, meth, c, fin, D, cA, A, ad, kc, ks⟩ := x
  obtain ⟨hx, hb, hown, hml, hts, hK, hA, hSt, hlk, hfr, hlo, hkc, hks⟩ := ok
  intro H locs ls hP hD hS hl
  have hz := (hSt.2.1 i q hq).1
  rw [Nat.add_assoc] at hz
  exact va_getsN hx hb hz hS hown (va_Nw.use rfl (hSt.2.2.2.1 _ hlink)) (fun z hz => hz) d (kk H locs ls hP hD hS hl)
theorem wp_tald (ok : Okx x cc own nL f) {i : Nat} {j : Int32} {q : String × List Int32} (hq : tabT[i]? = some q) (hin : vp_in j q.2.length) (d : decode cc pc = .ok (.iaload, 1)) (kk : wp x (pc + 1) L (.int (tabv i j.toNatClampNeg) :: st) h) : wp x pc L (.int j :: .ref (SB + (200 + i)) :: st) h := by
  obtain ⟨p, l, e, R, s, m, args, below, meth, c, fin, D, cA, A, ad, kc, ks⟩ := x
  obtain ⟨hx, hb, hown, hml, hts, hK, hA, hSt, hlk, hfr, hlo, hkc, hks⟩ := ok
  intro H locs ls hP hD hS hl
  have hz := (hSt.2.1 i q hq).2
  rw [Nat.add_assoc] at hz
  have hv : tabv i j.toNatClampNeg = q.2.getD j.toNatClampNeg 0 := by unfold tabv; rw [show tabT.getD i ("", []) = q from by rw [List.getD_eq_getElem?_getD, hq]; rfl]
  rw [hv] at kk
  exact va_ti hx hb hz hS hin rfl d (kk H locs ls hP hD hS hl)
theorem wp_tlen (ok : Okx x cc own nL f) {i : Nat} {v : Int32} {q : String × List Int32} (hq : tabT[i]? = some q) (hv : Int32.ofNat q.2.length = v) (d : decode cc pc = .ok (.arraylength, 1)) (kk : wp x (pc + 1) L (.int v :: st) h) : wp x pc L (.ref (SB + (200 + i)) :: st) h := by
  obtain ⟨p, l, e, R, s, m, args, below, meth, c, fin, D, cA, A, ad, kc, ks⟩ := x
  obtain ⟨hx, hb, hown, hml, hts, hK, hA, hSt, hlk, hfr, hlo, hkc, hks⟩ := ok
  intro H locs ls hP hD hS hl
  have hz := (hSt.2.1 i q hq).2
  rw [Nat.add_assoc] at hz
  exact va_tlen hx hb hz hS hv d (kk H locs ls hP hD hS hl)
theorem wp_copyT (ok : Okx x cc own nL f) {i b n1 index : Nat} {sp dp n : Int32} {q : String × List Int32} (hf : 1 ≤ f) (hq : tabT[i]? = some q) (hlink : Cond.methodLink own index arraycopyName ∈ gw) (hb2 : h.1[b]? = some (102, n1)) (hc : cpok sp dp n q.2.length n1 = true) (hr : Nat.ble (rest.map fun v => v.category).sum 8 = true) (d : decode cc pc = .ok (.invokestatic index, 3)) (kk : wp x (pc + 3) L rest (cpyT h i b sp dp n)) : wp x pc L (.int n :: .int dp :: .ref b :: .int sp :: .ref (SB + (200 + i)) :: rest) h := by
  obtain ⟨p, l, e, R, s, m, args, below, meth, c, fin, D, cA, A, ad, kc, ks⟩ := x
  obtain ⟨hx, hb, hown, hml, hts, hK, hA, hSt, hlk, hfr, hlo, hkc, hks⟩ := ok
  intro H locs ls hP hD hS hl
  obtain ⟨g1, g2, g3, g4, g5⟩ := cp_ok hc
  have hz := (hSt.2.1 i q hq).2
  rw [Nat.add_assoc] at hz
  have he2 : (ws cA ad h)[b]? = some (ad b, aent cA ad h b 102 n1) := ws_at (cA := cA) (ad := ad) hb2
  have hr' := Nat.le_of_ble_eq_true hr
  have hw5 : nativeFrameWords "java/lang/System" "arraycopy" 5 = 7 := by decide +kernel
  have nn : ∀ z : Int32, ¬ z < 0 → z.toInt = (z.toNatClampNeg : Int) := by
    intro z h0
    have h9 : 0 ≤ z.toInt := by
      have e0 : (0 : Int32).toInt = 0 := by decide
      have := Int32.le_iff_toInt_le.mp (Int32.not_lt.mp h0)
      omega
    exact (nn_of h9).2
  intro T hT X
  obtain ⟨scr, hs1, hs2, hs3, hs4, -, hs5, hs7⟩ := hz
  have hc0 : H[ad (SB + (200 + i))]? = some scr := by rw [hS.2.1 _ (Array.getElem?_eq_some_iff.mp hs1).1 hs7]; exact hs1
  have hc1 : H[ad b]? = some (vp_cell (cA 102) (n1, .inl (h.2.1 b))) := hP b _ he2
  obtain ⟨hs6, k0, hk0, cm0, hkk0⟩ := hs2
  obtain ⟨-, k1, hk1, cm1, hkk1⟩ := (hK.2 1 _ rfl).1 n1 (fun j => .int (h.2.1 b j))
  obtain ⟨vm', X', step⟩ := X.arraycopy hx hown (hts _ hlink) (hts _ ac_nat) (hts _ ac_sta) (hts _ ac_sys) (src := ad (SB + (200 + i))) (dst := ad b) (cs := scr) (cd := vp_cell (cA 102) (n1, .inl (h.2.1 b))) (srcPos := sp) (destPos := dp) (n := n) (by rw [hT]; exact hc0) (by rw [hT]; exact hc1)
    hs6 (fun _ h => by cases h) hs3 (fun h => by cases h) hk0 hk1 hkk0 hkk1 (by simp [refKind]) g1 g2 g3
    (by rw [nn sp g1, nn n g3]; omega)
    (by rw [nn dp g2, nn n g3]; show ¬ _ > ((arrV (cA 102) n1 (fun j => .int (h.2.1 b j))).slots.size : Int); rw [arrV_size]; omega)
    (fun vm₁ _ k hk => by
      have e1 : scr.slots.getD (sp.toNatClampNeg + k) .null = .int (q.2.getD (sp.toNatClampNeg + k) 0) := by
        rw [Array.getD_eq_getD_getElem?, hs5 _ (by omega)]
        rfl
      rw [e1]
      exact ⟨rfl, trivial⟩)
    (g := F0 m pc ls (.int n :: .int dp :: .ref (ad b) :: .int sp :: .ref (ad (SB + (200 + i))) :: rest.map (tr ad))) rfl hl.1 (rest := rest.map (tr ad)) rfl (by rw [hb]; exact d) (by omega) (by
      show 2 * 0 + _ + _ ≤ _
      rw [tr_sum, hw5]
      omega)
  have hv : ∀ j, q.2.getD j 0 = tabv i j := by intro j; unfold tabv; rw [show tabT.getD i ("", []) = q from by rw [List.getD_eq_getElem?_getD, hq]; rfl]
  have e1 : copied scr (vp_cell (cA 102) (n1, .inl (h.2.1 b))) sp dp n = vp_cell (cA 102) (n1, .inl (va_cpy (tabv i) (h.2.1 b) sp.toNatClampNeg dp.toNatClampNeg n.toNatClampNeg)) := va_copiedX (fun z => .int z) scr (cA 102) (tabv i) (h.2.1 b) (fun j hj => (hs5 j hj).trans (congrArg (fun z => some (Value.int z)) (hv j))) g4
  rw [e1] at X' step
  have hlt : ad b < H.size := (Array.getElem?_eq_some_iff.mp hc1).1
  have hheap : ((T.setVm vm').setCell (ad b) (vp_cell (cA 102) (n1, .inl (va_cpy (tabv i) (h.2.1 b) sp.toNatClampNeg dp.toNatClampNeg n.toNatClampNeg)))).heap = H.setIfInBounds (ad b) (vp_cell (cA 102) (n1, .inl (va_cpy (tabv i) (h.2.1 b) sp.toNatClampNeg dp.toNatClampNeg n.toNatClampNeg))) := by rw [← hT]; rfl
  have oq : ∀ r : Nat, r ≠ ad b → (H.setIfInBounds (ad b) (vp_cell (cA 102) (n1, .inl (va_cpy (tabv i) (h.2.1 b) sp.toNatClampNeg dp.toNatClampNeg n.toNatClampNeg))))[r]? = H[r]? := fun r hr9 => by simp [Array.getElem?_setIfInBounds, Ne.symm hr9]
  have e2 : (ws cA ad h).set b (ad b, .inl (cA 102, n1, .inl (va_cpy (tabv i) (h.2.1 b) sp.toNatClampNeg dp.toNatClampNeg n.toNatClampNeg))) = ws cA ad (cpyT h i b sp dp n) := ws_set rfl hb2 (fun b' q hq => ent_cong (h := h) (h' := cpyT h i b sp dp n) (va_up_ne _ _ hq) rfl rfl q) (by simp [ent, aent, cpyT, va_up])
  have hP1 := hP.set hD he2 (show va_at D vwCl (ad b, .inl (cA 102, n1, .inl (va_cpy (tabv i) (h.2.1 b) sp.toNatClampNeg dp.toNatClampNeg n.toNatClampNeg))) (H.setIfInBounds (ad b) _) from (by show (H.setIfInBounds (ad b) _)[ad b]? = some _; simp [Array.getElem?_setIfInBounds, hlt])) oq
  have hD1 : va_D A ((ws cA ad h).set b (ad b, .inl (cA 102, n1, .inl (va_cpy (tabv i) (h.2.1 b) sp.toNatClampNeg dp.toNatClampNeg n.toNatClampNeg)))) := hD.set he2
  obtain ⟨t, a1, b1⟩ := kk _ _ ls (Eq.mp (congrArg (fun w => va_P D vwCl w _) e2) hP1) (Eq.mp (congrArg (fun w => va_D A w) e2) hD1) ⟨by simp; exact hS.1, fun r r1 r2 => by
      rw [oq r (fun e => r2 (by rw [e]; exact hD.2 b _ he2))]
      exact hS.2.1 r r1 r2, fun r hr9 => by
      rcases List.mem_append.mp hr9 with z | z
      · exact hS.2.2 r z
      · obtain ⟨y, -, hy⟩ := List.mem_map.mp z
        rw [← hy]
        exact hD.2 b _ he2⟩ hl _ hheap X'
  exact ⟨t, step t a1, b1⟩
end Stat
