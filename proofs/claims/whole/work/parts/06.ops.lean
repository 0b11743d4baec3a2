/-! ===== a rule an instruction ===== -/
def irm (a b : Int32) : Int32 := a - a / b * b
def lrm (a b : Int64) : Int64 := a - a / b * b
def shl (a b : Int32) : Int32 := a <<< (b &&& 31)
def shr (a b : Int32) : Int32 := a >>> (b &&& 31)
def ushr (a b : Int32) : Int32 := (a.toUInt32 >>> (b.toUInt32 &&& Int32.toUInt32 31)).toInt32
def i2b (a : Int32) : Int32 := a.toInt8.toInt32
def i2s (a : Int32) : Int32 := a.toInt16.toInt32
def i2c (a : Int32) : Int32 := (a.toUInt32 % 65536).toInt32
section Ops
variable {x : Cx} {cc : ByteArray} {own : String} {nL f pc : Nat} {L : List (Nat × Value)} {st : List Value} {h : HP}
theorem wp_iconst (ok : Okx x cc own nL f) {n : Int} {v : Int32} (d : decode cc pc = .ok (.iconst n, 1)) (hv : Int32.ofInt n = v) (kk : wp x (pc + 1) L (.int v :: st) h) : wp x pc L st h := by
  obtain ⟨p, l, e, R, s, m, args, below, meth, c, fin, D, cA, A, ad, kc, ks⟩ := x
  obtain ⟨hx, hb, hown, hml, hts, hK, hA, hSt, hlk, hfr, hlo, hkc, hks⟩ := ok
  intro H locs ls hP hD hS hl
  exact lv_iconst hx hb d hv (kk H locs ls hP hD hS hl)
theorem wp_bipush (ok : Okx x cc own nL f) {n : Int} {v : Int32} (d : decode cc pc = .ok (.bipush n, 2)) (hv : (Int8.ofInt n).toInt32 = v) (kk : wp x (pc + 2) L (.int v :: st) h) : wp x pc L st h := by
  obtain ⟨p, l, e, R, s, m, args, below, meth, c, fin, D, cA, A, ad, kc, ks⟩ := x
  obtain ⟨hx, hb, hown, hml, hts, hK, hA, hSt, hlk, hfr, hlo, hkc, hks⟩ := ok
  intro H locs ls hP hD hS hl
  exact lv_bipush hx hb d hv (kk H locs ls hP hD hS hl)
theorem wp_sipush (ok : Okx x cc own nL f) {n : Int} {v : Int32} (d : decode cc pc = .ok (.sipush n, 3)) (hv : (Int16.ofInt n).toInt32 = v) (kk : wp x (pc + 3) L (.int v :: st) h) : wp x pc L st h := by
  obtain ⟨p, l, e, R, s, m, args, below, meth, c, fin, D, cA, A, ad, kc, ks⟩ := x
  obtain ⟨hx, hb, hown, hml, hts, hK, hA, hSt, hlk, hfr, hlo, hkc, hks⟩ := ok
  intro H locs ls hP hD hS hl
  exact lv_sipush hx hb d hv (kk H locs ls hP hD hS hl)
theorem wp_lconst (ok : Okx x cc own nL f) {n : Fin 2} {v : Int64} (d : decode cc pc = .ok (.lconst n, 1)) (hv : Int64.ofNat (n : Nat) = v) (kk : wp x (pc + 1) L (.long v :: st) h) : wp x pc L st h := by
  obtain ⟨p, l, e, R, s, m, args, below, meth, c, fin, D, cA, A, ad, kc, ks⟩ := x
  obtain ⟨hx, hb, hown, hml, hts, hK, hA, hSt, hlk, hfr, hlo, hkc, hks⟩ := ok
  intro H locs ls hP hD hS hl
  exact lv_lconst hx hb d hv (kk H locs ls hP hD hS hl)
theorem wp_ldc (ok : Okx x cc own nL f) {i : Nat} {v : Int32} (hw : Cond.constant own i v ∈ gw) (d : decode cc pc = .ok (.ldc i, 2)) (kk : wp x (pc + 2) L (.int v :: st) h) : wp x pc L st h := by
  obtain ⟨p, l, e, R, s, m, args, below, meth, c, fin, D, cA, A, ad, kc, ks⟩ := x
  obtain ⟨hx, hb, hown, hml, hts, hK, hA, hSt, hlk, hfr, hlo, hkc, hks⟩ := ok
  intro H locs ls hP hD hS hl
  exact lv_ldc hx hb hown (hts _ hw) d (kk H locs ls hP hD hS hl)
theorem wp_ldcw (ok : Okx x cc own nL f) {i : Nat} {v : Int32} (hw : Cond.constant own i v ∈ gw) (d : decode cc pc = .ok (.ldc_w i, 3)) (kk : wp x (pc + 3) L (.int v :: st) h) : wp x pc L st h := by
  obtain ⟨p, l, e, R, s, m, args, below, meth, c, fin, D, cA, A, ad, kc, ks⟩ := x
  obtain ⟨hx, hb, hown, hml, hts, hK, hA, hSt, hlk, hfr, hlo, hkc, hks⟩ := ok
  intro H locs ls hP hD hS hl
  exact lv_ldcw hx hb hown (hts _ hw) d (kk H locs ls hP hD hS hl)
theorem wp_ldc2 (ok : Okx x cc own nL f) {i : Nat} {v : Int64} (hw : Cond.constantLong own i v ∈ gw) (d : decode cc pc = .ok (.ldc2_w i, 3)) (kk : wp x (pc + 3) L (.long v :: st) h) : wp x pc L st h := by
  obtain ⟨p, l, e, R, s, m, args, below, meth, c, fin, D, cA, A, ad, kc, ks⟩ := x
  obtain ⟨hx, hb, hown, hml, hts, hK, hA, hSt, hlk, hfr, hlo, hkc, hks⟩ := ok
  intro H locs ls hP hD hS hl
  exact lv_ldc2 hx hb hown (hts _ hw) d (kk H locs ls hP hD hS hl)
theorem wp_iload_n (ok : Okx x cc own nL f) {k : Fin 4} {v : Int32} (d : decode cc pc = .ok (.iload_n k, 1)) (hv : lk L k.val = some (.int v)) (kk : wp x (pc + 1) L (.int v :: st) h) : wp x pc L st h := by
  obtain ⟨p, l, e, R, s, m, args, below, meth, c, fin, D, cA, A, ad, kc, ks⟩ := x
  obtain ⟨hx, hb, hown, hml, hts, hK, hA, hSt, hlk, hfr, hlo, hkc, hks⟩ := ok
  intro H locs ls hP hD hS hl
  exact lv_iload_n hx hb d rfl (lk_at hl hv) (kk H locs ls hP hD hS hl)
theorem wp_iload (ok : Okx x cc own nL f) {k : Nat} {v : Int32} (d : decode cc pc = .ok (.iload k, 2)) (hv : lk L k = some (.int v)) (kk : wp x (pc + 2) L (.int v :: st) h) : wp x pc L st h := by
  obtain ⟨p, l, e, R, s, m, args, below, meth, c, fin, D, cA, A, ad, kc, ks⟩ := x
  obtain ⟨hx, hb, hown, hml, hts, hK, hA, hSt, hlk, hfr, hlo, hkc, hks⟩ := ok
  intro H locs ls hP hD hS hl
  exact lv_iload hx hb d (lk_at hl hv) (kk H locs ls hP hD hS hl)
theorem wp_lload_n (ok : Okx x cc own nL f) {k : Fin 4} {v : Int64} (d : decode cc pc = .ok (.lload_n k, 1)) (hv : lk L k.val = some (.long v)) (kk : wp x (pc + 1) L (.long v :: st) h) : wp x pc L st h := by
  obtain ⟨p, l, e, R, s, m, args, below, meth, c, fin, D, cA, A, ad, kc, ks⟩ := x
  obtain ⟨hx, hb, hown, hml, hts, hK, hA, hSt, hlk, hfr, hlo, hkc, hks⟩ := ok
  intro H locs ls hP hD hS hl
  exact lv_lload_n hx hb d rfl (lk_at hl hv) (kk H locs ls hP hD hS hl)
theorem wp_lload (ok : Okx x cc own nL f) {k : Nat} {v : Int64} (d : decode cc pc = .ok (.lload k, 2)) (hv : lk L k = some (.long v)) (kk : wp x (pc + 2) L (.long v :: st) h) : wp x pc L st h := by
  obtain ⟨p, l, e, R, s, m, args, below, meth, c, fin, D, cA, A, ad, kc, ks⟩ := x
  obtain ⟨hx, hb, hown, hml, hts, hK, hA, hSt, hlk, hfr, hlo, hkc, hks⟩ := ok
  intro H locs ls hP hD hS hl
  exact lv_lload hx hb d (lk_at hl hv) (kk H locs ls hP hD hS hl)
theorem wp_aload_n (ok : Okx x cc own nL f) {k : Fin 4} {v : Nat} (d : decode cc pc = .ok (.aload_n k, 1)) (hv : lk L k.val = some (.ref v)) (kk : wp x (pc + 1) L (.ref v :: st) h) : wp x pc L st h := by
  obtain ⟨p, l, e, R, s, m, args, below, meth, c, fin, D, cA, A, ad, kc, ks⟩ := x
  obtain ⟨hx, hb, hown, hml, hts, hK, hA, hSt, hlk, hfr, hlo, hkc, hks⟩ := ok
  intro H locs ls hP hD hS hl
  exact lv_aload_n hx hb d rfl (lk_at hl hv) (kk H locs ls hP hD hS hl)
theorem wp_aload (ok : Okx x cc own nL f) {k : Nat} {v : Nat} (d : decode cc pc = .ok (.aload k, 2)) (hv : lk L k = some (.ref v)) (kk : wp x (pc + 2) L (.ref v :: st) h) : wp x pc L st h := by
  obtain ⟨p, l, e, R, s, m, args, below, meth, c, fin, D, cA, A, ad, kc, ks⟩ := x
  obtain ⟨hx, hb, hown, hml, hts, hK, hA, hSt, hlk, hfr, hlo, hkc, hks⟩ := ok
  intro H locs ls hP hD hS hl
  exact lv_aload hx hb d (lk_at hl hv) (kk H locs ls hP hD hS hl)
theorem wp_istore_n (ok : Okx x cc own nL f) {k : Fin 4} {v : Int32} {L' : List (Nat × Value)} (d : decode cc pc = .ok (.istore_n k, 1)) (hn : Nat.blt (k.val) nL = true) (hL : sto1 L k.val (.int v) = L') (kk : wp x (pc + 1) L' st h) : wp x pc L (.int v :: st) h := by
  obtain ⟨p, l, e, R, s, m, args, below, meth, c, fin, D, cA, A, ad, kc, ks⟩ := x
  obtain ⟨hx, hb, hown, hml, hts, hK, hA, hSt, hlk, hfr, hlo, hkc, hks⟩ := ok
  intro H locs ls hP hD hS hl
  subst hL
  exact lv_istore_n hx hb d rfl hl (by rw [hml]; exact Nat.le_of_ble_eq_true hn) (trL_sto1 ad L k.val (.int v)) (fun ls' h' => kk H locs ls' hP hD hS h')
theorem wp_istore (ok : Okx x cc own nL f) {k : Nat} {v : Int32} {L' : List (Nat × Value)} (d : decode cc pc = .ok (.istore k, 2)) (hn : Nat.blt (k) nL = true) (hL : sto1 L k (.int v) = L') (kk : wp x (pc + 2) L' st h) : wp x pc L (.int v :: st) h := by
  obtain ⟨p, l, e, R, s, m, args, below, meth, c, fin, D, cA, A, ad, kc, ks⟩ := x
  obtain ⟨hx, hb, hown, hml, hts, hK, hA, hSt, hlk, hfr, hlo, hkc, hks⟩ := ok
  intro H locs ls hP hD hS hl
  subst hL
  exact lv_istore hx hb d hl (by rw [hml]; exact Nat.le_of_ble_eq_true hn) (trL_sto1 ad L k (.int v)) (fun ls' h' => kk H locs ls' hP hD hS h')
theorem wp_lstore_n (ok : Okx x cc own nL f) {k : Fin 4} {v : Int64} {L' : List (Nat × Value)} (d : decode cc pc = .ok (.lstore_n k, 1)) (hn : Nat.blt (k.val + 1) nL = true) (hL : sto2 L k.val (.long v) = L') (kk : wp x (pc + 1) L' st h) : wp x pc L (.long v :: st) h := by
  obtain ⟨p, l, e, R, s, m, args, below, meth, c, fin, D, cA, A, ad, kc, ks⟩ := x
  obtain ⟨hx, hb, hown, hml, hts, hK, hA, hSt, hlk, hfr, hlo, hkc, hks⟩ := ok
  intro H locs ls hP hD hS hl
  subst hL
  exact lv_lstore_n hx hb d rfl hl (by rw [hml]; exact Nat.le_of_ble_eq_true hn) (trL_sto2 ad L k.val (.long v)) (fun ls' h' => kk H locs ls' hP hD hS h')
theorem wp_lstore (ok : Okx x cc own nL f) {k : Nat} {v : Int64} {L' : List (Nat × Value)} (d : decode cc pc = .ok (.lstore k, 2)) (hn : Nat.blt (k + 1) nL = true) (hL : sto2 L k (.long v) = L') (kk : wp x (pc + 2) L' st h) : wp x pc L (.long v :: st) h := by
  obtain ⟨p, l, e, R, s, m, args, below, meth, c, fin, D, cA, A, ad, kc, ks⟩ := x
  obtain ⟨hx, hb, hown, hml, hts, hK, hA, hSt, hlk, hfr, hlo, hkc, hks⟩ := ok
  intro H locs ls hP hD hS hl
  subst hL
  exact lv_lstore hx hb d hl (by rw [hml]; exact Nat.le_of_ble_eq_true hn) (trL_sto2 ad L k (.long v)) (fun ls' h' => kk H locs ls' hP hD hS h')
theorem wp_astore_n (ok : Okx x cc own nL f) {k : Fin 4} {v : Nat} {L' : List (Nat × Value)} (d : decode cc pc = .ok (.astore_n k, 1)) (hn : Nat.blt (k.val) nL = true) (hL : sto1 L k.val (.ref v) = L') (kk : wp x (pc + 1) L' st h) : wp x pc L (.ref v :: st) h := by
  obtain ⟨p, l, e, R, s, m, args, below, meth, c, fin, D, cA, A, ad, kc, ks⟩ := x
  obtain ⟨hx, hb, hown, hml, hts, hK, hA, hSt, hlk, hfr, hlo, hkc, hks⟩ := ok
  intro H locs ls hP hD hS hl
  subst hL
  exact lv_astore_n hx hb d rfl hl (by rw [hml]; exact Nat.le_of_ble_eq_true hn) (trL_sto1 ad L k.val (.ref v)) (fun ls' h' => kk H locs ls' hP hD hS h')
theorem wp_astore (ok : Okx x cc own nL f) {k : Nat} {v : Nat} {L' : List (Nat × Value)} (d : decode cc pc = .ok (.astore k, 2)) (hn : Nat.blt (k) nL = true) (hL : sto1 L k (.ref v) = L') (kk : wp x (pc + 2) L' st h) : wp x pc L (.ref v :: st) h := by
  obtain ⟨p, l, e, R, s, m, args, below, meth, c, fin, D, cA, A, ad, kc, ks⟩ := x
  obtain ⟨hx, hb, hown, hml, hts, hK, hA, hSt, hlk, hfr, hlo, hkc, hks⟩ := ok
  intro H locs ls hP hD hS hl
  subst hL
  exact lv_astore hx hb d hl (by rw [hml]; exact Nat.le_of_ble_eq_true hn) (trL_sto1 ad L k (.ref v)) (fun ls' h' => kk H locs ls' hP hD hS h')
theorem wp_iinc (ok : Okx x cc own nL f) {k : Nat} {n : Int} {v w : Int32} {L' : List (Nat × Value)} (d : decode cc pc = .ok (.iinc k n, 3)) (hv : lk L k = some (.int v)) (hw : Int32.ofInt n = w) (hn : Nat.blt k nL = true) (hL : sto1 L k (.int (v + w)) = L') (kk : wp x (pc + 3) L' st h) : wp x pc L st h := by
  obtain ⟨p, l, e, R, s, m, args, below, meth, c, fin, D, cA, A, ad, kc, ks⟩ := x
  obtain ⟨hx, hb, hown, hml, hts, hK, hA, hSt, hlk, hfr, hlo, hkc, hks⟩ := ok
  intro H locs ls hP hD hS hl
  subst hL
  subst hw
  obtain ⟨j, hj⟩ := lk_get (ad := ad) hv
  exact lv_iinc hx hb d hl hj rfl (by rw [hml]; exact Nat.le_of_ble_eq_true hn) (trL_sto1 ad L k (.int (v + Int32.ofInt n))) (fun ls' h' => kk H locs ls' hP hD hS h')
theorem wp_iadd (ok : Okx x cc own nL f) {a b : Int32} (d : decode cc pc = .ok (.iadd, 1)) (kk : wp x (pc + 1) L (.int (a + b) :: st) h) : wp x pc L (.int b :: .int a :: st) h := by
  obtain ⟨p, l, e, R, s, m, args, below, meth, c, fin, D, cA, A, ad, kc, ks⟩ := x
  obtain ⟨hx, hb, hown, hml, hts, hK, hA, hSt, hlk, hfr, hlo, hkc, hks⟩ := ok
  intro H locs ls hP hD hS hl
  exact lv_iadd hx hb d (kk H locs ls hP hD hS hl)
theorem wp_isub (ok : Okx x cc own nL f) {a b : Int32} (d : decode cc pc = .ok (.isub, 1)) (kk : wp x (pc + 1) L (.int (a - b) :: st) h) : wp x pc L (.int b :: .int a :: st) h := by
  obtain ⟨p, l, e, R, s, m, args, below, meth, c, fin, D, cA, A, ad, kc, ks⟩ := x
  obtain ⟨hx, hb, hown, hml, hts, hK, hA, hSt, hlk, hfr, hlo, hkc, hks⟩ := ok
  intro H locs ls hP hD hS hl
  exact lv_isub hx hb d (kk H locs ls hP hD hS hl)
theorem wp_imul (ok : Okx x cc own nL f) {a b : Int32} (d : decode cc pc = .ok (.imul, 1)) (kk : wp x (pc + 1) L (.int (a * b) :: st) h) : wp x pc L (.int b :: .int a :: st) h := by
  obtain ⟨p, l, e, R, s, m, args, below, meth, c, fin, D, cA, A, ad, kc, ks⟩ := x
  obtain ⟨hx, hb, hown, hml, hts, hK, hA, hSt, hlk, hfr, hlo, hkc, hks⟩ := ok
  intro H locs ls hP hD hS hl
  exact lv_imul hx hb d (kk H locs ls hP hD hS hl)
theorem wp_iand (ok : Okx x cc own nL f) {a b : Int32} (d : decode cc pc = .ok (.iand, 1)) (kk : wp x (pc + 1) L (.int (a &&& b) :: st) h) : wp x pc L (.int b :: .int a :: st) h := by
  obtain ⟨p, l, e, R, s, m, args, below, meth, c, fin, D, cA, A, ad, kc, ks⟩ := x
  obtain ⟨hx, hb, hown, hml, hts, hK, hA, hSt, hlk, hfr, hlo, hkc, hks⟩ := ok
  intro H locs ls hP hD hS hl
  exact lv_iand hx hb d (kk H locs ls hP hD hS hl)
theorem wp_ior (ok : Okx x cc own nL f) {a b : Int32} (d : decode cc pc = .ok (.ior, 1)) (kk : wp x (pc + 1) L (.int (a ||| b) :: st) h) : wp x pc L (.int b :: .int a :: st) h := by
  obtain ⟨p, l, e, R, s, m, args, below, meth, c, fin, D, cA, A, ad, kc, ks⟩ := x
  obtain ⟨hx, hb, hown, hml, hts, hK, hA, hSt, hlk, hfr, hlo, hkc, hks⟩ := ok
  intro H locs ls hP hD hS hl
  exact lv_ior hx hb d (kk H locs ls hP hD hS hl)
theorem wp_ixor (ok : Okx x cc own nL f) {a b : Int32} (d : decode cc pc = .ok (.ixor, 1)) (kk : wp x (pc + 1) L (.int (a ^^^ b) :: st) h) : wp x pc L (.int b :: .int a :: st) h := by
  obtain ⟨p, l, e, R, s, m, args, below, meth, c, fin, D, cA, A, ad, kc, ks⟩ := x
  obtain ⟨hx, hb, hown, hml, hts, hK, hA, hSt, hlk, hfr, hlo, hkc, hks⟩ := ok
  intro H locs ls hP hD hS hl
  exact lv_ixor hx hb d (kk H locs ls hP hD hS hl)
theorem wp_ishl (ok : Okx x cc own nL f) {a b : Int32} (d : decode cc pc = .ok (.ishl, 1)) (kk : wp x (pc + 1) L (.int (shl a b) :: st) h) : wp x pc L (.int b :: .int a :: st) h := by
  obtain ⟨p, l, e, R, s, m, args, below, meth, c, fin, D, cA, A, ad, kc, ks⟩ := x
  obtain ⟨hx, hb, hown, hml, hts, hK, hA, hSt, hlk, hfr, hlo, hkc, hks⟩ := ok
  intro H locs ls hP hD hS hl
  exact lv_ishl hx hb d (kk H locs ls hP hD hS hl)
theorem wp_ishr (ok : Okx x cc own nL f) {a b : Int32} (d : decode cc pc = .ok (.ishr, 1)) (kk : wp x (pc + 1) L (.int (shr a b) :: st) h) : wp x pc L (.int b :: .int a :: st) h := by
  obtain ⟨p, l, e, R, s, m, args, below, meth, c, fin, D, cA, A, ad, kc, ks⟩ := x
  obtain ⟨hx, hb, hown, hml, hts, hK, hA, hSt, hlk, hfr, hlo, hkc, hks⟩ := ok
  intro H locs ls hP hD hS hl
  exact lv_ishr hx hb d (kk H locs ls hP hD hS hl)
theorem wp_iushr (ok : Okx x cc own nL f) {a b : Int32} (d : decode cc pc = .ok (.iushr, 1)) (kk : wp x (pc + 1) L (.int (ushr a b) :: st) h) : wp x pc L (.int b :: .int a :: st) h := by
  obtain ⟨p, l, e, R, s, m, args, below, meth, c, fin, D, cA, A, ad, kc, ks⟩ := x
  obtain ⟨hx, hb, hown, hml, hts, hK, hA, hSt, hlk, hfr, hlo, hkc, hks⟩ := ok
  intro H locs ls hP hD hS hl
  exact lv_iushr hx hb d rfl (kk H locs ls hP hD hS hl)
theorem wp_idiv (ok : Okx x cc own nL f) {a b : Int32} (d : decode cc pc = .ok (.idiv, 1)) (hne : ¬ b = 0) (kk : wp x (pc + 1) L (.int (a / b) :: st) h) : wp x pc L (.int b :: .int a :: st) h := by
  obtain ⟨p, l, e, R, s, m, args, below, meth, c, fin, D, cA, A, ad, kc, ks⟩ := x
  obtain ⟨hx, hb, hown, hml, hts, hK, hA, hSt, hlk, hfr, hlo, hkc, hks⟩ := ok
  intro H locs ls hP hD hS hl
  exact lv_idiv hx hb d hne (kk H locs ls hP hD hS hl)
theorem wp_irem (ok : Okx x cc own nL f) {a b : Int32} (d : decode cc pc = .ok (.irem, 1)) (hne : ¬ b = 0) (kk : wp x (pc + 1) L (.int (irm a b) :: st) h) : wp x pc L (.int b :: .int a :: st) h := by
  obtain ⟨p, l, e, R, s, m, args, below, meth, c, fin, D, cA, A, ad, kc, ks⟩ := x
  obtain ⟨hx, hb, hown, hml, hts, hK, hA, hSt, hlk, hfr, hlo, hkc, hks⟩ := ok
  intro H locs ls hP hD hS hl
  exact lv_irem hx hb d hne (kk H locs ls hP hD hS hl)
theorem wp_ineg (ok : Okx x cc own nL f) {a : Int32} (d : decode cc pc = .ok (.ineg, 1)) (kk : wp x (pc + 1) L (.int (-a) :: st) h) : wp x pc L (.int a :: st) h := by
  obtain ⟨p, l, e, R, s, m, args, below, meth, c, fin, D, cA, A, ad, kc, ks⟩ := x
  obtain ⟨hx, hb, hown, hml, hts, hK, hA, hSt, hlk, hfr, hlo, hkc, hks⟩ := ok
  intro H locs ls hP hD hS hl
  exact lv_ineg hx hb d (kk H locs ls hP hD hS hl)
theorem wp_ladd (ok : Okx x cc own nL f) {a b : Int64} (d : decode cc pc = .ok (.ladd, 1)) (kk : wp x (pc + 1) L (.long (a + b) :: st) h) : wp x pc L (.long b :: .long a :: st) h := by
  obtain ⟨p, l, e, R, s, m, args, below, meth, c, fin, D, cA, A, ad, kc, ks⟩ := x
  obtain ⟨hx, hb, hown, hml, hts, hK, hA, hSt, hlk, hfr, hlo, hkc, hks⟩ := ok
  intro H locs ls hP hD hS hl
  exact lv_ladd hx hb d (kk H locs ls hP hD hS hl)
theorem wp_lsub (ok : Okx x cc own nL f) {a b : Int64} (d : decode cc pc = .ok (.lsub, 1)) (kk : wp x (pc + 1) L (.long (a - b) :: st) h) : wp x pc L (.long b :: .long a :: st) h := by
  obtain ⟨p, l, e, R, s, m, args, below, meth, c, fin, D, cA, A, ad, kc, ks⟩ := x
  obtain ⟨hx, hb, hown, hml, hts, hK, hA, hSt, hlk, hfr, hlo, hkc, hks⟩ := ok
  intro H locs ls hP hD hS hl
  exact lv_lsub hx hb d (kk H locs ls hP hD hS hl)
theorem wp_lmul (ok : Okx x cc own nL f) {a b : Int64} (d : decode cc pc = .ok (.lmul, 1)) (kk : wp x (pc + 1) L (.long (a * b) :: st) h) : wp x pc L (.long b :: .long a :: st) h := by
  obtain ⟨p, l, e, R, s, m, args, below, meth, c, fin, D, cA, A, ad, kc, ks⟩ := x
  obtain ⟨hx, hb, hown, hml, hts, hK, hA, hSt, hlk, hfr, hlo, hkc, hks⟩ := ok
  intro H locs ls hP hD hS hl
  exact lv_lmul hx hb d (kk H locs ls hP hD hS hl)
theorem wp_ldiv (ok : Okx x cc own nL f) {a b : Int64} (d : decode cc pc = .ok (.ldiv, 1)) (hne : ¬ b = 0) (kk : wp x (pc + 1) L (.long (a / b) :: st) h) : wp x pc L (.long b :: .long a :: st) h := by
  obtain ⟨p, l, e, R, s, m, args, below, meth, c, fin, D, cA, A, ad, kc, ks⟩ := x
  obtain ⟨hx, hb, hown, hml, hts, hK, hA, hSt, hlk, hfr, hlo, hkc, hks⟩ := ok
  intro H locs ls hP hD hS hl
  exact lv_ldiv hx hb d hne (kk H locs ls hP hD hS hl)
theorem wp_lrem (ok : Okx x cc own nL f) {a b : Int64} (d : decode cc pc = .ok (.lrem, 1)) (hne : ¬ b = 0) (kk : wp x (pc + 1) L (.long (lrm a b) :: st) h) : wp x pc L (.long b :: .long a :: st) h := by
  obtain ⟨p, l, e, R, s, m, args, below, meth, c, fin, D, cA, A, ad, kc, ks⟩ := x
  obtain ⟨hx, hb, hown, hml, hts, hK, hA, hSt, hlk, hfr, hlo, hkc, hks⟩ := ok
  intro H locs ls hP hD hS hl
  exact lv_lrem hx hb d hne (kk H locs ls hP hD hS hl)
theorem wp_lcmp (ok : Okx x cc own nL f) {a b : Int64} (d : decode cc pc = .ok (.lcmp, 1)) (kk : wp x (pc + 1) L (.int (lg_cmp a b) :: st) h) : wp x pc L (.long b :: .long a :: st) h := by
  obtain ⟨p, l, e, R, s, m, args, below, meth, c, fin, D, cA, A, ad, kc, ks⟩ := x
  obtain ⟨hx, hb, hown, hml, hts, hK, hA, hSt, hlk, hfr, hlo, hkc, hks⟩ := ok
  intro H locs ls hP hD hS hl
  exact W.lcmp hx hb d (kk H locs ls hP hD hS hl)
theorem wp_i2l (ok : Okx x cc own nL f) {a : Int32} (d : decode cc pc = .ok (.i2l, 1)) (kk : wp x (pc + 1) L (.long a.toInt64 :: st) h) : wp x pc L (.int a :: st) h := by
  obtain ⟨p, l, e, R, s, m, args, below, meth, c, fin, D, cA, A, ad, kc, ks⟩ := x
  obtain ⟨hx, hb, hown, hml, hts, hK, hA, hSt, hlk, hfr, hlo, hkc, hks⟩ := ok
  intro H locs ls hP hD hS hl
  exact lv_i2l hx hb d rfl (kk H locs ls hP hD hS hl)
theorem wp_l2i (ok : Okx x cc own nL f) {a : Int64} (d : decode cc pc = .ok (.l2i, 1)) (kk : wp x (pc + 1) L (.int a.toInt32 :: st) h) : wp x pc L (.long a :: st) h := by
  obtain ⟨p, l, e, R, s, m, args, below, meth, c, fin, D, cA, A, ad, kc, ks⟩ := x
  obtain ⟨hx, hb, hown, hml, hts, hK, hA, hSt, hlk, hfr, hlo, hkc, hks⟩ := ok
  intro H locs ls hP hD hS hl
  exact lv_l2i hx hb d rfl (kk H locs ls hP hD hS hl)
theorem wp_i2b (ok : Okx x cc own nL f) {a : Int32} (d : decode cc pc = .ok (.i2b, 1)) (kk : wp x (pc + 1) L (.int (i2b a) :: st) h) : wp x pc L (.int a :: st) h := by
  obtain ⟨p, l, e, R, s, m, args, below, meth, c, fin, D, cA, A, ad, kc, ks⟩ := x
  obtain ⟨hx, hb, hown, hml, hts, hK, hA, hSt, hlk, hfr, hlo, hkc, hks⟩ := ok
  intro H locs ls hP hD hS hl
  exact lv_i2b hx hb d rfl (kk H locs ls hP hD hS hl)
theorem wp_i2s (ok : Okx x cc own nL f) {a : Int32} (d : decode cc pc = .ok (.i2s, 1)) (kk : wp x (pc + 1) L (.int (i2s a) :: st) h) : wp x pc L (.int a :: st) h := by
  obtain ⟨p, l, e, R, s, m, args, below, meth, c, fin, D, cA, A, ad, kc, ks⟩ := x
  obtain ⟨hx, hb, hown, hml, hts, hK, hA, hSt, hlk, hfr, hlo, hkc, hks⟩ := ok
  intro H locs ls hP hD hS hl
  exact lv_i2s hx hb d rfl (kk H locs ls hP hD hS hl)
theorem wp_i2c (ok : Okx x cc own nL f) {a : Int32} (d : decode cc pc = .ok (.i2c, 1)) (kk : wp x (pc + 1) L (.int (i2c a) :: st) h) : wp x pc L (.int a :: st) h := by
  obtain ⟨p, l, e, R, s, m, args, below, meth, c, fin, D, cA, A, ad, kc, ks⟩ := x
  obtain ⟨hx, hb, hown, hml, hts, hK, hA, hSt, hlk, hfr, hlo, hkc, hks⟩ := ok
  intro H locs ls hP hD hS hl
  exact lv_i2c hx hb d rfl (kk H locs ls hP hD hS hl)
theorem wp_dup (ok : Okx x cc own nL f) {v : Value} (d : decode cc pc = .ok (.dup, 1)) (hv : v.category = 1) (kk : wp x (pc + 1) L (v :: v :: st) h) : wp x pc L (v :: st) h := by
  obtain ⟨p, l, e, R, s, m, args, below, meth, c, fin, D, cA, A, ad, kc, ks⟩ := x
  obtain ⟨hx, hb, hown, hml, hts, hK, hA, hSt, hlk, hfr, hlo, hkc, hks⟩ := ok
  intro H locs ls hP hD hS hl
  exact lv_dup hx hb d ((tr_cat ad v).trans hv) (kk H locs ls hP hD hS hl)
theorem wp_dup2 (ok : Okx x cc own nL f) {v w : Value} (d : decode cc pc = .ok (.dup2, 1)) (hv : v.category = 1) (hw : w.category = 1) (kk : wp x (pc + 1) L (v :: w :: v :: w :: st) h) : wp x pc L (v :: w :: st) h := by
  obtain ⟨p, l, e, R, s, m, args, below, meth, c, fin, D, cA, A, ad, kc, ks⟩ := x
  obtain ⟨hx, hb, hown, hml, hts, hK, hA, hSt, hlk, hfr, hlo, hkc, hks⟩ := ok
  intro H locs ls hP hD hS hl
  exact lv_dup2_11 hx hb d ((tr_cat ad v).trans hv) ((tr_cat ad w).trans hw) (kk H locs ls hP hD hS hl)
theorem wp_pop (ok : Okx x cc own nL f) {v : Value} (d : decode cc pc = .ok (.pop, 1)) (hv : v.category = 1) (kk : wp x (pc + 1) L st h) : wp x pc L (v :: st) h := by
  obtain ⟨p, l, e, R, s, m, args, below, meth, c, fin, D, cA, A, ad, kc, ks⟩ := x
  obtain ⟨hx, hb, hown, hml, hts, hK, hA, hSt, hlk, hfr, hlo, hkc, hks⟩ := ok
  intro H locs ls hP hD hS hl
  exact lv_pop hx hb d ((tr_cat ad v).trans hv) (kk H locs ls hP hD hS hl)
theorem wp_goto (ok : Okx x cc own nL f) {off : Int} {tgt : Nat} (d : decode cc pc = .ok (.goto off, 3)) (ht : (pc : Int) + off = (tgt : Int)) (kk : wp x tgt L st h) : wp x pc L st h := by
  obtain ⟨p, l, e, R, s, m, args, below, meth, c, fin, D, cA, A, ad, kc, ks⟩ := x
  obtain ⟨hx, hb, hown, hml, hts, hK, hA, hSt, hlk, hfr, hlo, hkc, hks⟩ := ok
  intro H locs ls hP hD hS hl
  exact lv_goto hx hb d ht (kk H locs ls hP hD hS hl)
theorem wp_if_eq (ok : Okx x cc own nL f) {a : Int32} {off : Int} {tgt : Nat} (d : decode cc pc = .ok (.ifCond .eq off, 3)) (ht : (pc : Int) + off = (tgt : Int)) (kt : a = 0 → wp x tgt L st h) (kf : ¬ a = 0 → wp x (pc + 3) L st h) : wp x pc L (.int a :: st) h := by
  obtain ⟨p, l, e, R, s, m, args, below, meth, c, fin, D, cA, A, ad, kc, ks⟩ := x
  obtain ⟨hx, hb, hown, hml, hts, hK, hA, hSt, hlk, hfr, hlo, hkc, hks⟩ := ok
  intro H locs ls hP hD hS hl
  exact lv_if_eq hx hb d ht (fun q => kt q H locs ls hP hD hS hl) (fun q => kf q H locs ls hP hD hS hl)
theorem wp_icmp_eq (ok : Okx x cc own nL f) {a b : Int32} {off : Int} {tgt : Nat} (d : decode cc pc = .ok (.if_icmp .eq off, 3)) (ht : (pc : Int) + off = (tgt : Int)) (kt : a = b → wp x tgt L st h) (kf : ¬ a = b → wp x (pc + 3) L st h) : wp x pc L (.int b :: .int a :: st) h := by
  obtain ⟨p, l, e, R, s, m, args, below, meth, c, fin, D, cA, A, ad, kc, ks⟩ := x
  obtain ⟨hx, hb, hown, hml, hts, hK, hA, hSt, hlk, hfr, hlo, hkc, hks⟩ := ok
  intro H locs ls hP hD hS hl
  exact lv_icmp_eq hx hb d ht (fun q => kt q H locs ls hP hD hS hl) (fun q => kf q H locs ls hP hD hS hl)
theorem wp_if_ne (ok : Okx x cc own nL f) {a : Int32} {off : Int} {tgt : Nat} (d : decode cc pc = .ok (.ifCond .ne off, 3)) (ht : (pc : Int) + off = (tgt : Int)) (kt : ¬ a = 0 → wp x tgt L st h) (kf : a = 0 → wp x (pc + 3) L st h) : wp x pc L (.int a :: st) h := by
  obtain ⟨p, l, e, R, s, m, args, below, meth, c, fin, D, cA, A, ad, kc, ks⟩ := x
  obtain ⟨hx, hb, hown, hml, hts, hK, hA, hSt, hlk, hfr, hlo, hkc, hks⟩ := ok
  intro H locs ls hP hD hS hl
  exact lv_if_ne hx hb d ht (fun q => kt q H locs ls hP hD hS hl) (fun q => kf q H locs ls hP hD hS hl)
theorem wp_icmp_ne (ok : Okx x cc own nL f) {a b : Int32} {off : Int} {tgt : Nat} (d : decode cc pc = .ok (.if_icmp .ne off, 3)) (ht : (pc : Int) + off = (tgt : Int)) (kt : ¬ a = b → wp x tgt L st h) (kf : a = b → wp x (pc + 3) L st h) : wp x pc L (.int b :: .int a :: st) h := by
  obtain ⟨p, l, e, R, s, m, args, below, meth, c, fin, D, cA, A, ad, kc, ks⟩ := x
  obtain ⟨hx, hb, hown, hml, hts, hK, hA, hSt, hlk, hfr, hlo, hkc, hks⟩ := ok
  intro H locs ls hP hD hS hl
  exact lv_icmp_ne hx hb d ht (fun q => kt q H locs ls hP hD hS hl) (fun q => kf q H locs ls hP hD hS hl)
theorem wp_if_lt (ok : Okx x cc own nL f) {a : Int32} {off : Int} {tgt : Nat} (d : decode cc pc = .ok (.ifCond .lt off, 3)) (ht : (pc : Int) + off = (tgt : Int)) (kt : a < 0 → wp x tgt L st h) (kf : ¬ a < 0 → wp x (pc + 3) L st h) : wp x pc L (.int a :: st) h := by
  obtain ⟨p, l, e, R, s, m, args, below, meth, c, fin, D, cA, A, ad, kc, ks⟩ := x
  obtain ⟨hx, hb, hown, hml, hts, hK, hA, hSt, hlk, hfr, hlo, hkc, hks⟩ := ok
  intro H locs ls hP hD hS hl
  exact lv_if_lt hx hb d ht (fun q => kt q H locs ls hP hD hS hl) (fun q => kf q H locs ls hP hD hS hl)
theorem wp_icmp_lt (ok : Okx x cc own nL f) {a b : Int32} {off : Int} {tgt : Nat} (d : decode cc pc = .ok (.if_icmp .lt off, 3)) (ht : (pc : Int) + off = (tgt : Int)) (kt : a < b → wp x tgt L st h) (kf : ¬ a < b → wp x (pc + 3) L st h) : wp x pc L (.int b :: .int a :: st) h := by
  obtain ⟨p, l, e, R, s, m, args, below, meth, c, fin, D, cA, A, ad, kc, ks⟩ := x
  obtain ⟨hx, hb, hown, hml, hts, hK, hA, hSt, hlk, hfr, hlo, hkc, hks⟩ := ok
  intro H locs ls hP hD hS hl
  exact lv_icmp_lt hx hb d ht (fun q => kt q H locs ls hP hD hS hl) (fun q => kf q H locs ls hP hD hS hl)
theorem wp_if_ge (ok : Okx x cc own nL f) {a : Int32} {off : Int} {tgt : Nat} (d : decode cc pc = .ok (.ifCond .ge off, 3)) (ht : (pc : Int) + off = (tgt : Int)) (kt : 0 ≤ a → wp x tgt L st h) (kf : ¬ 0 ≤ a → wp x (pc + 3) L st h) : wp x pc L (.int a :: st) h := by
  obtain ⟨p, l, e, R, s, m, args, below, meth, c, fin, D, cA, A, ad, kc, ks⟩ := x
  obtain ⟨hx, hb, hown, hml, hts, hK, hA, hSt, hlk, hfr, hlo, hkc, hks⟩ := ok
  intro H locs ls hP hD hS hl
  exact lv_if_ge hx hb d ht (fun q => kt q H locs ls hP hD hS hl) (fun q => kf q H locs ls hP hD hS hl)
theorem wp_icmp_ge (ok : Okx x cc own nL f) {a b : Int32} {off : Int} {tgt : Nat} (d : decode cc pc = .ok (.if_icmp .ge off, 3)) (ht : (pc : Int) + off = (tgt : Int)) (kt : b ≤ a → wp x tgt L st h) (kf : ¬ b ≤ a → wp x (pc + 3) L st h) : wp x pc L (.int b :: .int a :: st) h := by
  obtain ⟨p, l, e, R, s, m, args, below, meth, c, fin, D, cA, A, ad, kc, ks⟩ := x
  obtain ⟨hx, hb, hown, hml, hts, hK, hA, hSt, hlk, hfr, hlo, hkc, hks⟩ := ok
  intro H locs ls hP hD hS hl
  exact lv_icmp_ge hx hb d ht (fun q => kt q H locs ls hP hD hS hl) (fun q => kf q H locs ls hP hD hS hl)
theorem wp_if_gt (ok : Okx x cc own nL f) {a : Int32} {off : Int} {tgt : Nat} (d : decode cc pc = .ok (.ifCond .gt off, 3)) (ht : (pc : Int) + off = (tgt : Int)) (kt : 0 < a → wp x tgt L st h) (kf : ¬ 0 < a → wp x (pc + 3) L st h) : wp x pc L (.int a :: st) h := by
  obtain ⟨p, l, e, R, s, m, args, below, meth, c, fin, D, cA, A, ad, kc, ks⟩ := x
  obtain ⟨hx, hb, hown, hml, hts, hK, hA, hSt, hlk, hfr, hlo, hkc, hks⟩ := ok
  intro H locs ls hP hD hS hl
  exact lv_if_gt hx hb d ht (fun q => kt q H locs ls hP hD hS hl) (fun q => kf q H locs ls hP hD hS hl)
theorem wp_icmp_gt (ok : Okx x cc own nL f) {a b : Int32} {off : Int} {tgt : Nat} (d : decode cc pc = .ok (.if_icmp .gt off, 3)) (ht : (pc : Int) + off = (tgt : Int)) (kt : b < a → wp x tgt L st h) (kf : ¬ b < a → wp x (pc + 3) L st h) : wp x pc L (.int b :: .int a :: st) h := by
  obtain ⟨p, l, e, R, s, m, args, below, meth, c, fin, D, cA, A, ad, kc, ks⟩ := x
  obtain ⟨hx, hb, hown, hml, hts, hK, hA, hSt, hlk, hfr, hlo, hkc, hks⟩ := ok
  intro H locs ls hP hD hS hl
  exact lv_icmp_gt hx hb d ht (fun q => kt q H locs ls hP hD hS hl) (fun q => kf q H locs ls hP hD hS hl)
theorem wp_if_le (ok : Okx x cc own nL f) {a : Int32} {off : Int} {tgt : Nat} (d : decode cc pc = .ok (.ifCond .le off, 3)) (ht : (pc : Int) + off = (tgt : Int)) (kt : a ≤ 0 → wp x tgt L st h) (kf : ¬ a ≤ 0 → wp x (pc + 3) L st h) : wp x pc L (.int a :: st) h := by
  obtain ⟨p, l, e, R, s, m, args, below, meth, c, fin, D, cA, A, ad, kc, ks⟩ := x
  obtain ⟨hx, hb, hown, hml, hts, hK, hA, hSt, hlk, hfr, hlo, hkc, hks⟩ := ok
  intro H locs ls hP hD hS hl
  exact lv_if_le hx hb d ht (fun q => kt q H locs ls hP hD hS hl) (fun q => kf q H locs ls hP hD hS hl)
theorem wp_icmp_le (ok : Okx x cc own nL f) {a b : Int32} {off : Int} {tgt : Nat} (d : decode cc pc = .ok (.if_icmp .le off, 3)) (ht : (pc : Int) + off = (tgt : Int)) (kt : a ≤ b → wp x tgt L st h) (kf : ¬ a ≤ b → wp x (pc + 3) L st h) : wp x pc L (.int b :: .int a :: st) h := by
  obtain ⟨p, l, e, R, s, m, args, below, meth, c, fin, D, cA, A, ad, kc, ks⟩ := x
  obtain ⟨hx, hb, hown, hml, hts, hK, hA, hSt, hlk, hfr, hlo, hkc, hks⟩ := ok
  intro H locs ls hP hD hS hl
  exact lv_icmp_le hx hb d ht (fun q => kt q H locs ls hP hD hS hl) (fun q => kf q H locs ls hP hD hS hl)
theorem wp_tabIn (ok : Okx x cc own nL f) {a v : Int32} {dflt lo hi off : Int} {offs : Array Int} {len tgt : Nat} (d : decode cc pc = .ok (.tableswitch dflt lo hi offs, len)) (hv : a = v) (h1 : ¬ v.toInt < lo) (h2 : ¬ hi < v.toInt) (ho : offs[(v.toInt - lo).toNat]? = some off) (ht : (pc : Int) + off = (tgt : Int)) (kk : wp x tgt L st h) : wp x pc L (.int a :: st) h := by
  subst hv
  obtain ⟨p, l, e, R, s, m, args, below, meth, c, fin, D, cA, A, ad, kc, ks⟩ := x
  obtain ⟨hx, hb, hown, hml, hts, hK, hA, hSt, hlk, hfr, hlo, hkc, hks⟩ := ok
  intro H locs ls hP hD hS hl
  exact lv_tableIn hx hb d h1 h2 ho ht (kk H locs ls hP hD hS hl)
theorem wp_tabOut (ok : Okx x cc own nL f) {a : Int32} {dflt lo hi : Int} {offs : Array Int} {len tgt : Nat} (d : decode cc pc = .ok (.tableswitch dflt lo hi offs, len)) (h1 : a.toInt < lo ∨ hi < a.toInt) (ht : (pc : Int) + dflt = (tgt : Int)) (kk : wp x tgt L st h) : wp x pc L (.int a :: st) h := by
  obtain ⟨p, l, e, R, s, m, args, below, meth, c, fin, D, cA, A, ad, kc, ks⟩ := x
  obtain ⟨hx, hb, hown, hml, hts, hK, hA, hSt, hlk, hfr, hlo, hkc, hks⟩ := ok
  intro H locs ls hP hD hS hl
  exact lv_tableOut hx hb d h1 ht (kk H locs ls hP hD hS hl)
theorem tab_out {a : Int32} {lo hi : Int} (vs : List Int32) (hv : vs.map Int32.toInt = (List.range (hi - lo + 1).toNat).map (fun (k : Nat) => lo + (k : Int))) (hn : ∀ v ∈ vs, ¬ a = v) : a.toInt < lo ∨ hi < a.toInt := by
  by_cases h1 : a.toInt < lo
  · exact Or.inl h1
  · refine Or.inr (Int.not_le.mp fun h2 => ?_)
    have hm : a.toInt ∈ vs.map Int32.toInt := by
      rw [hv]
      refine List.mem_map.mpr ⟨(a.toInt - lo).toNat, List.mem_range.mpr (by omega), by omega⟩
    obtain ⟨v, hv1, hv2⟩ := List.mem_map.mp hm
    exact hn v hv1 (Int32.toInt_inj.mp hv2.symm)
theorem wp_lookIn (ok : Okx x cc own nL f) {a v : Int32} {dflt off : Int} {ps : Array (Int × Int)} {len tgt : Nat} (d : decode cc pc = .ok (.lookupswitch dflt ps, len)) (hv : a = v) (hp : (ps.toList.zip (ps.toList.drop 1)).all (fun (a, next) => a.1 < next.1) = true) (ho : Op.lookupswitch.offset ps.toList dflt v.toInt = off) (ht : (pc : Int) + off = (tgt : Int)) (kk : wp x tgt L st h) : wp x pc L (.int a :: st) h := by
  subst hv
  obtain ⟨p, l, e, R, s, m, args, below, meth, c, fin, D, cA, A, ad, kc, ks⟩ := x
  obtain ⟨hx, hb, hown, hml, hts, hK, hA, hSt, hlk, hfr, hlo, hkc, hks⟩ := ok
  intro H locs ls hP hD hS hl
  exact lv_lookup hx hb d hp ho ht (kk H locs ls hP hD hS hl)
theorem look_out {k dflt : Int} : ∀ (ps : List (Int × Int)), (∀ q ∈ ps, ¬ q.1 = k) → Op.lookupswitch.offset ps dflt k = dflt
  | [], _ => rfl
  | (a, o) :: r, h => by
    rw [Op.lookupswitch.offset_cons, if_neg (h (a, o) List.mem_cons_self)]
    exact look_out r (fun q hq => h q (List.mem_cons_of_mem _ hq))
theorem wp_lookOut (ok : Okx x cc own nL f) {a : Int32} {dflt : Int} {ps : Array (Int × Int)} {len tgt : Nat} {vs : List Int32} (d : decode cc pc = .ok (.lookupswitch dflt ps, len)) (hp : (ps.toList.zip (ps.toList.drop 1)).all (fun (a, next) => a.1 < next.1) = true) (hv : ps.toList.map (fun q => q.1) = vs.map Int32.toInt) (hn : ∀ v ∈ vs, ¬ a = v) (ht : (pc : Int) + dflt = (tgt : Int)) (kk : wp x tgt L st h) : wp x pc L (.int a :: st) h := by
  obtain ⟨p, l, e, R, s, m, args, below, meth, c, fin, D, cA, A, ad, kc, ks⟩ := x
  obtain ⟨hx, hb, hown, hml, hts, hK, hA, hSt, hlk, hfr, hlo, hkc, hks⟩ := ok
  intro H locs ls hP hD hS hl
  refine lv_lookup hx hb d hp (look_out ps.toList (fun q hq e1 => ?_)) ht (kk H locs ls hP hD hS hl)
  have h1 : q.1 ∈ vs.map Int32.toInt := by rw [← hv]; exact List.mem_map.mpr ⟨q, hq, rfl⟩
  obtain ⟨v, hv1, hv2⟩ := List.mem_map.mp h1
  exact hn v hv1 (Int32.toInt_inj.mp (e1.symm.trans hv2.symm))
/-- the field of class kind ci at place k, of slot type t, as own's pool names it at index -/
def FL (own : String) (index ci k t : Nat) : Prop := ∃ (C : String) (T : u_T) (N : Nat) (ty0 : Nat → FieldType) (ty : FieldType), ci < 100 ∧ vwCl[ci]? = some (C, T, N) ∧ (∀ w ∈ u_ws C T N, w ∈ gw) ∧ k < N ∧ (T k).1 = C ∧ Cond.fieldLink own index C (T k).2.1 (T k).2.2.1 ∈ gw ∧ (sty ci)[k]? = some t ∧ (∀ k, k < N → parseFieldDescriptor (T k).2.2.1 = some (ty0 k)) ∧ (∀ a, a < N → ∀ b, b < N → a ≠ b → (T a).2.1 ≠ (T b).2.1) ∧ parseFieldDescriptor (T k).2.2.1 = some ty ∧ (t = 1 → ∀ v : Int64, narrow ty (.long v) = .long v ∧ fits ty (.long v) = true) ∧ (t = 2 → ∀ a : Nat, narrow ty (.ref a) = .ref a ∧ fits ty (.ref a) = true)
def FLw (own : String) (index ci k t : Nat) : Prop := FL own index ci k t ∧ ∃ (C : String) (T : u_T) (N : Nat), vwCl[ci]? = some (C, T, N) ∧ (T k).2.2.2 = false
theorem ent_obj {cA : Nat → ClassId} {ad : Nat → Nat} {h : HP} {a k n : Nat} (hk : k < 100) : ent cA ad h a (k, n) = .inr (k, flds ad h a k) := by simp [ent, hk]
theorem wp_getI (ok : Okx x cc own nL f) {a index ci k n : Nat} (hf : FL own index ci k 0) (ha : h.1[a]? = some (ci, n)) (d : decode cc pc = .ok (.getfield index, 3)) (kk : wp x (pc + 3) L (.int (h.2.1 a k) :: st) h) : wp x pc L (.ref a :: st) h := by
  obtain ⟨p, l, e, R, s, m, args, below, meth, c, fin, D, cA, A, ad, kc, ks⟩ := x
  obtain ⟨hx, hb, hown, hml, hts, hK, hA, hSt, hlk, hfr, hlo, hkc, hks⟩ := ok
  intro H locs ls hP hD hS hl
  obtain ⟨C, T, N, ty0, ty, h100, hc, hw, hk, hT, hlink, ht, -⟩ := hf
  have he := ws_at (cA := cA) (ad := ad) ha
  rw [ent_obj h100] at he
  exact va_get hx hb hts hw hown hK hP a he hc k hk (hts _ hlink) (fun z hz => by rw [hT] at hz; exact hz) (flds_get ht) d (kk H locs ls hP hD hS hl)
theorem wp_getJ (ok : Okx x cc own nL f) {a index ci k n : Nat} (hf : FL own index ci k 1) (ha : h.1[a]? = some (ci, n)) (d : decode cc pc = .ok (.getfield index, 3)) (kk : wp x (pc + 3) L (.long (h.2.2.1 a k) :: st) h) : wp x pc L (.ref a :: st) h := by
  obtain ⟨p, l, e, R, s, m, args, below, meth, c, fin, D, cA, A, ad, kc, ks⟩ := x
  obtain ⟨hx, hb, hown, hml, hts, hK, hA, hSt, hlk, hfr, hlo, hkc, hks⟩ := ok
  intro H locs ls hP hD hS hl
  obtain ⟨C, T, N, ty0, ty, h100, hc, hw, hk, hT, hlink, ht, -⟩ := hf
  have he := ws_at (cA := cA) (ad := ad) ha
  rw [ent_obj h100] at he
  exact va_get hx hb hts hw hown hK hP a he hc k hk (hts _ hlink) (fun z hz => by rw [hT] at hz; exact hz) (flds_get ht) d (kk H locs ls hP hD hS hl)
theorem wp_getR (ok : Okx x cc own nL f) {a b index ci k n : Nat} (hf : FL own index ci k 2) (ha : h.1[a]? = some (ci, n)) (hv : h.2.2.2 a k = some b) (d : decode cc pc = .ok (.getfield index, 3)) (kk : wp x (pc + 3) L (.ref b :: st) h) : wp x pc L (.ref a :: st) h := by
  obtain ⟨p, l, e, R, s, m, args, below, meth, c, fin, D, cA, A, ad, kc, ks⟩ := x
  obtain ⟨hx, hb, hown, hml, hts, hK, hA, hSt, hlk, hfr, hlo, hkc, hks⟩ := ok
  intro H locs ls hP hD hS hl
  obtain ⟨C, T, N, ty0, ty, h100, hc, hw, hk, hT, hlink, ht, -⟩ := hf
  have he := ws_at (cA := cA) (ad := ad) ha
  rw [ent_obj h100] at he
  have hg := flds_get (ad := ad) (h := h) (a := a) ht
  have e1 : fval ad h a k 2 = .ref (ad b) := by simp [fval, hv, va_rf]
  rw [e1] at hg
  exact va_get hx hb hts hw hown hK hP a he hc k hk (hts _ hlink) (fun z hz => by rw [hT] at hz; exact hz) hg d (kk H locs ls hP hD hS hl)
theorem wp_putI (ok : Okx x cc own nL f) {a index ci k n : Nat} {v : Int32} (hf : FLw own index ci k 0) (hv : (∀ ty : FieldType, ∀ (C : String) (T : u_T) (N : Nat), vwCl[ci]? = some (C, T, N) → parseFieldDescriptor (T k).2.2.1 = some ty → narrow ty (.int v) = .int v ∧ fits ty (.int v) = true)) (ha : h.1[a]? = some (ci, n)) (d : decode cc pc = .ok (.putfield index, 3)) (kk : wp x (pc + 3) L st (setI h a k v)) : wp x pc L (.int v :: .ref a :: st) h := by
  obtain ⟨p, l, e, R, s, m, args, below, meth, c, fin, D, cA, A, ad, kc, ks⟩ := x
  obtain ⟨hx, hb, hown, hml, hts, hK, hA, hSt, hlk, hfr, hlo, hkc, hks⟩ := ok
  intro H locs ls hP hD hS hl
  obtain ⟨⟨C, T, N, ty0, ty, h100, hc, hw, hk, hT, hlink, ht, hty, hnm, hd, hp1, hp2⟩, C2, T2, N2, hc2, hfin⟩ := hf
  cases hc.symm.trans hc2
  have he := ws_at (cA := cA) (ad := ad) ha
  rw [ent_obj h100] at he
  refine va_put hx hb hts hw ty0 hty hnm hown hK hP hD hS a he hc k hk (hts _ hlink) (fun z hz => by rw [hT] at hz; exact hz) hfin hd (hv ty C T N hc hd).1 (hv ty C T N hc hd).2 (by rw [flds_len]; exact (List.getElem?_eq_some_iff.mp ht).1) d (fun H1 locs1 hP1 hD1 hS1 => ?_)
  have e1 : (ws cA ad h).set a (ad a, .inr (ci, (flds ad h a ci).set k (.int v))) = ws cA ad (setI h a k v) := ws_set rfl ha (fun b q hq => ent_setI hq q) (by rw [ent_obj h100, flds_setI ht])
  exact kk H1 locs1 ls (Eq.mp (congrArg (fun w => va_P D vwCl w H1) e1) hP1) (Eq.mp (congrArg (fun w => va_D A w) e1) hD1) hS1 hl
theorem wp_putJ (ok : Okx x cc own nL f) {a index ci k n : Nat} {v : Int64} (hf : FLw own index ci k 1) (ha : h.1[a]? = some (ci, n)) (d : decode cc pc = .ok (.putfield index, 3)) (kk : wp x (pc + 3) L st (setJ h a k v)) : wp x pc L (.long v :: .ref a :: st) h := by
  obtain ⟨p, l, e, R, s, m, args, below, meth, c, fin, D, cA, A, ad, kc, ks⟩ := x
  obtain ⟨hx, hb, hown, hml, hts, hK, hA, hSt, hlk, hfr, hlo, hkc, hks⟩ := ok
  intro H locs ls hP hD hS hl
  obtain ⟨⟨C, T, N, ty0, ty, h100, hc, hw, hk, hT, hlink, ht, hty, hnm, hd, hp1, hp2⟩, C2, T2, N2, hc2, hfin⟩ := hf
  cases hc.symm.trans hc2
  have he := ws_at (cA := cA) (ad := ad) ha
  rw [ent_obj h100] at he
  refine va_put hx hb hts hw ty0 hty hnm hown hK hP hD hS a he hc k hk (hts _ hlink) (fun z hz => by rw [hT] at hz; exact hz) hfin hd (hp1 rfl v).1 (hp1 rfl v).2 (by rw [flds_len]; exact (List.getElem?_eq_some_iff.mp ht).1) d (fun H1 locs1 hP1 hD1 hS1 => ?_)
  have e1 : (ws cA ad h).set a (ad a, .inr (ci, (flds ad h a ci).set k (.long v))) = ws cA ad (setJ h a k v) := ws_set rfl ha (fun b q hq => ent_setJ hq q) (by rw [ent_obj h100, flds_setJ ht])
  exact kk H1 locs1 ls (Eq.mp (congrArg (fun w => va_P D vwCl w H1) e1) hP1) (Eq.mp (congrArg (fun w => va_D A w) e1) hD1) hS1 hl
theorem wp_putR (ok : Okx x cc own nL f) {a b index ci k n : Nat} (hf : FLw own index ci k 2) (ha : h.1[a]? = some (ci, n)) (d : decode cc pc = .ok (.putfield index, 3)) (kk : wp x (pc + 3) L st (setR h a k (some b))) : wp x pc L (.ref b :: .ref a :: st) h := by
  obtain ⟨p, l, e, R, s, m, args, below, meth, c, fin, D, cA, A, ad, kc, ks⟩ := x
  obtain ⟨hx, hb, hown, hml, hts, hK, hA, hSt, hlk, hfr, hlo, hkc, hks⟩ := ok
  intro H locs ls hP hD hS hl
  obtain ⟨⟨C, T, N, ty0, ty, h100, hc, hw, hk, hT, hlink, ht, hty, hnm, hd, hp1, hp2⟩, C2, T2, N2, hc2, hfin⟩ := hf
  cases hc.symm.trans hc2
  have he := ws_at (cA := cA) (ad := ad) ha
  rw [ent_obj h100] at he
  refine va_put hx hb hts hw ty0 hty hnm hown hK hP hD hS a he hc k hk (hts _ hlink) (fun z hz => by rw [hT] at hz; exact hz) hfin hd (hp2 rfl (ad b)).1 (hp2 rfl (ad b)).2 (by rw [flds_len]; exact (List.getElem?_eq_some_iff.mp ht).1) d (fun H1 locs1 hP1 hD1 hS1 => ?_)
  have e1 : (ws cA ad h).set a (ad a, .inr (ci, (flds ad h a ci).set k (.ref (ad b)))) = ws cA ad (setR h a k (some b)) := ws_set rfl ha (fun b q hq => ent_setR hq q) (by rw [ent_obj h100, flds_setR ht])
  exact kk H1 locs1 ls (Eq.mp (congrArg (fun w => va_P D vwCl w H1) e1) hP1) (Eq.mp (congrArg (fun w => va_D A w) e1) hD1) hS1 hl
theorem wp_iald (ok : Okx x cc own nL f) {a n : Nat} {i : Int32} (ha : h.1[a]? = some (102, n)) (hin : vp_in i n) (d : decode cc pc = .ok (.iaload, 1)) (kk : wp x (pc + 1) L (.int (h.2.1 a i.toNatClampNeg) :: st) h) : wp x pc L (.int i :: .ref a :: st) h := by
  obtain ⟨p, l, e, R, s, m, args, below, meth, c, fin, D, cA, A, ad, kc, ks⟩ := x
  obtain ⟨hx, hb, hown, hml, hts, hK, hA, hSt, hlk, hfr, hlo, hkc, hks⟩ := ok
  intro H locs ls hP hD hS hl
  have he : (ws cA ad h)[a]? = some (ad a, aent cA ad h a 102 n) := ws_at (cA := cA) (ad := ad) ha
  exact va_iald hx hb hK hP a 1 he rfl hin d (kk H locs ls hP hD hS hl)
theorem wp_cald (ok : Okx x cc own nL f) {a n : Nat} {i : Int32} (ha : h.1[a]? = some (101, n)) (hin : vp_in i n) (d : decode cc pc = .ok (.caload, 1)) (kk : wp x (pc + 1) L (.int (h.2.1 a i.toNatClampNeg) :: st) h) : wp x pc L (.int i :: .ref a :: st) h := by
  obtain ⟨p, l, e, R, s, m, args, below, meth, c, fin, D, cA, A, ad, kc, ks⟩ := x
  obtain ⟨hx, hb, hown, hml, hts, hK, hA, hSt, hlk, hfr, hlo, hkc, hks⟩ := ok
  intro H locs ls hP hD hS hl
  have he : (ws cA ad h)[a]? = some (ad a, aent cA ad h a 101 n) := ws_at (cA := cA) (ad := ad) ha
  exact va_cald hx hb hK hP a 0 he rfl hin d (kk H locs ls hP hD hS hl)
theorem wp_zald (ok : Okx x cc own nL f) {a n : Nat} {i : Int32} (ha : h.1[a]? = some (104, n)) (hin : vp_in i n) (d : decode cc pc = .ok (.baload, 1)) (kk : wp x (pc + 1) L (.int (h.2.1 a i.toNatClampNeg) :: st) h) : wp x pc L (.int i :: .ref a :: st) h := by
  obtain ⟨p, l, e, R, s, m, args, below, meth, c, fin, D, cA, A, ad, kc, ks⟩ := x
  obtain ⟨hx, hb, hown, hml, hts, hK, hA, hSt, hlk, hfr, hlo, hkc, hks⟩ := ok
  intro H locs ls hP hD hS hl
  have he : (ws cA ad h)[a]? = some (ad a, aent cA ad h a 104 n) := ws_at (cA := cA) (ad := ad) ha
  exact va_zald hx hb hK hP a 3 he rfl hin d (kk H locs ls hP hD hS hl)
theorem wp_lald (ok : Okx x cc own nL f) {a n : Nat} {i : Int32} (ha : h.1[a]? = some (103, n)) (hin : vp_in i n) (d : decode cc pc = .ok (.laload, 1)) (kk : wp x (pc + 1) L (.long (h.2.2.1 a i.toNatClampNeg) :: st) h) : wp x pc L (.int i :: .ref a :: st) h := by
  obtain ⟨p, l, e, R, s, m, args, below, meth, c, fin, D, cA, A, ad, kc, ks⟩ := x
  obtain ⟨hx, hb, hown, hml, hts, hK, hA, hSt, hlk, hfr, hlo, hkc, hks⟩ := ok
  intro H locs ls hP hD hS hl
  have he : (ws cA ad h)[a]? = some (ad a, aent cA ad h a 103 n) := ws_at (cA := cA) (ad := ad) ha
  exact va_lald hx hb hK hP a 2 he rfl hin d (kk H locs ls hP hD hS hl)
theorem wp_iast (ok : Okx x cc own nL f) {a n : Nat} {i : Int32} {v : Int32} (ha : h.1[a]? = some (102, n)) (hin : vp_in i n) (d : decode cc pc = .ok (.iastore, 1)) (kk : wp x (pc + 1) L st (setI h a i.toNatClampNeg v)) : wp x pc L (.int v :: .int i :: .ref a :: st) h := by
  obtain ⟨p, l, e, R, s, m, args, below, meth, c, fin, D, cA, A, ad, kc, ks⟩ := x
  obtain ⟨hx, hb, hown, hml, hts, hK, hA, hSt, hlk, hfr, hlo, hkc, hks⟩ := ok
  intro H locs ls hP hD hS hl
  have he : (ws cA ad h)[a]? = some (ad a, aent cA ad h a 102 n) := ws_at (cA := cA) (ad := ad) ha
  refine va_iast hx hb hK hP hD hS a 1 he rfl hin d (fun H1 locs1 hP1 hD1 hS1 => ?_)
  have e1 : (ws cA ad h).set a (ad a, .inl (cA 102, n, .inl (upd (h.2.1 a) i.toNatClampNeg v))) = ws cA ad (setI h a i.toNatClampNeg v) := ws_set rfl ha (fun b q hq => ent_setI hq q) (by simp [ent, aent, setI, va_up]; rfl)
  exact kk H1 locs1 ls (Eq.mp (congrArg (fun w => va_P D vwCl w H1) e1) hP1) (Eq.mp (congrArg (fun w => va_D A w) e1) hD1) hS1 hl
theorem wp_last (ok : Okx x cc own nL f) {a n : Nat} {i : Int32} {v : Int64} (ha : h.1[a]? = some (103, n)) (hin : vp_in i n) (d : decode cc pc = .ok (.lastore, 1)) (kk : wp x (pc + 1) L st (setJ h a i.toNatClampNeg v)) : wp x pc L (.long v :: .int i :: .ref a :: st) h := by
  obtain ⟨p, l, e, R, s, m, args, below, meth, c, fin, D, cA, A, ad, kc, ks⟩ := x
  obtain ⟨hx, hb, hown, hml, hts, hK, hA, hSt, hlk, hfr, hlo, hkc, hks⟩ := ok
  intro H locs ls hP hD hS hl
  have he : (ws cA ad h)[a]? = some (ad a, aent cA ad h a 103 n) := ws_at (cA := cA) (ad := ad) ha
  refine va_last hx hb hK hP hD hS a 2 he rfl hin d (fun H1 locs1 hP1 hD1 hS1 => ?_)
  have e1 : (ws cA ad h).set a (ad a, .inl (cA 103, n, .inr (.inl (vp_updL (h.2.2.1 a) i.toNatClampNeg v)))) = ws cA ad (setJ h a i.toNatClampNeg v) := ws_set rfl ha (fun b q hq => ent_setJ hq q) (by simp [ent, aent, setJ, va_up]; rfl)
  exact kk H1 locs1 ls (Eq.mp (congrArg (fun w => va_P D vwCl w H1) e1) hP1) (Eq.mp (congrArg (fun w => va_D A w) e1) hD1) hS1 hl
theorem wp_zast (ok : Okx x cc own nL f) {a n : Nat} {i v : Int32} (ha : h.1[a]? = some (104, n)) (hin : vp_in i n) (d : decode cc pc = .ok (.bastore, 1)) (kk : wp x (pc + 1) L st (setI h a i.toNatClampNeg (vp_nar .boolean v))) : wp x pc L (.int v :: .int i :: .ref a :: st) h := by
  obtain ⟨p, l, e, R, s, m, args, below, meth, c, fin, D, cA, A, ad, kc, ks⟩ := x
  obtain ⟨hx, hb, hown, hml, hts, hK, hA, hSt, hlk, hfr, hlo, hkc, hks⟩ := ok
  intro H locs ls hP hD hS hl
  have he : (ws cA ad h)[a]? = some (ad a, aent cA ad h a 104 n) := ws_at (cA := cA) (ad := ad) ha
  refine va_zast hx hb hK hP hD hS a 3 he rfl hin d (fun H1 locs1 hP1 hD1 hS1 => ?_)
  have e1 : (ws cA ad h).set a (ad a, .inl (cA 104, n, .inl (upd (h.2.1 a) i.toNatClampNeg (vp_nar .boolean v)))) = ws cA ad (setI h a i.toNatClampNeg (vp_nar .boolean v)) := ws_set rfl ha (fun b q hq => ent_setI hq q) (by simp [ent, aent, setI, va_up]; rfl)
  exact kk H1 locs1 ls (Eq.mp (congrArg (fun w => va_P D vwCl w H1) e1) hP1) (Eq.mp (congrArg (fun w => va_D A w) e1) hD1) hS1 hl
theorem wp_cast (ok : Okx x cc own nL f) {a n : Nat} {i v : Int32} (ha : h.1[a]? = some (101, n)) (hin : vp_in i n) (d : decode cc pc = .ok (.castore, 1)) (kk : wp x (pc + 1) L st (setI h a i.toNatClampNeg (vp_nar .char v))) : wp x pc L (.int v :: .int i :: .ref a :: st) h := by
  obtain ⟨p, l, e, R, s, m, args, below, meth, c, fin, D, cA, A, ad, kc, ks⟩ := x
  obtain ⟨hx, hb, hown, hml, hts, hK, hA, hSt, hlk, hfr, hlo, hkc, hks⟩ := ok
  intro H locs ls hP hD hS hl
  have he : (ws cA ad h)[a]? = some (ad a, aent cA ad h a 101 n) := ws_at (cA := cA) (ad := ad) ha
  refine va_cast hx hb hK hP hD hS a 0 he rfl hin d (fun H1 locs1 hP1 hD1 hS1 => ?_)
  have e1 : (ws cA ad h).set a (ad a, .inl (cA 101, n, .inl (upd (h.2.1 a) i.toNatClampNeg (vp_nar .char v)))) = ws cA ad (setI h a i.toNatClampNeg (vp_nar .char v)) := ws_set rfl ha (fun b q hq => ent_setI hq q) (by simp [ent, aent, setI, va_up]; rfl)
  exact kk H1 locs1 ls (Eq.mp (congrArg (fun w => va_P D vwCl w H1) e1) hP1) (Eq.mp (congrArg (fun w => va_D A w) e1) hD1) hS1 hl
theorem wp_alen101 (ok : Okx x cc own nL f) {a n : Nat} {v : Int32} (ha : h.1[a]? = some (101, n)) (hv : Int32.ofNat n = v) (d : decode cc pc = .ok (.arraylength, 1)) (kk : wp x (pc + 1) L (.int v :: st) h) : wp x pc L (.ref a :: st) h := by
  obtain ⟨p, l, e, R, s, m, args, below, meth, c, fin, D, cA, A, ad, kc, ks⟩ := x
  obtain ⟨hx, hb, hown, hml, hts, hK, hA, hSt, hlk, hfr, hlo, hkc, hks⟩ := ok
  intro H locs ls hP hD hS hl
  have he : (ws cA ad h)[a]? = some (ad a, aent cA ad h a 101 n) := ws_at (cA := cA) (ad := ad) ha
  exact va_alen hx hb hK hP a 0 he rfl hv d (kk H locs ls hP hD hS hl)
theorem wp_alen102 (ok : Okx x cc own nL f) {a n : Nat} {v : Int32} (ha : h.1[a]? = some (102, n)) (hv : Int32.ofNat n = v) (d : decode cc pc = .ok (.arraylength, 1)) (kk : wp x (pc + 1) L (.int v :: st) h) : wp x pc L (.ref a :: st) h := by
  obtain ⟨p, l, e, R, s, m, args, below, meth, c, fin, D, cA, A, ad, kc, ks⟩ := x
  obtain ⟨hx, hb, hown, hml, hts, hK, hA, hSt, hlk, hfr, hlo, hkc, hks⟩ := ok
  intro H locs ls hP hD hS hl
  have he : (ws cA ad h)[a]? = some (ad a, aent cA ad h a 102 n) := ws_at (cA := cA) (ad := ad) ha
  exact va_alen hx hb hK hP a 1 he rfl hv d (kk H locs ls hP hD hS hl)
theorem wp_alen103 (ok : Okx x cc own nL f) {a n : Nat} {v : Int32} (ha : h.1[a]? = some (103, n)) (hv : Int32.ofNat n = v) (d : decode cc pc = .ok (.arraylength, 1)) (kk : wp x (pc + 1) L (.int v :: st) h) : wp x pc L (.ref a :: st) h := by
  obtain ⟨p, l, e, R, s, m, args, below, meth, c, fin, D, cA, A, ad, kc, ks⟩ := x
  obtain ⟨hx, hb, hown, hml, hts, hK, hA, hSt, hlk, hfr, hlo, hkc, hks⟩ := ok
  intro H locs ls hP hD hS hl
  have he : (ws cA ad h)[a]? = some (ad a, aent cA ad h a 103 n) := ws_at (cA := cA) (ad := ad) ha
  exact va_alen hx hb hK hP a 2 he rfl hv d (kk H locs ls hP hD hS hl)
theorem wp_alen104 (ok : Okx x cc own nL f) {a n : Nat} {v : Int32} (ha : h.1[a]? = some (104, n)) (hv : Int32.ofNat n = v) (d : decode cc pc = .ok (.arraylength, 1)) (kk : wp x (pc + 1) L (.int v :: st) h) : wp x pc L (.ref a :: st) h := by
  obtain ⟨p, l, e, R, s, m, args, below, meth, c, fin, D, cA, A, ad, kc, ks⟩ := x
  obtain ⟨hx, hb, hown, hml, hts, hK, hA, hSt, hlk, hfr, hlo, hkc, hks⟩ := ok
  intro H locs ls hP hD hS hl
  have he : (ws cA ad h)[a]? = some (ad a, aent cA ad h a 104 n) := ws_at (cA := cA) (ad := ad) ha
  exact va_alen hx hb hK hP a 3 he rfl hv d (kk H locs ls hP hD hS hl)
theorem wp_alen105 (ok : Okx x cc own nL f) {a n : Nat} {v : Int32} (ha : h.1[a]? = some (105, n)) (hv : Int32.ofNat n = v) (d : decode cc pc = .ok (.arraylength, 1)) (kk : wp x (pc + 1) L (.int v :: st) h) : wp x pc L (.ref a :: st) h := by
  obtain ⟨p, l, e, R, s, m, args, below, meth, c, fin, D, cA, A, ad, kc, ks⟩ := x
  obtain ⟨hx, hb, hown, hml, hts, hK, hA, hSt, hlk, hfr, hlo, hkc, hks⟩ := ok
  intro H locs ls hP hD hS hl
  have he : (ws cA ad h)[a]? = some (ad a, aent cA ad h a 105 n) := ws_at (cA := cA) (ad := ad) ha
  exact va_alen hx hb hK hP a 4 he rfl hv d (kk H locs ls hP hD hS hl)
theorem wp_alen106 (ok : Okx x cc own nL f) {a n : Nat} {v : Int32} (ha : h.1[a]? = some (106, n)) (hv : Int32.ofNat n = v) (d : decode cc pc = .ok (.arraylength, 1)) (kk : wp x (pc + 1) L (.int v :: st) h) : wp x pc L (.ref a :: st) h := by
  obtain ⟨p, l, e, R, s, m, args, below, meth, c, fin, D, cA, A, ad, kc, ks⟩ := x
  obtain ⟨hx, hb, hown, hml, hts, hK, hA, hSt, hlk, hfr, hlo, hkc, hks⟩ := ok
  intro H locs ls hP hD hS hl
  have he : (ws cA ad h)[a]? = some (ad a, aent cA ad h a 106 n) := ws_at (cA := cA) (ad := ad) ha
  exact va_alen hx hb hK hP a 5 he rfl hv d (kk H locs ls hP hD hS hl)
theorem wp_aald105 (ok : Okx x cc own nL f) {a b n : Nat} {i : Int32} (ha : h.1[a]? = some (105, n)) (hin : vp_in i n) (hv : h.2.2.2 a i.toNatClampNeg = some b) (d : decode cc pc = .ok (.aaload, 1)) (kk : wp x (pc + 1) L (.ref b :: st) h) : wp x pc L (.int i :: .ref a :: st) h := by
  obtain ⟨p, l, e, R, s, m, args, below, meth, c, fin, D, cA, A, ad, kc, ks⟩ := x
  obtain ⟨hx, hb, hown, hml, hts, hK, hA, hSt, hlk, hfr, hlo, hkc, hks⟩ := ok
  intro H locs ls hP hD hS hl
  have he : (ws cA ad h)[a]? = some (ad a, aent cA ad h a 105 n) := ws_at (cA := cA) (ad := ad) ha
  have hlt : i.toNatClampNeg < n := Nat.not_le.mp fun q => hin (Or.inr q)
  have hcell : H[ad a]? = some (arrV (cA 105) n (fun j => va_rf ((h.2.2.2 a j).map ad))) := hP a _ he
  refine W.aald (v := .ref (ad b)) hx hb hcell ((hK.2 4 _ rfl).1 n (fun j => va_rf ((h.2.2.2 a j).map ad))) rfl (fun q => by cases q) (by rw [arrV_size]; exact hin) (by rw [arrV_read _ _ hlt, hv]; rfl) rfl rfl d (kk H locs ls hP hD hS hl)
theorem wp_aald106 (ok : Okx x cc own nL f) {a b n : Nat} {i : Int32} (ha : h.1[a]? = some (106, n)) (hin : vp_in i n) (hv : h.2.2.2 a i.toNatClampNeg = some b) (d : decode cc pc = .ok (.aaload, 1)) (kk : wp x (pc + 1) L (.ref b :: st) h) : wp x pc L (.int i :: .ref a :: st) h := by
  obtain ⟨p, l, e, R, s, m, args, below, meth, c, fin, D, cA, A, ad, kc, ks⟩ := x
  obtain ⟨hx, hb, hown, hml, hts, hK, hA, hSt, hlk, hfr, hlo, hkc, hks⟩ := ok
  intro H locs ls hP hD hS hl
  have he : (ws cA ad h)[a]? = some (ad a, aent cA ad h a 106 n) := ws_at (cA := cA) (ad := ad) ha
  have hlt : i.toNatClampNeg < n := Nat.not_le.mp fun q => hin (Or.inr q)
  have hcell : H[ad a]? = some (arrV (cA 106) n (fun j => va_rf ((h.2.2.2 a j).map ad))) := hP a _ he
  refine W.aald (v := .ref (ad b)) hx hb hcell ((hK.2 5 _ rfl).1 n (fun j => va_rf ((h.2.2.2 a j).map ad))) rfl (fun q => by cases q) (by rw [arrV_size]; exact hin) (by rw [arrV_read _ _ hlt, hv]; rfl) rfl rfl d (kk H locs ls hP hD hS hl)
theorem wp_iret (ok : Okx x cc own nL f) {h0 : HP} {v : Int32} {ty : FieldType} {Q : Option Value → HP → Prop} (hF : Fend x h0 (some ty) Q) (hn : narrow ty (.int v) = .int v) (h1 : h.1 = h0.1) (hq : Q (some (.int v)) h) (d : decode cc pc = .ok (.ireturn, 1)) : wp x pc L [.int v] h := by
  obtain ⟨p, l, e, R, s, m, args, below, meth, c, fin, D, cA, A, ad, kc, ks⟩ := x
  obtain ⟨hx, hb, hown, hml, hts, hK, hA, hSt, hlk, hfr, hlo, hkc, hks⟩ := ok
  obtain ⟨hF1, hF2, hF3⟩ := hF
  intro H locs ls hP hD hS hl
  have k : W p l e R s m args below meth c H locs kc ks (MQ below (Post ad D cA h0 s.heap.size Q) args s kc ks A) (F0 m pc ls [.int v]) := W.zret (Qc := Post ad D cA h0 s.heap.size Q) (free := A) (v := v) (ls := ls) hx hb hF2 hn (fun t ht hW => ⟨⟨some (.int v), h, rfl, hq, h1, by rw [ht]; exact hP⟩, by rw [← hF3]; exact hS.F ht⟩) hS.2.2 d hlk
  intro T hT X
  obtain ⟨t, a1, b1⟩ := k T hT X
  exact ⟨t, a1, hF1 t b1⟩
theorem wp_lret (ok : Okx x cc own nL f) {h0 : HP} {v : Int64} {Q : Option Value → HP → Prop} (hF : Fend x h0 (some .long) Q) (h1 : h.1 = h0.1) (hq : Q (some (.long v)) h) (d : decode cc pc = .ok (.lreturn, 1)) : wp x pc L [.long v] h := by
  obtain ⟨p, l, e, R, s, m, args, below, meth, c, fin, D, cA, A, ad, kc, ks⟩ := x
  obtain ⟨hx, hb, hown, hml, hts, hK, hA, hSt, hlk, hfr, hlo, hkc, hks⟩ := ok
  obtain ⟨hF1, hF2, hF3⟩ := hF
  intro H locs ls hP hD hS hl
  have k : W p l e R s m args below meth c H locs kc ks (MQ below (Post ad D cA h0 s.heap.size Q) args s kc ks A) (F0 m pc ls [.long v]) := W.lret (Qc := Post ad D cA h0 s.heap.size Q) (free := A) (v := v) (ls := ls) hx hb hF2 (fun t ht hW => ⟨⟨some (.long v), h, rfl, hq, h1, by rw [ht]; exact hP⟩, by rw [← hF3]; exact hS.F ht⟩) hS.2.2 d hlk
  intro T hT X
  obtain ⟨t, a1, b1⟩ := k T hT X
  exact ⟨t, a1, hF1 t b1⟩
theorem wp_aret (ok : Okx x cc own nL f) {h0 : HP} {v : Nat} {n : String} {Q : Option Value → HP → Prop} (hF : Fend x h0 (some (.object n)) Q) (h1 : h.1 = h0.1) (hq : Q (some (.ref v)) h) (d : decode cc pc = .ok (.areturn, 1)) : wp x pc L [.ref v] h := by
  obtain ⟨p, l, e, R, s, m, args, below, meth, c, fin, D, cA, A, ad, kc, ks⟩ := x
  obtain ⟨hx, hb, hown, hml, hts, hK, hA, hSt, hlk, hfr, hlo, hkc, hks⟩ := ok
  obtain ⟨hF1, hF2, hF3⟩ := hF
  intro H locs ls hP hD hS hl
  have k : W p l e R s m args below meth c H locs kc ks (MQ below (Post ad D cA h0 s.heap.size Q) args s kc ks A) (F0 m pc ls [.ref (ad v)]) := W.aret (Qc := Post ad D cA h0 s.heap.size Q) (free := A) (v := .ref (ad v)) (ls := ls) hx hb hF2 (Or.inl ⟨n, rfl⟩) (Or.inr ⟨ad v, rfl⟩) (fun t ht hW => ⟨⟨some (.ref v), h, rfl, hq, h1, by rw [ht]; exact hP⟩, by rw [← hF3]; exact hS.F ht⟩) hS.2.2 d hlk
  intro T hT X
  obtain ⟨t, a1, b1⟩ := k T hT X
  exact ⟨t, a1, hF1 t b1⟩
theorem wp_vret (ok : Okx x cc own nL f) {h0 : HP} {Q : Option Value → HP → Prop} (hF : Fend x h0 none Q) (h1 : h.1 = h0.1) (hq : Q none h) (d : decode cc pc = .ok (.return_, 1)) : wp x pc L [] h := by
  obtain ⟨p, l, e, R, s, m, args, below, meth, c, fin, D, cA, A, ad, kc, ks⟩ := x
  obtain ⟨hx, hb, hown, hml, hts, hK, hA, hSt, hlk, hfr, hlo, hkc, hks⟩ := ok
  obtain ⟨hF1, hF2, hF3⟩ := hF
  intro H locs ls hP hD hS hl
  have k : W p l e R s m args below meth c H locs kc ks (MQ below (Post ad D cA h0 s.heap.size Q) args s kc ks A) (F0 m pc ls []) := W.vret (Qc := Post ad D cA h0 s.heap.size Q) (free := A) (ls := ls) hx hb hF2 (fun t ht hW => ⟨⟨none, h, rfl, hq, h1, by rw [ht]; exact hP⟩, by rw [← hF3]; exact hS.F ht⟩) hS.2.2 d hlk
  intro T hT X
  obtain ⟨t, a1, b1⟩ := k T hT X
  exact ⟨t, a1, hF1 t b1⟩
end Ops
