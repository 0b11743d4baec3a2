/-! ===== the methods as functions ===== -/
def f_X0_become_B2 (N : Nat) (x0 : Nat) (x1 : Nat) (k51 : HP → Option HP) (rc : Int32 → HP → Option HP) (x2 : Int32) (h : HP) : Option HP :=
  (if 1 < x2 then k51 h else bnd (rK h x1 0 106) (fun t2 => gP (ixd x2 (lenH h t2) = true) (bnd (rK h t2 x2.toNatClampNeg 102) (fun t8 => bnd (rK h x0 0 106) (fun t13 => gP (ixd x2 (lenH h t13) = true) (bnd (rK h t13 x2.toNatClampNeg 102) (fun t19 => gP (cpok 0 0 6 (lenH h t8) (lenH h t19) = true) (lt_ (cpyI h t8 t19 0 0 6) (fun h25 => bnd (rK h25 x1 1 106) (fun t28 => gP (ixd x2 (lenH h25 t28) = true) (bnd (rK h25 t28 x2.toNatClampNeg 102) (fun t34 => bnd (rK h25 x0 1 106) (fun t39 => gP (ixd x2 (lenH h25 t39) = true) (bnd (rK h25 t39 x2.toNatClampNeg 102) (fun t45 => gP (cpok 0 0 6 (lenH h25 t34) (lenH h25 t45) = true) (lt_ (cpyI h25 t34 t45 0 0 6) (fun h51 => lt_ (x2 + 1) (fun v54 => rc v54 h51))))))))))))))))))
def f_X0_become (N : Nat) (h : HP) (x0 : Nat) (x1 : Nat) : Option HP :=
  gP (kO h x0 0 = true) (gP (kO h x1 0 = true) (lp (fun _ _ => none) (f_X0_become_B2 N x0 x1 (fun (h56 : HP) => lt_ (setI h56 x0 2 (h56.2.1 x1 2)) (fun h58 => lt_ (setI h58 x0 3 (h58.2.1 x1 3)) (fun h61 => lt_ (setI h61 x0 4 (h61.2.1 x1 4)) (fun h64 => lt_ (setI h64 x0 5 (h64.2.1 x1 5)) (fun h67 => gP ((h67.2.1 x1 6) = 0 ∨ (h67.2.1 x1 6) = 1) (lt_ (setI h67 x0 6 (h67.2.1 x1 6)) (fun h71 => some h71)))))))) N 0 h))
def f_X0_grow (h : HP) (x0 : Nat) : Option HP :=
  gP (kO h x0 0 = true) ((if 6 ≤ (h.2.1 x0 2) then some h else lt_ (setI h x0 2 ((h.2.1 x0 2) + 1)) (fun h2 => some h2)))
def f_X0_has (h : HP) (x0 : Nat) (x1 : Int32) : Option Int32 :=
  gP (kO h x0 0 = true) ((if x1 < 0 then some 0 else (if (h.2.1 x0 2) ≤ x1 then some 0 else some 1)))
def f_J9_floorMod_7cf53 (x0 : Int32) (x1 : Int32) : Option Int32 :=
  gP (¬ x1 = 0) (lt_ ((irm x0 x1)) (fun v2 => (if 0 ≤ (x0 ^^^ x1) then some v2 else (if v2 = 0 then some v2 else some (v2 + x1)))))
def f_X1_atMonth (h : HP) (x0 : Nat) (x1 : Int32) : Option Int32 :=
  gP (kO h x0 1 = true) ((if 0 < (h.2.1 x0 2) then bnd (f_J9_floorMod_7cf53 x1 (h.2.1 x0 2)) (fun v2 => some v2) else some 0))
def f_X9_isKind (x0 : Int32) : Option Int32 :=
  (if x0 = 0 then some 1 else (if x0 = 1 then some 1 else some 0))
def f_J9_min_7cf53 (x0 : Int32) (x1 : Int32) : Option Int32 :=
  (if x1 < x0 then some x1 else some x0)
def f_X0_add (h : HP) (x0 : Nat) (x1 : Int32) (x2 : Int32) (x3 : Int32) : Option HP :=
  gP (kO h x0 0 = true) (bnd (f_X0_has h x0 x1) (fun v1 => (if v1 = 0 then some h else bnd (f_X9_isKind x2) (fun v5 => (if v5 = 0 then some h else bnd (rK h x0 0 106) (fun t9 => gP (ixd x2 (lenH h t9) = true) (bnd (rK h t9 x2.toNatClampNeg 102) (fun t15 => bnd (rK h x0 0 106) (fun t20 => gP (ixd x2 (lenH h t20) = true) (bnd (rK h t20 x2.toNatClampNeg 102) (fun t26 => gP (ixd x1 (lenH h t26) = true) (bnd (f_J9_min_7cf53 99999 ((h.2.1 t26 x1.toNatClampNeg) + x3)) (fun v32 => gP (ixd x1 (lenH h t15) = true) (lt_ (setI h t15 x1.toNatClampNeg v32) (fun h36 => some h36)))))))))))))))
def f_X0_land (h : HP) (x0 : Nat) (x1 : Nat) : Option (Int32 × HP) :=
  gP (kO h x0 0 = true) (gP (kO h x1 1 = true) (bnd (f_X1_atMonth h x1 (h.2.1 x0 4)) (fun v1 => (if (h.2.1 x0 6) = 0 then (if (h.2.1 x0 2) = 0 then some (0, h) else bnd (rK h x1 0 102) (fun t6 => gP (ixd v1 (lenH h t6) = true) ((if (h.2.1 t6 v1.toNatClampNeg) = (-1) then some (0, h) else bnd (rK h x1 0 102) (fun t13 => gP (ixd v1 (lenH h t13) = true) (bnd (rK h x1 1 102) (fun t19 => gP (ixd v1 (lenH h t19) = true) (bnd (f_X0_add h x0 0 (h.2.1 t13 v1.toNatClampNeg) (h.2.1 t19 v1.toNatClampNeg)) (fun h25 => bnd (rK h25 x1 1 102) (fun t29 => gP (ixd v1 (lenH h25 t29) = true) (some ((h25.2.1 t29 v1.toNatClampNeg), h25)))))))))))) else some (0, h)))))
def f_X0_drift_B7 (N : Nat) (x0 : Nat) (x1 : Int32) (rc : Int32 → HP → Option HP) (x2 : Int32) (h : HP) : Option HP :=
  (if x2 < 0 then some h else bnd (rK h x0 0 106) (fun t4 => gP (ixd x1 (lenH h t4) = true) (bnd (rK h t4 x1.toNatClampNeg 102) (fun t10 => gP (ixd x2 (lenH h t10) = true) (lt_ ((((h.2.1 t10 x2.toNatClampNeg) * (h.2.1 x0 3)) / 10)) (fun v16 => bnd (rK h x0 0 106) (fun t18 => gP (ixd x1 (lenH h t18) = true) (bnd (rK h t18 x1.toNatClampNeg 102) (fun t24 => gP (ixd x2 (lenH h t24) = true) (gP (ixd x2 (lenH h t24) = true) (lt_ (setI h t24 x2.toNatClampNeg ((h.2.1 t24 x2.toNatClampNeg) - v16)) (fun h31 => bnd (f_X0_add h31 x0 (x2 + 1) x1 v16) (fun h34 => lt_ (x2 + (-1)) (fun v38 => rc v38 h34))))))))))))))
def f_X0_drift (N : Nat) (h : HP) (x0 : Nat) (x1 : Int32) : Option HP :=
  gP (kO h x0 0 = true) (lt_ (((h.2.1 x0 2) - 2)) (fun v1 => lp (fun _ _ => none) (f_X0_drift_B7 N x0 x1) N v1 h))
def f_X0_pass_B5 (N : Nat) (x0 : Nat) (x1 : Nat) (x2 : Int32) (rc : Int32 → Int32 → HP → Option (Int32 × HP)) (x3 : Int32) (x4 : Int32) (h : HP) : Option (Int32 × HP) :=
  (if x2 ≤ x4 then some (x3, h) else bnd2 (f_X0_land h x0 x1) (fun v2 h4 => lt_ ((x3 + v2)) (fun v7 => bnd (f_X0_drift N h4 x0 0) (fun h9 => bnd (f_X0_drift N h9 x0 1) (fun h13 => lt_ (setI h13 x0 4 ((h13.2.1 x0 4) + 1)) (fun h17 => lt_ (x4 + 1) (fun v20 => rc v7 v20 h17)))))))
def f_X0_pass (N : Nat) (h : HP) (x0 : Nat) (x1 : Nat) (x2 : Int32) : Option (Int32 × HP) :=
  gP (kO h x0 0 = true) (gP (kO h x1 1 = true) (lp (fun _ _ _ => none) (f_X0_pass_B5 N x0 x1 x2) N 0 0 h))
def f_X9_within (x0 : Int32) (x1 : Int32) (x2 : Int32) : Option Int32 :=
  (if x0 < x1 then some 0 else (if x2 < x0 then some 0 else some 1))
def f_X0_mayMove (h : HP) (x0 : Nat) (x1 : Int32) (x2 : Int32) (x3 : Int32) : Option Int32 :=
  gP (kO h x0 0 = true) (bnd (f_X0_has h x0 x1) (fun v1 => (if v1 = 0 then some 0 else bnd (f_X9_isKind x2) (fun v5 => (if v5 = 0 then some 0 else bnd (f_X9_within x3 1 9999) (fun v9 => (if v9 = 0 then some 0 else some 1)))))))
def f_X0_bring (h : HP) (x0 : Nat) (x1 : Int32) (x2 : Int32) (x3 : Int32) : Option (Int32 × HP) :=
  gP (kO h x0 0 = true) (bnd (f_X0_mayMove h x0 x1 x2 x3) (fun v1 => (if v1 = 0 then some ((-1), h) else bnd (f_X0_add h x0 x1 x2 x3) (fun h5 => bnd (rK h5 x0 0 106) (fun t9 => gP (ixd x2 (lenH h5 t9) = true) (bnd (rK h5 t9 x2.toNatClampNeg 102) (fun t15 => gP (ixd x1 (lenH h5 t15) = true) (some ((h5.2.1 t15 x1.toNatClampNeg), h5)))))))))
def f_X0_layBy (h : HP) (x0 : Nat) (x1 : Int32) (x2 : Int32) (x3 : Int32) : Option (Int32 × HP) :=
  gP (kO h x0 0 = true) (bnd (f_X0_mayMove h x0 x1 x2 x3) (fun v1 => (if v1 = 0 then some ((-1), h) else bnd (rK h x0 0 106) (fun t5 => gP (ixd x2 (lenH h t5) = true) (bnd (rK h t5 x2.toNatClampNeg 102) (fun t11 => gP (ixd x1 (lenH h t11) = true) ((if x3 ≤ (h.2.1 t11 x1.toNatClampNeg) then bnd (rK h x0 1 106) (fun t18 => gP (ixd x2 (lenH h t18) = true) (bnd (rK h t18 x2.toNatClampNeg 102) (fun t24 => gP (ixd x1 (lenH h t24) = true) ((if ((h.2.1 t24 x1.toNatClampNeg) + x3) ≤ 99999 then bnd (rK h x0 0 106) (fun t31 => gP (ixd x2 (lenH h t31) = true) (bnd (rK h t31 x2.toNatClampNeg 102) (fun t37 => gP (ixd x1 (lenH h t37) = true) (gP (ixd x1 (lenH h t37) = true) (lt_ (setI h t37 x1.toNatClampNeg ((h.2.1 t37 x1.toNatClampNeg) - x3)) (fun h44 => bnd (rK h44 x0 1 106) (fun t47 => gP (ixd x2 (lenH h44 t47) = true) (bnd (rK h44 t47 x2.toNatClampNeg 102) (fun t53 => gP (ixd x1 (lenH h44 t53) = true) (gP (ixd x1 (lenH h44 t53) = true) (lt_ (setI h44 t53 x1.toNatClampNeg ((h44.2.1 t53 x1.toNatClampNeg) + x3)) (fun h60 => bnd (rK h60 x0 1 106) (fun t63 => gP (ixd x2 (lenH h60 t63) = true) (bnd (rK h60 t63 x2.toNatClampNeg 102) (fun t69 => gP (ixd x1 (lenH h60 t69) = true) (some ((h60.2.1 t69 x1.toNatClampNeg), h60))))))))))))))))) else some ((-3), h)))))) else some ((-2), h)))))))))
def f_X0_spend (h : HP) (x0 : Nat) (x1 : Int32) (x2 : Int32) (x3 : Int32) : Option (Int32 × HP) :=
  gP (kO h x0 0 = true) (bnd (f_X0_mayMove h x0 x1 x2 x3) (fun v1 => (if v1 = 0 then some ((-1), h) else bnd (rK h x0 1 106) (fun t5 => gP (ixd x2 (lenH h t5) = true) (bnd (rK h t5 x2.toNatClampNeg 102) (fun t11 => gP (ixd x1 (lenH h t11) = true) ((if x3 ≤ (h.2.1 t11 x1.toNatClampNeg) then bnd (rK h x0 1 106) (fun t18 => gP (ixd x2 (lenH h t18) = true) (bnd (rK h t18 x2.toNatClampNeg 102) (fun t24 => gP (ixd x1 (lenH h t24) = true) (gP (ixd x1 (lenH h t24) = true) (lt_ (setI h t24 x1.toNatClampNeg ((h.2.1 t24 x1.toNatClampNeg) - x3)) (fun h31 => bnd (f_X0_add h31 x0 x1 x2 x3) (fun h34 => bnd (rK h34 x0 1 106) (fun t38 => gP (ixd x2 (lenH h34 t38) = true) (bnd (rK h34 t38 x2.toNatClampNeg 102) (fun t44 => gP (ixd x1 (lenH h34 t44) = true) (some ((h34.2.1 t44 x1.toNatClampNeg), h34)))))))))))) else some ((-2), h)))))))))
def f_X0_tax_B22 (N : Nat) (x0 : Nat) (x1 : Int32) (x2 : Int32) (rc : Int32 → HP → Option (Int32 × HP)) (x3 : Int32) (h : HP) : Option (Int32 × HP) :=
  (if 1 < x3 then some ((h.2.1 x0 5), h) else bnd (rK h x0 0 106) (fun t10 => gP (ixd x3 (lenH h t10) = true) (bnd (rK h t10 x3.toNatClampNeg 102) (fun t16 => gP (ixd x1 (lenH h t16) = true) (lt_ ((((h.2.1 t16 x1.toNatClampNeg) * x2) / 10)) (fun v22 => bnd (rK h x0 0 106) (fun t24 => gP (ixd x3 (lenH h t24) = true) (bnd (rK h t24 x3.toNatClampNeg 102) (fun t30 => gP (ixd x1 (lenH h t30) = true) (gP (ixd x1 (lenH h t30) = true) (lt_ (setI h t30 x1.toNatClampNeg ((h.2.1 t30 x1.toNatClampNeg) - v22)) (fun h37 => bnd (f_J9_min_7cf53 999999 ((h37.2.1 x0 5) + v22)) (fun v40 => lt_ (setI h37 x0 5 v40) (fun h43 => lt_ (x3 + 1) (fun v46 => rc v46 h43)))))))))))))))
def f_X0_tax (N : Nat) (h : HP) (x0 : Nat) (x1 : Int32) (x2 : Int32) : Option (Int32 × HP) :=
  gP (kO h x0 0 = true) (bnd (f_X0_has h x0 x1) (fun v1 => (if v1 = 0 then some ((-1), h) else bnd (f_X9_within x2 1 9) (fun v5 => (if v5 = 0 then some ((-1), h) else lp (fun _ _ => none) (f_X0_tax_B22 N x0 x1 x2) N 0 h)))))
def f_X0_burn (h : HP) (x0 : Nat) (x1 : Int32) : Option (Int32 × HP) :=
  gP (kO h x0 0 = true) (bnd (f_X0_has h x0 x1) (fun v1 => (if v1 = 0 then some ((-1), h) else bnd (rK h x0 0 106) (fun t5 => gP (ixd 1 (lenH h t5) = true) (bnd (rK h t5 (1 : Int32).toNatClampNeg 102) (fun t11 => gP (ixd x1 (lenH h t11) = true) (lt_ ((h.2.1 t11 x1.toNatClampNeg)) (fun v17 => bnd (rK h x0 0 106) (fun t19 => gP (ixd 1 (lenH h t19) = true) (bnd (rK h t19 (1 : Int32).toNatClampNeg 102) (fun t25 => gP (ixd x1 (lenH h t25) = true) (lt_ (setI h t25 x1.toNatClampNeg 0) (fun h31 => (if v17 = 0 then some ((-2), h31) else some (v17, h31)))))))))))))))
def f_X0_turnPort (h : HP) (x0 : Nat) : Option (Int32 × HP) :=
  gP (kO h x0 0 = true) (jn (fun (y2 : Int32) => gP (y2 = 0 ∨ y2 = 1) (lt_ (setI h x0 6 y2) (fun h4 => (if (h4.2.1 x0 6) = 0 then some (0, h4) else some (1, h4))))) (fun k1 => (if (h.2.1 x0 6) = 0 then k1 1 else k1 0)))
def f_X0_setFlow (h : HP) (x0 : Nat) (x1 : Int32) : Option (Int32 × HP) :=
  gP (kO h x0 0 = true) (bnd (f_X9_within x1 0 9) (fun v1 => (if v1 = 0 then some ((-1), h) else lt_ ((h.2.1 x0 3)) (fun v5 => lt_ (setI h x0 3 x1) (fun h7 => some (v5, h7))))))
def f_X0_sumThere_B4 (N : Nat) (x0 : Nat) (x1 : Int32) (h : HP) (rc : Int32 → Int32 → Option Int32) (x2 : Int32) (x3 : Int32) : Option Int32 :=
  (if (h.2.1 x0 2) ≤ x3 then some x2 else bnd (f_X9_isKind x1) (fun v2 => (if v2 = 0 then some x2 else bnd (rK h x0 0 106) (fun t6 => gP (ixd x1 (lenH h t6) = true) (bnd (rK h t6 x1.toNatClampNeg 102) (fun t12 => gP (ixd x3 (lenH h t12) = true) (lt_ ((x2 + (h.2.1 t12 x3.toNatClampNeg))) (fun v18 => lt_ (x3 + 1) (fun v20 => rc v18 v20)))))))))
def f_X0_sumThere (N : Nat) (h : HP) (x0 : Nat) (x1 : Int32) : Option Int32 :=
  gP (kO h x0 0 = true) (lp (fun _ _ => none) (f_X0_sumThere_B4 N x0 x1 h) N 0 0)
def f_X0_sumLaidBy_B4 (N : Nat) (x0 : Nat) (h : HP) (rc : Int32 → Int32 → Option Int32) (x1 : Int32) (x2 : Int32) : Option Int32 :=
  (if (h.2.1 x0 2) ≤ x2 then some x1 else bnd (rK h x0 1 106) (fun t2 => gP (ixd 0 (lenH h t2) = true) (bnd (rK h t2 (0 : Int32).toNatClampNeg 102) (fun t8 => gP (ixd x2 (lenH h t8) = true) (bnd (rK h x0 1 106) (fun t14 => gP (ixd 1 (lenH h t14) = true) (bnd (rK h t14 (1 : Int32).toNatClampNeg 102) (fun t20 => gP (ixd x2 (lenH h t20) = true) (lt_ ((x1 + ((h.2.1 t8 x2.toNatClampNeg) + (h.2.1 t20 x2.toNatClampNeg)))) (fun v26 => lt_ (x2 + 1) (fun v28 => rc v26 v28)))))))))))
def f_X0_sumLaidBy (N : Nat) (h : HP) (x0 : Nat) : Option Int32 :=
  gP (kO h x0 0 = true) (lp (fun _ _ => none) (f_X0_sumLaidBy_B4 N x0 h) N 0 0)
def f_X8_at (h : HP) (x0 : Nat) (x1 : Int32) (x2 : Int32) : Option Int32 :=
  gP (kO h x0 8 = true) ((if x1 < 0 then some (-1) else (if (h.2.1 x0 1) ≤ x1 then some (-1) else (if x2 ≤ x1 then some (-1) else bnd (rK h x0 0 101) (fun t4 => gP (ixd x1 (lenH h t4) = true) (some (h.2.1 t4 x1.toNatClampNeg)))))))
def f_X9_isDigit (x0 : Int32) : Option Int32 :=
  (if x0 < 48 then some 0 else (if 57 < x0 then some 0 else some 1))
def f_X8_digits_B3 (N : Nat) (x0 : Nat) (x1 : Int32) (x2 : Int32) (x3 : Int32) (h : HP) (rc : Int32 → Option Int32) (x4 : Int32) : Option Int32 :=
  (if x2 ≤ x4 then some x4 else bnd (f_X8_at h x0 (x1 + x4) x3) (fun v2 => bnd (f_X9_isDigit v2) (fun v5 => (if v5 = 0 then some x4 else lt_ (x4 + 1) (fun v9 => rc v9)))))
def f_X8_digits (N : Nat) (h : HP) (x0 : Nat) (x1 : Int32) (x2 : Int32) (x3 : Int32) : Option Int32 :=
  gP (kO h x0 8 = true) (lp (fun _ => none) (f_X8_digits_B3 N x0 x1 x2 x3 h) N 0)
def f_X8_number_B5 (N : Nat) (x0 : Nat) (x1 : Int32) (x2 : Int32) (h : HP) (rc : Int32 → Int32 → Option Int32) (x3 : Int32) (x4 : Int32) : Option Int32 :=
  (if x2 ≤ x4 then some x3 else bnd (f_X8_at h x0 (x1 + x4) 80) (fun v2 => lt_ ((((x3 * 10) + v2) - 48)) (fun v5 => lt_ (x4 + 1) (fun v7 => rc v5 v7))))
def f_X8_number (N : Nat) (h : HP) (x0 : Nat) (x1 : Int32) (x2 : Int32) : Option Int32 :=
  gP (kO h x0 8 = true) (lp (fun _ _ => none) (f_X8_number_B5 N x0 x1 x2 h) N 0 0)
def f_X1_read_B17 (N : Nat) (x0 : Nat) (x1 : Nat) (x2 : Int32) (k173 : HP → Option (Int32 × HP)) (rc : Int32 → HP → Option (Int32 × HP)) (x3 : Int32) (h : HP) : Option (Int32 × HP) :=
  (if x2 ≤ x3 then k173 h else bnd (f_X8_at h x1 x3 x2) (fun v8 => (if (h.2.1 x0 2) = 8 then some (x3, h) else jn (jn (fun (y14 : Int32) => jn (bnd (rK h x0 0 102) (fun t16 => jn (fun (y22 : Int32) => gP (ixd (h.2.1 x0 2) (lenH h t16) = true) (lt_ (setI h t16 (h.2.1 x0 2).toNatClampNeg y22) (fun h24 => bnd (rK h24 x0 1 102) (fun t27 => bnd (f_X8_number N h24 x1 (x3 + 1) y14) (fun v32 => gP (ixd (h24.2.1 x0 2) (lenH h24 t27) = true) (lt_ (setI h24 t27 (h24.2.1 x0 2).toNatClampNeg (10 * v32)) (fun h36 => lt_ (setI h36 x0 2 ((h36.2.1 x0 2) + 1)) (fun h39 => lt_ ((x3 + (1 + y14))) (fun v42 => rc v42 h39))))))))) (fun k21 => (if v8 = 46 then k21 (-1) else (if v8 = 111 then k21 0 else k21 1))))) (fun k15 => (if v8 = 46 then k15 else (if y14 = 0 then some ((x3 + 1), h) else k15)))) (fun k13 => (if v8 = 46 then k13 0 else bnd (f_X8_digits N h x1 (x3 + 1) 3 x2) (fun v49 => k13 v49)))) (fun k12 => (if v8 = 46 then k12 else (if v8 = 111 then k12 else (if v8 = 110 then k12 else some (x3, h))))))))
def f_X1_read (N : Nat) (h : HP) (x0 : Nat) (x1 : Nat) : Option (Int32 × HP) :=
  gP (kO h x0 1 = true) (gP (kO h x1 8 = true) (bnd (f_J9_min_7cf53 (h.2.1 x1 1) 32) (fun v1 => lt_ (setI h x0 2 0) (fun h4 => lp (fun _ _ => none) (f_X1_read_B17 N x0 x1 v1 (fun (h55 : HP) => (if (h55.2.1 x0 2) = 0 then some (v1, h55) else (if (h55.2.1 x1 1) ≤ v1 then some ((-1), h55) else some (v1, h55))))) N 0 h4))))
def f_X2_hear (h : HP) (x0 : Nat) (x1 : Int32) (x2 : Int32) : Option (Int32 × HP) :=
  gP (kO h x0 2 = true) ((if (h.2.1 x0 3) < 8 then bnd (rK h x0 0 102) (fun t2 => gP (ixd (h.2.1 x0 3) (lenH h t2) = true) (lt_ (setI h t2 (h.2.1 x0 3).toNatClampNeg x1) (fun h8 => bnd (rK h8 x0 1 102) (fun t11 => gP (ixd (h8.2.1 x0 3) (lenH h8 t11) = true) (lt_ (setI h8 t11 (h8.2.1 x0 3).toNatClampNeg x2) (fun h17 => lt_ (setI h17 x0 3 ((h17.2.1 x0 3) + 1)) (fun h20 => some (1, h20)))))))) else some (0, h)))
def f_X2_isFitting_B2 (N : Nat) (x0 : Nat) (x1 : Int32) (h : HP) (rc : Int32 → Option Int32) (x2 : Int32) : Option Int32 :=
  (if (h.2.1 x0 3) ≤ x2 then some 1 else bnd (rK h x0 0 102) (fun t2 => gP (ixd x2 (lenH h t2) = true) ((if (h.2.1 t2 x2.toNatClampNeg) ≤ 0 then lt_ (x2 + 1) (fun v9 => rc v9) else bnd (rK h x0 0 102) (fun t11 => gP (ixd x2 (lenH h t11) = true) (gP (¬ (h.2.1 t11 x2.toNatClampNeg) = 0) (bnd (rK h x0 1 102) (fun t18 => gP (ixd x2 (lenH h t18) = true) ((if (irm x1 (h.2.1 t11 x2.toNatClampNeg)) = (h.2.1 t18 x2.toNatClampNeg) then lt_ (x2 + 1) (fun v25 => rc v25) else some 0))))))))))
def f_X2_isFitting (N : Nat) (h : HP) (x0 : Nat) (x1 : Int32) : Option Int32 :=
  gP (kO h x0 2 = true) (lp (fun _ => none) (f_X2_isFitting_B2 N x0 x1 h) N 0)
def f_X2_sift_B2 (N : Nat) (x0 : Nat) (rc : Int32 → HP → Option HP) (x1 : Int32) (h : HP) : Option HP :=
  (if 999 < x1 then some h else bnd (rK h x0 2 104) (fun t2 => bnd (f_X2_isFitting N h x0 x1) (fun v7 => gP (ixd x1 (lenH h t2) = true) (lt_ (setI h t2 x1.toNatClampNeg (zb v7)) (fun h11 => lt_ (x1 + 1) (fun v14 => rc v14 h11))))))
def f_X2_sift (N : Nat) (h : HP) (x0 : Nat) : Option HP :=
  gP (kO h x0 2 = true) (lp (fun _ _ => none) (f_X2_sift_B2 N x0) N 1 h)
def f_J9_max_7cf53 (x0 : Int32) (x1 : Int32) : Option Int32 :=
  (if x0 < x1 then some x1 else some x0)
def f_X2_mostLeft_B15 (N : Nat) (x0 : Nat) (x1 : Int32) (x2 : Int32) (x3 : Int32) (h : HP) (k56 : Int32 → Option Int32) (rc : Int32 → Int32 → Option Int32) (x4 : Int32) (x5 : Int32) : Option Int32 :=
  (if 999 < x5 then k56 x4 else (if x1 ≤ 0 then k56 x4 else bnd (rK h x0 2 104) (fun t4 => gP (ixd x5 (lenH h t4) = true) ((if (h.2.1 t4 x5.toNatClampNeg) = 0 then lt_ ((x4 + 0)) (fun v11 => lt_ ((x5 + x1)) (fun v13 => rc v11 v13)) else lt_ ((x4 + 1)) (fun v15 => lt_ ((x5 + x1)) (fun v17 => rc v15 v17)))))))
def f_X2_mostLeft_B4 (N : Nat) (x0 : Nat) (x1 : Int32) (h : HP) (rc : Int32 → Int32 → Option Int32) (x2 : Int32) (x3 : Int32) : Option Int32 :=
  (if x1 ≤ x3 then some x2 else lp (fun _ _ => none) (f_X2_mostLeft_B15 N x0 x1 x2 x3 h (fun (x19 : Int32) => bnd (f_J9_max_7cf53 x2 x19) (fun v20 => lt_ (x3 + 1) (fun v23 => rc v20 v23)))) N 0 x3)
def f_X2_mostLeft (N : Nat) (h : HP) (x0 : Nat) (x1 : Int32) : Option Int32 :=
  gP (kO h x0 2 = true) (lp (fun _ _ => none) (f_X2_mostLeft_B4 N x0 x1 h) N 0 0)
def f_X3_read_B30 (N : Nat) (x0 : Nat) (x1 : Nat) (x3 : Int32) (x4 : Int32) (x5 : Int32) (k118 : HP → Option (Int32 × HP)) (rc : Int32 → Int32 → HP → Option (Int32 × HP)) (x6 : Int32) (x7 : Int32) (h : HP) : Option (Int32 × HP) :=
  (if x3 ≤ x7 then some (x6, h) else bnd (rK h x0 0 102) (fun t9 => (if (Int32.ofNat (lenH h t9)) ≤ x7 then some (x6, h) else bnd (f_X8_digits N h x1 x6 x4 x5) (fun v15 => (if v15 = 0 then some (x6, h) else bnd (rK h x0 0 102) (fun t19 => bnd (f_X8_number N h x1 x6 v15) (fun v24 => gP (ixd x7 (lenH h t19) = true) (lt_ (setI h t19 x7.toNatClampNeg v24) (fun h28 => lt_ (setI h28 x0 1 (x7 + 1)) (fun h31 => lt_ ((x6 + v15)) (fun v34 => bnd (rK h31 x0 0 102) (fun t36 => gP (ixd x7 (lenH h31 t36) = true) ((if (h31.2.1 t36 x7.toNatClampNeg) = 0 then some ((v34 - 1), h31) else (if v34 = x5 then k118 h31 else bnd (f_X8_at h31 x1 v34 x5) (fun v44 => (if v44 = 59 then lt_ (v34 + 1) (fun v48 => lt_ (x7 + 1) (fun v50 => rc v48 v50 h31)) else some (v34, h31))))))))))))))))))
def f_X3_read (N : Nat) (h : HP) (x0 : Nat) (x1 : Nat) (x2 : Int32) (x3 : Int32) (x4 : Int32) : Option (Int32 × HP) :=
  gP (kO h x0 3 = true) (gP (kO h x1 8 = true) (lt_ (setI h x0 1 0) (fun h1 => (if (h1.2.1 x1 1) = 0 then some ((-1), h1) else bnd (f_J9_min_7cf53 (h1.2.1 x1 1) x2) (fun v5 => lp (fun _ _ _ => none) (f_X3_read_B30 N x0 x1 x3 x4 v5 (fun (h52 : HP) => (if (h52.2.1 x1 1) ≤ v5 then some ((-1), h52) else some (v5, h52)))) N 0 0 h1)))))
def f_X3_sum_B4 (N : Nat) (x0 : Nat) (x1 : Int32) (h : HP) (rc : Int32 → Int32 → Option Int32) (x2 : Int32) (x3 : Int32) : Option Int32 :=
  (if (h.2.1 x0 1) ≤ x3 then some x2 else bnd (rK h x0 0 102) (fun t2 => gP (ixd x3 (lenH h t2) = true) (lt_ ((x2 + (((shr x1 x3) &&& 1) * (h.2.1 t2 x3.toNatClampNeg)))) (fun v8 => lt_ (x3 + 1) (fun v10 => rc v8 v10)))))
def f_X3_sum (N : Nat) (h : HP) (x0 : Nat) (x1 : Int32) : Option Int32 :=
  gP (kO h x0 3 = true) (lp (fun _ _ => none) (f_X3_sum_B4 N x0 x1 h) N 0 0)
def f_X4_begin (h : HP) (x0 : Nat) (x1 : Int32) : Option HP :=
  gP (kO h x0 4 = true) (lt_ (setI h x0 0 x1) (fun h1 => some h1))
def f_X4_draw (h : HP) (x0 : Nat) (x1 : Int32) : Option (Int32 × HP) :=
  gP (kO h x0 4 = true) (lt_ (setI h x0 0 (((h.2.1 x0 0) * 1103515245) + 12345)) (fun h1 => (if 0 < x1 then gP (¬ x1 = 0) (some ((irm (ushr (h1.2.1 x0 0) 16) x1), h1)) else some (0, h1))))
def f_X5_put (N : Nat) (h : HP) (x0 : Nat) (x1 : Nat) : Option HP :=
  gP (kO h x0 5 = true) (gP (kO h x1 0 = true) (bnd (rK h x0 0 105) (fun t1 => gP (ixd (h.2.1 x0 1) (lenH h t1) = true) (bnd (rK h t1 (h.2.1 x0 1).toNatClampNeg 0) (fun t7 => bnd (f_X0_become N h t7 x1) (fun h12 => jn (fun (y17 : Int32) => lt_ (setI h12 x0 1 y17) (fun h18 => bnd (f_J9_min_7cf53 15 ((h18.2.1 x0 2) + 1)) (fun v21 => lt_ (setI h18 x0 2 v21) (fun h24 => some h24)))) (fun k16 => (if (h12.2.1 x0 1) = 14 then k16 0 else k16 ((h12.2.1 x0 1) + 1)))))))))
def f_X5_giveBack (N : Nat) (h : HP) (x0 : Nat) (x1 : Nat) : Option (Int32 × HP) :=
  gP (kO h x0 5 = true) (gP (kO h x1 0 = true) ((if (h.2.1 x0 2) = 0 then some (0, h) else jn (fun (y3 : Int32) => lt_ (setI h x0 1 y3) (fun h4 => lt_ (setI h4 x0 2 ((h4.2.1 x0 2) - 1)) (fun h7 => bnd (rK h7 x0 0 105) (fun t10 => gP (ixd (h7.2.1 x0 1) (lenH h7 t10) = true) (bnd (rK h7 t10 (h7.2.1 x0 1).toNatClampNeg 0) (fun t16 => bnd (f_X0_become N h7 x1 t16) (fun h21 => some (1, h21)))))))) (fun k2 => (if (h.2.1 x0 1) = 0 then k2 14 else k2 ((h.2.1 x0 1) - 1))))))
def f_X5_clear (h : HP) (x0 : Nat) : Option HP :=
  gP (kO h x0 5 = true) (lt_ (setI h x0 2 0) (fun h1 => some h1))
def f_X6_clear (h : HP) (x0 : Nat) : Option HP :=
  gP (kO h x0 6 = true) (lt_ (setI h x0 1 0) (fun h1 => some h1))
def f_X6_add (h : HP) (x0 : Nat) (x1 : Int64) : Option HP :=
  gP (kO h x0 6 = true) (bnd (rK h x0 0 103) (fun t1 => (if (Int32.ofNat (lenH h t1)) ≤ (h.2.1 x0 1) then some h else bnd (rK h x0 0 103) (fun t7 => gP (ixd (h.2.1 x0 1) (lenH h t7) = true) (lt_ (setJ h t7 (h.2.1 x0 1).toNatClampNeg x1) (fun h13 => lt_ (setI h13 x0 1 ((h13.2.1 x0 1) + 1)) (fun h16 => some h16)))))))
def f_X6_tell (h : HP) (x0 : Nat) (x1 : Int64) : Option HP :=
  gP (kO h x0 6 = true) (lt_ (setI h x0 1 0) (fun h1 => bnd (f_X6_add h1 x0 x1) (fun h4 => some h4)))
def f_X6_tell_ (h : HP) (x0 : Nat) (x1 : Int64) (x3 : Int64) : Option HP :=
  gP (kO h x0 6 = true) (lt_ (setI h x0 1 0) (fun h1 => bnd (f_X6_add h1 x0 x1) (fun h4 => bnd (f_X6_add h4 x0 x3) (fun h8 => some h8))))
def f_X8_add_B19 (N : Nat) (x0 : Nat) (x1 : Int32) (rc : Int32 → HP → Option (Int32 × HP)) (x2 : Int32) (h : HP) : Option (Int32 × HP) :=
  (if x2 < 0 then some (1, h) else bnd (rK h x0 0 101) (fun t8 => gP (ixd (h.2.1 x0 1) (lenH h t8) = true) (lt_ (setI h t8 (h.2.1 x0 1).toNatClampNeg (cb (i2c ((ushr x1 x2) &&& 255)))) (fun h14 => lt_ (setI h14 x0 1 ((h14.2.1 x0 1) + 1)) (fun h17 => lt_ (x2 + (-8)) (fun v20 => rc v20 h17))))))
def f_X8_add (N : Nat) (h : HP) (x0 : Nat) (x1 : Int32) : Option (Int32 × HP) :=
  gP (kO h x0 8 = true) (bnd (rK h x0 0 101) (fun t1 => (if ((h.2.1 x0 1) + 4) ≤ (Int32.ofNat (lenH h t1)) then lp (fun _ _ => none) (f_X8_add_B19 N x0 x1) N 24 h else some (0, h))))
def f_X8_cut (h : HP) (x0 : Nat) (x1 : Int32) : Option (Int32 × HP) :=
  gP (kO h x0 8 = true) ((if x1 < 0 then some (0, h) else (if x1 ≤ (h.2.1 x0 1) then lt_ (setI h x0 1 x1) (fun h3 => some (1, h3)) else some (0, h))))
def f_X8_empty (h : HP) (x0 : Nat) : Option HP :=
  gP (kO h x0 8 = true) (lt_ (setI h x0 1 0) (fun h1 => some h1))
