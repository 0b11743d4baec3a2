/-! ===== constructors ===== -/
theorem len_nw {h : HP} {kn : Nat × Nat} {n0 c c2 : Nat} (e : h.1.length = n0 + c) (h2 : c + 1 = c2) : (nw h kn).1.length = n0 + c2 := by rw [nw_len]; omega
theorem len_nwM {h : HP} {n k n0 c c2 : Nat} (e : h.1.length = n0 + c) (h2 : c + (1 + n) = c2) : (nwM h n k).1.length = n0 + c2 := by rw [nwM_len]; omega
theorem at_nw {h : HP} {kn q : Nat × Nat} {a : Nat} (e : h.1[a]? = some q) : (nw h kn).1[a]? = some q := by
  show (h.1 ++ [kn])[a]? = some q
  rw [List.getElem?_append_left (List.getElem?_eq_some_iff.mp e).1]
  exact e
theorem at_nwM {h : HP} {n k : Nat} {q : Nat × Nat} {a : Nat} (e : h.1[a]? = some q) : (nwM h n k).1[a]? = some q := by
  show (h.1 ++ _)[a]? = some q
  rw [List.getElem?_append_left (List.getElem?_eq_some_iff.mp e).1]
  exact e
theorem new_nw {h : HP} {kn : Nat × Nat} {n0 c : Nat} (e : h.1.length = n0 + c) : (nw h kn).1[n0 + c]? = some kn := by
  show (h.1 ++ [kn])[n0 + c]? = some kn
  rw [← e]
  simp
theorem wp_nmR {x : Cx} {pc : Nat} {L : List (Nat × Value)} {st : List Value} {h : HP} {v e : Nat} (ev : v = e) (kk : wp x pc L (.ref v :: st) h) : wp x pc L (.ref e :: st) h := by subst ev; exact kk
theorem bfr {h : HP} {a k b : Nat} (fa : h.1[a]? = some (7, k)) (fr : h.2.2.2 a 0 = some b) (fb : h.1[b]? = some (102, 40)) : f_X7_beFirstRule h a = some (cpyT (setI h a 5 7) 0 b 0 0 7) := by
  have e1 : kO h a 7 = true := by simp [kO, fa]
  have e2 : rK (setI h a 5 7) a 0 102 = some b := by
    have : kO (setI h a 5 7) b 102 = true := by simp [kO, setI, fb]
    simp [rK, this, show (setI h a 5 7).2.2.2 a 0 = some b from fr]
  have e3 : (setI h a 5 7).2.1 a 5 = 7 := by simp [setI, va_up]
  have e4 : lenH (setI h a 5 7) b = 40 := by simp [lenH, setI, fb]
  have e5 : cpok 0 0 7 7 40 = true := by decide
  unfold f_X7_beFirstRule
  rw [gP, if_pos e1]
  show bnd (rK (setI h a 5 7) a 0 102) _ = _
  rw [e2]
  show gP (cpok 0 0 ((setI h a 5 7).2.1 a 5) 7 (lenH (setI h a 5 7) b) = true) _ = _
  rw [e3, e4, gP, if_pos e5]
  rfl
theorem wk_37 : Cond.methodLink RX8 3 Lib.objectInit ∈ gw := gw_t 37 (by decide +kernel) (by decide +kernel)
theorem wk_30 : Cond.instanceMethod Lib.objectInit ∈ gw := gw_t 30 (by decide +kernel) (by decide +kernel)
theorem wk_31 : Cond.code Lib.objectInit ⟨#[0xb1]⟩ 1 none ∈ gw := gw_t 31 (by decide +kernel) (by decide +kernel)
theorem wk_49 : Cond.arrayClass .char ∈ gw := gw_t 49 (by decide +kernel) (by decide +kernel)
theorem wk_55 : Cond.methodLink RX6 3 Lib.objectInit ∈ gw := gw_t 55 (by decide +kernel) (by decide +kernel)
theorem wk_65 : Cond.arrayClass .long ∈ gw := gw_t 65 (by decide +kernel) (by decide +kernel)
theorem wk_71 : Cond.methodLink RX0 3 Lib.objectInit ∈ gw := gw_t 71 (by decide +kernel) (by decide +kernel)
theorem wk_72 : Cond.classLink RX0 9 "[[I" ∈ gw := gw_t 72 (by decide +kernel) (by decide +kernel)
theorem wk_103 : Cond.arrayClass .int ∈ gw := gw_t 103 (by decide +kernel) (by decide +kernel)
theorem wk_130 : Cond.methodLink RX3 3 Lib.objectInit ∈ gw := gw_t 130 (by decide +kernel) (by decide +kernel)
theorem wk_145 : Cond.methodLink RX2 3 Lib.objectInit ∈ gw := gw_t 145 (by decide +kernel) (by decide +kernel)
theorem wk_161 : Cond.arrayClass .boolean ∈ gw := gw_t 161 (by decide +kernel) (by decide +kernel)
theorem wk_167 : Cond.methodLink RX4 1 Lib.objectInit ∈ gw := gw_t 167 (by decide +kernel) (by decide +kernel)
theorem wk_177 : Cond.methodLink RX1 3 Lib.objectInit ∈ gw := gw_t 177 (by decide +kernel) (by decide +kernel)
theorem wk_198 : Cond.methodLink RX7 3 Lib.objectInit ∈ gw := gw_t 198 (by decide +kernel) (by decide +kernel)
theorem wk_199 : Cond.methodLink RX7 28 yX7_beFirstRule ∈ gw := gw_t 199 (by decide +kernel) (by decide +kernel)
theorem wk_109 : Cond.methodLink RX5 3 Lib.objectInit ∈ gw := gw_t 109 (by decide +kernel) (by decide +kernel)
theorem wk_110 : Cond.classLink RX5 9 RX0 ∈ gw := gw_t 110 (by decide +kernel) (by decide +kernel)
theorem wk_29 : Cond.methodLink RX9 1 Lib.objectInit ∈ gw := gw_t 29 (by decide +kernel) (by decide +kernel)
theorem wk_32 : Cond.classLink RX9 7 RX8 ∈ gw := gw_t 32 (by decide +kernel) (by decide +kernel)
theorem wk_50 : Cond.classLink RX9 16 RX6 ∈ gw := gw_t 50 (by decide +kernel) (by decide +kernel)
theorem wk_66 : Cond.classLink RX9 23 RX0 ∈ gw := gw_t 66 (by decide +kernel) (by decide +kernel)
theorem wk_104 : Cond.classLink RX9 36 RX5 ∈ gw := gw_t 104 (by decide +kernel) (by decide +kernel)
theorem wk_106 : Cond.methodLink RX9 38 yX5_init ∈ gw := gw_t 106 (by decide +kernel) (by decide +kernel)
theorem wk_124 : Cond.classLink RX9 55 "[[I" ∈ gw := gw_t 124 (by decide +kernel) (by decide +kernel)
theorem wk_125 : Cond.classLink RX9 60 RX3 ∈ gw := gw_t 125 (by decide +kernel) (by decide +kernel)
theorem wk_140 : Cond.classLink RX9 67 RX2 ∈ gw := gw_t 140 (by decide +kernel) (by decide +kernel)
theorem wk_162 : Cond.classLink RX9 74 RX4 ∈ gw := gw_t 162 (by decide +kernel) (by decide +kernel)
theorem wk_172 : Cond.classLink RX9 81 RX1 ∈ gw := gw_t 172 (by decide +kernel) (by decide +kernel)
theorem wk_174 : Cond.methodLink RX9 83 yX1_init ∈ gw := gw_t 174 (by decide +kernel) (by decide +kernel)
theorem wk_193 : Cond.classLink RX9 91 RX7 ∈ gw := gw_t 193 (by decide +kernel) (by decide +kernel)
theorem wk_195 : Cond.methodLink RX9 93 yX7_init ∈ gw := gw_t 195 (by decide +kernel) (by decide +kernel)
theorem wk_1046 : Cond.methodLink RX10 22 Lib.objectInit ∈ gw := gw_t 1046 (by decide +kernel) (by decide +kernel)
theorem flf_RX8_9 : FLf RX8 9 8 0 := ⟨⟨RX8, TX8, 2, tyX8, tyX8 0, by decide, rfl, hw_8, by decide, rfl, gw_t 38 (by decide +kernel) (by decide +kernel), rfl, tyX8_ok, nmX8, tyX8_ok 0 (by decide), ⟨fun q => absurd q (by decide), fun _ _ => ⟨rfl, rfl⟩⟩⟩, RX8, TX8, 2, rfl, rfl, rfl⟩
theorem flf_RX6_9 : FLf RX6 9 6 0 := ⟨⟨RX6, TX6, 2, tyX6, tyX6 0, by decide, rfl, hw_6, by decide, rfl, gw_t 56 (by decide +kernel) (by decide +kernel), rfl, tyX6_ok, nmX6, tyX6_ok 0 (by decide), ⟨fun q => absurd q (by decide), fun _ _ => ⟨rfl, rfl⟩⟩⟩, RX6, TX6, 2, rfl, rfl, rfl⟩
theorem flf_RX0_11 : FLf RX0 11 0 0 := ⟨⟨RX0, TX0, 7, tyX0, tyX0 0, by decide, rfl, hw_0, by decide, rfl, gw_t 74 (by decide +kernel) (by decide +kernel), rfl, tyX0_ok, nmX0, tyX0_ok 0 (by decide), ⟨fun q => absurd q (by decide), fun _ _ => ⟨rfl, rfl⟩⟩⟩, RX0, TX0, 7, rfl, rfl, rfl⟩
theorem flf_RX0_16 : FLf RX0 16 0 1 := ⟨⟨RX0, TX0, 7, tyX0, tyX0 1, by decide, rfl, hw_0, by decide, rfl, gw_t 76 (by decide +kernel) (by decide +kernel), rfl, tyX0_ok, nmX0, tyX0_ok 1 (by decide), ⟨fun q => absurd q (by decide), fun _ _ => ⟨rfl, rfl⟩⟩⟩, RX0, TX0, 7, rfl, rfl, rfl⟩
theorem flf_RX3_9 : FLf RX3 9 3 0 := ⟨⟨RX3, TX3, 2, tyX3, tyX3 0, by decide, rfl, hw_3, by decide, rfl, gw_t 131 (by decide +kernel) (by decide +kernel), rfl, tyX3_ok, nmX3, tyX3_ok 0 (by decide), ⟨fun q => absurd q (by decide), fun _ _ => ⟨rfl, rfl⟩⟩⟩, RX3, TX3, 2, rfl, rfl, rfl⟩
theorem flf_RX2_9 : FLf RX2 9 2 0 := ⟨⟨RX2, TX2, 4, tyX2, tyX2 0, by decide, rfl, hw_2, by decide, rfl, gw_t 146 (by decide +kernel) (by decide +kernel), rfl, tyX2_ok, nmX2, tyX2_ok 0 (by decide), ⟨fun q => absurd q (by decide), fun _ _ => ⟨rfl, rfl⟩⟩⟩, RX2, TX2, 4, rfl, rfl, rfl⟩
theorem flf_RX2_15 : FLf RX2 15 2 1 := ⟨⟨RX2, TX2, 4, tyX2, tyX2 1, by decide, rfl, hw_2, by decide, rfl, gw_t 147 (by decide +kernel) (by decide +kernel), rfl, tyX2_ok, nmX2, tyX2_ok 1 (by decide), ⟨fun q => absurd q (by decide), fun _ _ => ⟨rfl, rfl⟩⟩⟩, RX2, TX2, 4, rfl, rfl, rfl⟩
theorem flf_RX2_18 : FLf RX2 18 2 2 := ⟨⟨RX2, TX2, 4, tyX2, tyX2 2, by decide, rfl, hw_2, by decide, rfl, gw_t 148 (by decide +kernel) (by decide +kernel), rfl, tyX2_ok, nmX2, tyX2_ok 2 (by decide), ⟨fun q => absurd q (by decide), fun _ _ => ⟨rfl, rfl⟩⟩⟩, RX2, TX2, 4, rfl, rfl, rfl⟩
theorem flf_RX1_9 : FLf RX1 9 1 0 := ⟨⟨RX1, TX1, 3, tyX1, tyX1 0, by decide, rfl, hw_1, by decide, rfl, gw_t 178 (by decide +kernel) (by decide +kernel), rfl, tyX1_ok, nmX1, tyX1_ok 0 (by decide), ⟨fun q => absurd q (by decide), fun _ _ => ⟨rfl, rfl⟩⟩⟩, RX1, TX1, 3, rfl, rfl, rfl⟩
theorem flf_RX1_15 : FLf RX1 15 1 1 := ⟨⟨RX1, TX1, 3, tyX1, tyX1 1, by decide, rfl, hw_1, by decide, rfl, gw_t 181 (by decide +kernel) (by decide +kernel), rfl, tyX1_ok, nmX1, tyX1_ok 1 (by decide), ⟨fun q => absurd q (by decide), fun _ _ => ⟨rfl, rfl⟩⟩⟩, RX1, TX1, 3, rfl, rfl, rfl⟩
theorem flf_RX7_9 : FLf RX7 9 7 0 := ⟨⟨RX7, TX7, 9, tyX7, tyX7 0, by decide, rfl, hw_7, by decide, rfl, gw_t 208 (by decide +kernel) (by decide +kernel), rfl, tyX7_ok, nmX7, tyX7_ok 0 (by decide), ⟨fun q => absurd q (by decide), fun _ _ => ⟨rfl, rfl⟩⟩⟩, RX7, TX7, 9, rfl, rfl, rfl⟩
theorem flf_RX7_15 : FLf RX7 15 7 1 := ⟨⟨RX7, TX7, 9, tyX7, tyX7 1, by decide, rfl, hw_7, by decide, rfl, gw_t 209 (by decide +kernel) (by decide +kernel), rfl, tyX7_ok, nmX7, tyX7_ok 1 (by decide), ⟨fun q => absurd q (by decide), fun _ _ => ⟨rfl, rfl⟩⟩⟩, RX7, TX7, 9, rfl, rfl, rfl⟩
theorem flf_RX7_18 : FLf RX7 18 7 2 := ⟨⟨RX7, TX7, 9, tyX7, tyX7 2, by decide, rfl, hw_7, by decide, rfl, gw_t 210 (by decide +kernel) (by decide +kernel), rfl, tyX7_ok, nmX7, tyX7_ok 2 (by decide), ⟨fun q => absurd q (by decide), fun _ _ => ⟨rfl, rfl⟩⟩⟩, RX7, TX7, 9, rfl, rfl, rfl⟩
theorem flf_RX7_21 : FLf RX7 21 7 3 := ⟨⟨RX7, TX7, 9, tyX7, tyX7 3, by decide, rfl, hw_7, by decide, rfl, gw_t 211 (by decide +kernel) (by decide +kernel), rfl, tyX7_ok, nmX7, tyX7_ok 3 (by decide), ⟨fun q => absurd q (by decide), fun _ _ => ⟨rfl, rfl⟩⟩⟩, RX7, TX7, 9, rfl, rfl, rfl⟩
theorem flf_RX7_24 : FLf RX7 24 7 4 := ⟨⟨RX7, TX7, 9, tyX7, tyX7 4, by decide, rfl, hw_7, by decide, rfl, gw_t 212 (by decide +kernel) (by decide +kernel), rfl, tyX7_ok, nmX7, tyX7_ok 4 (by decide), ⟨fun q => absurd q (by decide), fun _ _ => ⟨rfl, rfl⟩⟩⟩, RX7, TX7, 9, rfl, rfl, rfl⟩
theorem flf_RX5_11 : FLf RX5 11 5 0 := ⟨⟨RX5, TX5, 3, tyX5, tyX5 0, by decide, rfl, hw_5, by decide, rfl, gw_t 113 (by decide +kernel) (by decide +kernel), rfl, tyX5_ok, nmX5, tyX5_ok 0 (by decide), ⟨fun q => absurd q (by decide), fun _ _ => ⟨rfl, rfl⟩⟩⟩, RX5, TX5, 3, rfl, rfl, rfl⟩
theorem flf_RX9_10 : FLf RX9 10 9 0 := ⟨⟨RX9, TX9, 16, tyX9, tyX9 0, by decide, rfl, hw_9, by decide, rfl, gw_t 236 (by decide +kernel) (by decide +kernel), rfl, tyX9_ok, nmX9, tyX9_ok 0 (by decide), ⟨fun q => absurd q (by decide), fun _ _ => ⟨rfl, rfl⟩⟩⟩, RX9, TX9, 16, rfl, rfl, rfl⟩
theorem flf_RX9_19 : FLf RX9 19 9 1 := ⟨⟨RX9, TX9, 16, tyX9, tyX9 1, by decide, rfl, hw_9, by decide, rfl, gw_t 237 (by decide +kernel) (by decide +kernel), rfl, tyX9_ok, nmX9, tyX9_ok 1 (by decide), ⟨fun q => absurd q (by decide), fun _ _ => ⟨rfl, rfl⟩⟩⟩, RX9, TX9, 16, rfl, rfl, rfl⟩
theorem flf_RX9_26 : FLf RX9 26 9 2 := ⟨⟨RX9, TX9, 16, tyX9, tyX9 2, by decide, rfl, hw_9, by decide, rfl, gw_t 238 (by decide +kernel) (by decide +kernel), rfl, tyX9_ok, nmX9, tyX9_ok 2 (by decide), ⟨fun q => absurd q (by decide), fun _ _ => ⟨rfl, rfl⟩⟩⟩, RX9, TX9, 16, rfl, rfl, rfl⟩
theorem flf_RX9_30 : FLf RX9 30 9 3 := ⟨⟨RX9, TX9, 16, tyX9, tyX9 3, by decide, rfl, hw_9, by decide, rfl, gw_t 239 (by decide +kernel) (by decide +kernel), rfl, tyX9_ok, nmX9, tyX9_ok 3 (by decide), ⟨fun q => absurd q (by decide), fun _ _ => ⟨rfl, rfl⟩⟩⟩, RX9, TX9, 16, rfl, rfl, rfl⟩
theorem flf_RX9_33 : FLf RX9 33 9 4 := ⟨⟨RX9, TX9, 16, tyX9, tyX9 4, by decide, rfl, hw_9, by decide, rfl, gw_t 240 (by decide +kernel) (by decide +kernel), rfl, tyX9_ok, nmX9, tyX9_ok 4 (by decide), ⟨fun q => absurd q (by decide), fun _ _ => ⟨rfl, rfl⟩⟩⟩, RX9, TX9, 16, rfl, rfl, rfl⟩
theorem flf_RX9_39 : FLf RX9 39 9 5 := ⟨⟨RX9, TX9, 16, tyX9, tyX9 5, by decide, rfl, hw_9, by decide, rfl, gw_t 241 (by decide +kernel) (by decide +kernel), rfl, tyX9_ok, nmX9, tyX9_ok 5 (by decide), ⟨fun q => absurd q (by decide), fun _ _ => ⟨rfl, rfl⟩⟩⟩, RX9, TX9, 16, rfl, rfl, rfl⟩
theorem flf_RX9_43 : FLf RX9 43 9 6 := ⟨⟨RX9, TX9, 16, tyX9, tyX9 6, by decide, rfl, hw_9, by decide, rfl, gw_t 242 (by decide +kernel) (by decide +kernel), rfl, tyX9_ok, nmX9, tyX9_ok 6 (by decide), ⟨fun q => absurd q (by decide), fun _ _ => ⟨rfl, rfl⟩⟩⟩, RX9, TX9, 16, rfl, rfl, rfl⟩
theorem flw_RX9_47 : FLw RX9 47 0 2 0 := ⟨⟨RX0, TX0, 7, tyX0, tyX0 2, by decide, rfl, hw_0, by decide, rfl, gw_t 79 (by decide +kernel) (by decide +kernel), rfl, tyX0_ok, nmX0, tyX0_ok 2 (by decide), ⟨fun q => absurd q (by decide), fun q => absurd q (by decide)⟩⟩, RX0, TX0, 7, rfl, rfl⟩
theorem flf_RX9_51 : FLf RX9 51 9 7 := ⟨⟨RX9, TX9, 16, tyX9, tyX9 7, by decide, rfl, hw_9, by decide, rfl, gw_t 243 (by decide +kernel) (by decide +kernel), rfl, tyX9_ok, nmX9, tyX9_ok 7 (by decide), ⟨fun q => absurd q (by decide), fun _ _ => ⟨rfl, rfl⟩⟩⟩, RX9, TX9, 16, rfl, rfl, rfl⟩
theorem flf_RX9_57 : FLf RX9 57 9 8 := ⟨⟨RX9, TX9, 16, tyX9, tyX9 8, by decide, rfl, hw_9, by decide, rfl, gw_t 244 (by decide +kernel) (by decide +kernel), rfl, tyX9_ok, nmX9, tyX9_ok 8 (by decide), ⟨fun q => absurd q (by decide), fun _ _ => ⟨rfl, rfl⟩⟩⟩, RX9, TX9, 16, rfl, rfl, rfl⟩
theorem flf_RX9_63 : FLf RX9 63 9 9 := ⟨⟨RX9, TX9, 16, tyX9, tyX9 9, by decide, rfl, hw_9, by decide, rfl, gw_t 245 (by decide +kernel) (by decide +kernel), rfl, tyX9_ok, nmX9, tyX9_ok 9 (by decide), ⟨fun q => absurd q (by decide), fun _ _ => ⟨rfl, rfl⟩⟩⟩, RX9, TX9, 16, rfl, rfl, rfl⟩
theorem flf_RX9_70 : FLf RX9 70 9 10 := ⟨⟨RX9, TX9, 16, tyX9, tyX9 10, by decide, rfl, hw_9, by decide, rfl, gw_t 246 (by decide +kernel) (by decide +kernel), rfl, tyX9_ok, nmX9, tyX9_ok 10 (by decide), ⟨fun q => absurd q (by decide), fun _ _ => ⟨rfl, rfl⟩⟩⟩, RX9, TX9, 16, rfl, rfl, rfl⟩
theorem flf_RX9_77 : FLf RX9 77 9 11 := ⟨⟨RX9, TX9, 16, tyX9, tyX9 11, by decide, rfl, hw_9, by decide, rfl, gw_t 247 (by decide +kernel) (by decide +kernel), rfl, tyX9_ok, nmX9, tyX9_ok 11 (by decide), ⟨fun q => absurd q (by decide), fun _ _ => ⟨rfl, rfl⟩⟩⟩, RX9, TX9, 16, rfl, rfl, rfl⟩
theorem flf_RX10_11 : FLf RX10 11 10 2 := ⟨⟨RX10, TX10, 48, tyX10, tyX10 2, by decide, rfl, hw_10, by decide, rfl, gw_t 1049 (by decide +kernel) (by decide +kernel), rfl, tyX10_ok, nmX10, tyX10_ok 2 (by decide), ⟨fun q => absurd q (by decide), fun _ _ => ⟨rfl, rfl⟩⟩⟩, RX10, TX10, 48, rfl, rfl, rfl⟩
theorem flf_RX10_31 : FLf RX10 31 10 6 := ⟨⟨RX10, TX10, 48, tyX10, tyX10 6, by decide, rfl, hw_10, by decide, rfl, gw_t 1053 (by decide +kernel) (by decide +kernel), rfl, tyX10_ok, nmX10, tyX10_ok 6 (by decide), ⟨fun q => absurd q (by decide), fun _ _ => ⟨rfl, rfl⟩⟩⟩, RX10, TX10, 48, rfl, rfl, rfl⟩
theorem flf_RX10_35 : FLf RX10 35 10 7 := ⟨⟨RX10, TX10, 48, tyX10, tyX10 7, by decide, rfl, hw_10, by decide, rfl, gw_t 1054 (by decide +kernel) (by decide +kernel), rfl, tyX10_ok, nmX10, tyX10_ok 7 (by decide), ⟨fun q => absurd q (by decide), fun _ _ => ⟨rfl, rfl⟩⟩⟩, RX10, TX10, 48, rfl, rfl, rfl⟩
theorem flf_RX10_38 : FLf RX10 38 10 8 := ⟨⟨RX10, TX10, 48, tyX10, tyX10 8, by decide, rfl, hw_10, by decide, rfl, gw_t 1055 (by decide +kernel) (by decide +kernel), rfl, tyX10_ok, nmX10, tyX10_ok 8 (by decide), ⟨fun q => absurd q (by decide), fun _ _ => ⟨rfl, rfl⟩⟩⟩, RX10, TX10, 48, rfl, rfl, rfl⟩
theorem flf_RX10_41 : FLf RX10 41 10 9 := ⟨⟨RX10, TX10, 48, tyX10, tyX10 9, by decide, rfl, hw_10, by decide, rfl, gw_t 1056 (by decide +kernel) (by decide +kernel), rfl, tyX10_ok, nmX10, tyX10_ok 9 (by decide), ⟨fun q => absurd q (by decide), fun _ _ => ⟨rfl, rfl⟩⟩⟩, RX10, TX10, 48, rfl, rfl, rfl⟩
theorem flf_RX10_44 : FLf RX10 44 10 10 := ⟨⟨RX10, TX10, 48, tyX10, tyX10 10, by decide, rfl, hw_10, by decide, rfl, gw_t 1057 (by decide +kernel) (by decide +kernel), rfl, tyX10_ok, nmX10, tyX10_ok 10 (by decide), ⟨fun q => absurd q (by decide), fun _ _ => ⟨rfl, rfl⟩⟩⟩, RX10, TX10, 48, rfl, rfl, rfl⟩
theorem flf_RX10_47 : FLf RX10 47 10 11 := ⟨⟨RX10, TX10, 48, tyX10, tyX10 11, by decide, rfl, hw_10, by decide, rfl, gw_t 1058 (by decide +kernel) (by decide +kernel), rfl, tyX10_ok, nmX10, tyX10_ok 11 (by decide), ⟨fun q => absurd q (by decide), fun _ _ => ⟨rfl, rfl⟩⟩⟩, RX10, TX10, 48, rfl, rfl, rfl⟩
theorem flf_RX10_50 : FLf RX10 50 10 16 := ⟨⟨RX10, TX10, 48, tyX10, tyX10 16, by decide, rfl, hw_10, by decide, rfl, gw_t 1063 (by decide +kernel) (by decide +kernel), rfl, tyX10_ok, nmX10, tyX10_ok 16 (by decide), ⟨fun q => absurd q (by decide), fun _ _ => ⟨rfl, rfl⟩⟩⟩, RX10, TX10, 48, rfl, rfl, rfl⟩
theorem flf_RX10_53 : FLf RX10 53 10 17 := ⟨⟨RX10, TX10, 48, tyX10, tyX10 17, by decide, rfl, hw_10, by decide, rfl, gw_t 1064 (by decide +kernel) (by decide +kernel), rfl, tyX10_ok, nmX10, tyX10_ok 17 (by decide), ⟨fun q => absurd q (by decide), fun _ _ => ⟨rfl, rfl⟩⟩⟩, RX10, TX10, 48, rfl, rfl, rfl⟩
theorem flf_RX10_56 : FLf RX10 56 10 19 := ⟨⟨RX10, TX10, 48, tyX10, tyX10 19, by decide, rfl, hw_10, by decide, rfl, gw_t 1066 (by decide +kernel) (by decide +kernel), rfl, tyX10_ok, nmX10, tyX10_ok 19 (by decide), ⟨fun q => absurd q (by decide), fun _ _ => ⟨rfl, rfl⟩⟩⟩, RX10, TX10, 48, rfl, rfl, rfl⟩
theorem flf_RX10_59 : FLf RX10 59 10 20 := ⟨⟨RX10, TX10, 48, tyX10, tyX10 20, by decide, rfl, hw_10, by decide, rfl, gw_t 1067 (by decide +kernel) (by decide +kernel), rfl, tyX10_ok, nmX10, tyX10_ok 20 (by decide), ⟨fun q => absurd q (by decide), fun _ _ => ⟨rfl, rfl⟩⟩⟩, RX10, TX10, 48, rfl, rfl, rfl⟩
theorem flf_RX10_62 : FLf RX10 62 10 23 := ⟨⟨RX10, TX10, 48, tyX10, tyX10 23, by decide, rfl, hw_10, by decide, rfl, gw_t 1070 (by decide +kernel) (by decide +kernel), rfl, tyX10_ok, nmX10, tyX10_ok 23 (by decide), ⟨fun q => absurd q (by decide), fun _ _ => ⟨rfl, rfl⟩⟩⟩, RX10, TX10, 48, rfl, rfl, rfl⟩
theorem flf_RX10_65 : FLf RX10 65 10 24 := ⟨⟨RX10, TX10, 48, tyX10, tyX10 24, by decide, rfl, hw_10, by decide, rfl, gw_t 1071 (by decide +kernel) (by decide +kernel), rfl, tyX10_ok, nmX10, tyX10_ok 24 (by decide), ⟨fun q => absurd q (by decide), fun _ _ => ⟨rfl, rfl⟩⟩⟩, RX10, TX10, 48, rfl, rfl, rfl⟩
theorem flf_RX10_68 : FLf RX10 68 10 26 := ⟨⟨RX10, TX10, 48, tyX10, tyX10 26, by decide, rfl, hw_10, by decide, rfl, gw_t 1073 (by decide +kernel) (by decide +kernel), rfl, tyX10_ok, nmX10, tyX10_ok 26 (by decide), ⟨fun q => absurd q (by decide), fun _ _ => ⟨rfl, rfl⟩⟩⟩, RX10, TX10, 48, rfl, rfl, rfl⟩
theorem flf_RX10_71 : FLf RX10 71 10 28 := ⟨⟨RX10, TX10, 48, tyX10, tyX10 28, by decide, rfl, hw_10, by decide, rfl, gw_t 1075 (by decide +kernel) (by decide +kernel), rfl, tyX10_ok, nmX10, tyX10_ok 28 (by decide), ⟨fun q => absurd q (by decide), fun _ _ => ⟨rfl, rfl⟩⟩⟩, RX10, TX10, 48, rfl, rfl, rfl⟩
theorem flf_RX10_74 : FLf RX10 74 10 29 := ⟨⟨RX10, TX10, 48, tyX10, tyX10 29, by decide, rfl, hw_10, by decide, rfl, gw_t 1076 (by decide +kernel) (by decide +kernel), rfl, tyX10_ok, nmX10, tyX10_ok 29 (by decide), ⟨fun q => absurd q (by decide), fun _ _ => ⟨rfl, rfl⟩⟩⟩, RX10, TX10, 48, rfl, rfl, rfl⟩
theorem flf_RX10_77 : FLf RX10 77 10 30 := ⟨⟨RX10, TX10, 48, tyX10, tyX10 30, by decide, rfl, hw_10, by decide, rfl, gw_t 1077 (by decide +kernel) (by decide +kernel), rfl, tyX10_ok, nmX10, tyX10_ok 30 (by decide), ⟨fun q => absurd q (by decide), fun _ _ => ⟨rfl, rfl⟩⟩⟩, RX10, TX10, 48, rfl, rfl, rfl⟩
theorem flf_RX10_80 : FLf RX10 80 10 31 := ⟨⟨RX10, TX10, 48, tyX10, tyX10 31, by decide, rfl, hw_10, by decide, rfl, gw_t 1078 (by decide +kernel) (by decide +kernel), rfl, tyX10_ok, nmX10, tyX10_ok 31 (by decide), ⟨fun q => absurd q (by decide), fun _ _ => ⟨rfl, rfl⟩⟩⟩, RX10, TX10, 48, rfl, rfl, rfl⟩
theorem flf_RX10_83 : FLf RX10 83 10 32 := ⟨⟨RX10, TX10, 48, tyX10, tyX10 32, by decide, rfl, hw_10, by decide, rfl, gw_t 1079 (by decide +kernel) (by decide +kernel), rfl, tyX10_ok, nmX10, tyX10_ok 32 (by decide), ⟨fun q => absurd q (by decide), fun _ _ => ⟨rfl, rfl⟩⟩⟩, RX10, TX10, 48, rfl, rfl, rfl⟩
theorem flf_RX10_86 : FLf RX10 86 10 34 := ⟨⟨RX10, TX10, 48, tyX10, tyX10 34, by decide, rfl, hw_10, by decide, rfl, gw_t 1081 (by decide +kernel) (by decide +kernel), rfl, tyX10_ok, nmX10, tyX10_ok 34 (by decide), ⟨fun q => absurd q (by decide), fun _ _ => ⟨rfl, rfl⟩⟩⟩, RX10, TX10, 48, rfl, rfl, rfl⟩
theorem flf_RX10_89 : FLf RX10 89 10 35 := ⟨⟨RX10, TX10, 48, tyX10, tyX10 35, by decide, rfl, hw_10, by decide, rfl, gw_t 1082 (by decide +kernel) (by decide +kernel), rfl, tyX10_ok, nmX10, tyX10_ok 35 (by decide), ⟨fun q => absurd q (by decide), fun _ _ => ⟨rfl, rfl⟩⟩⟩, RX10, TX10, 48, rfl, rfl, rfl⟩
theorem flf_RX10_92 : FLf RX10 92 10 36 := ⟨⟨RX10, TX10, 48, tyX10, tyX10 36, by decide, rfl, hw_10, by decide, rfl, gw_t 1083 (by decide +kernel) (by decide +kernel), rfl, tyX10_ok, nmX10, tyX10_ok 36 (by decide), ⟨fun q => absurd q (by decide), fun _ _ => ⟨rfl, rfl⟩⟩⟩, RX10, TX10, 48, rfl, rfl, rfl⟩
theorem flf_RX10_95 : FLf RX10 95 10 38 := ⟨⟨RX10, TX10, 48, tyX10, tyX10 38, by decide, rfl, hw_10, by decide, rfl, gw_t 1085 (by decide +kernel) (by decide +kernel), rfl, tyX10_ok, nmX10, tyX10_ok 38 (by decide), ⟨fun q => absurd q (by decide), fun _ _ => ⟨rfl, rfl⟩⟩⟩, RX10, TX10, 48, rfl, rfl, rfl⟩
theorem flf_RX10_98 : FLf RX10 98 10 40 := ⟨⟨RX10, TX10, 48, tyX10, tyX10 40, by decide, rfl, hw_10, by decide, rfl, gw_t 1087 (by decide +kernel) (by decide +kernel), rfl, tyX10_ok, nmX10, tyX10_ok 40 (by decide), ⟨fun q => absurd q (by decide), fun _ _ => ⟨rfl, rfl⟩⟩⟩, RX10, TX10, 48, rfl, rfl, rfl⟩
theorem flf_RX10_101 : FLf RX10 101 10 41 := ⟨⟨RX10, TX10, 48, tyX10, tyX10 41, by decide, rfl, hw_10, by decide, rfl, gw_t 1088 (by decide +kernel) (by decide +kernel), rfl, tyX10_ok, nmX10, tyX10_ok 41 (by decide), ⟨fun q => absurd q (by decide), fun _ _ => ⟨rfl, rfl⟩⟩⟩, RX10, TX10, 48, rfl, rfl, rfl⟩
theorem flf_RX10_104 : FLf RX10 104 10 42 := ⟨⟨RX10, TX10, 48, tyX10, tyX10 42, by decide, rfl, hw_10, by decide, rfl, gw_t 1089 (by decide +kernel) (by decide +kernel), rfl, tyX10_ok, nmX10, tyX10_ok 42 (by decide), ⟨fun q => absurd q (by decide), fun _ _ => ⟨rfl, rfl⟩⟩⟩, RX10, TX10, 48, rfl, rfl, rfl⟩
theorem flf_RX10_107 : FLf RX10 107 10 43 := ⟨⟨RX10, TX10, 48, tyX10, tyX10 43, by decide, rfl, hw_10, by decide, rfl, gw_t 1090 (by decide +kernel) (by decide +kernel), rfl, tyX10_ok, nmX10, tyX10_ok 43 (by decide), ⟨fun q => absurd q (by decide), fun _ _ => ⟨rfl, rfl⟩⟩⟩, RX10, TX10, 48, rfl, rfl, rfl⟩
theorem flf_RX10_110 : FLf RX10 110 10 45 := ⟨⟨RX10, TX10, 48, tyX10, tyX10 45, by decide, rfl, hw_10, by decide, rfl, gw_t 1092 (by decide +kernel) (by decide +kernel), rfl, tyX10_ok, nmX10, tyX10_ok 45 (by decide), ⟨fun q => absurd q (by decide), fun _ _ => ⟨rfl, rfl⟩⟩⟩, RX10, TX10, 48, rfl, rfl, rfl⟩
theorem flf_RX10_114 : FLf RX10 114 10 46 := ⟨⟨RX10, TX10, 48, tyX10, tyX10 46, by decide, rfl, hw_10, by decide, rfl, gw_t 1093 (by decide +kernel) (by decide +kernel), rfl, tyX10_ok, nmX10, tyX10_ok 46 (by decide), ⟨fun q => absurd q (by decide), fun _ _ => ⟨rfl, rfl⟩⟩⟩, RX10, TX10, 48, rfl, rfl, rfl⟩
theorem flf_RX10_117 : FLf RX10 117 10 47 := ⟨⟨RX10, TX10, 48, tyX10, tyX10 47, by decide, rfl, hw_10, by decide, rfl, gw_t 1094 (by decide +kernel) (by decide +kernel), rfl, tyX10_ok, nmX10, tyX10_ok 47 (by decide), ⟨fun q => absurd q (by decide), fun _ _ => ⟨rfl, rfl⟩⟩⟩, RX10, TX10, 48, rfl, rfl, rfl⟩
theorem my_X8_init : MyI yX8_init cX8_init 1 := ⟨⟨by decide +kernel, rfl⟩, gw_t 35 (by decide +kernel) (by decide +kernel), gw_t 2 (by decide +kernel) (by decide +kernel), gw_t 36 (by decide +kernel) (by decide +kernel), ⟨by decide +kernel, by decide +kernel⟩, by decide +kernel⟩
theorem my_X6_init : MyI yX6_init cX6_init 1 := ⟨⟨by decide +kernel, rfl⟩, gw_t 53 (by decide +kernel) (by decide +kernel), gw_t 3 (by decide +kernel) (by decide +kernel), gw_t 54 (by decide +kernel) (by decide +kernel), ⟨by decide +kernel, by decide +kernel⟩, by decide +kernel⟩
theorem my_X0_init : MyI yX0_init cX0_init 1 := ⟨⟨by decide +kernel, rfl⟩, gw_t 69 (by decide +kernel) (by decide +kernel), gw_t 4 (by decide +kernel) (by decide +kernel), gw_t 70 (by decide +kernel) (by decide +kernel), ⟨by decide +kernel, by decide +kernel⟩, by decide +kernel⟩
theorem my_X3_init : MyI yX3_init cX3_init 1 := ⟨⟨by decide +kernel, rfl⟩, gw_t 128 (by decide +kernel) (by decide +kernel), gw_t 6 (by decide +kernel) (by decide +kernel), gw_t 129 (by decide +kernel) (by decide +kernel), ⟨by decide +kernel, by decide +kernel⟩, by decide +kernel⟩
theorem my_X2_init : MyI yX2_init cX2_init 1 := ⟨⟨by decide +kernel, rfl⟩, gw_t 143 (by decide +kernel) (by decide +kernel), gw_t 7 (by decide +kernel) (by decide +kernel), gw_t 144 (by decide +kernel) (by decide +kernel), ⟨by decide +kernel, by decide +kernel⟩, by decide +kernel⟩
theorem my_X4_init : MyI yX4_init cX4_init 1 := ⟨⟨by decide +kernel, rfl⟩, gw_t 165 (by decide +kernel) (by decide +kernel), gw_t 8 (by decide +kernel) (by decide +kernel), gw_t 166 (by decide +kernel) (by decide +kernel), ⟨by decide +kernel, by decide +kernel⟩, by decide +kernel⟩
theorem my_X1_init : MyI yX1_init cX1_init 1 := ⟨⟨by decide +kernel, rfl⟩, gw_t 175 (by decide +kernel) (by decide +kernel), gw_t 9 (by decide +kernel) (by decide +kernel), gw_t 176 (by decide +kernel) (by decide +kernel), ⟨by decide +kernel, by decide +kernel⟩, by decide +kernel⟩
theorem my_X7_init : MyI yX7_init cX7_init 1 := ⟨⟨by decide +kernel, rfl⟩, gw_t 196 (by decide +kernel) (by decide +kernel), gw_t 10 (by decide +kernel) (by decide +kernel), gw_t 197 (by decide +kernel) (by decide +kernel), ⟨by decide +kernel, by decide +kernel⟩, by decide +kernel⟩
theorem my_X5_init : MyI yX5_init cX5_init 2 := ⟨⟨by decide +kernel, rfl⟩, gw_t 107 (by decide +kernel) (by decide +kernel), gw_t 5 (by decide +kernel) (by decide +kernel), gw_t 108 (by decide +kernel) (by decide +kernel), ⟨by decide +kernel, by decide +kernel⟩, by decide +kernel⟩
theorem my_X9_init : MyI yX9_init cX9_init 2 := ⟨⟨by decide +kernel, rfl⟩, gw_t 27 (by decide +kernel) (by decide +kernel), gw_t 1 (by decide +kernel) (by decide +kernel), gw_t 28 (by decide +kernel) (by decide +kernel), ⟨by decide +kernel, by decide +kernel⟩, by decide +kernel⟩
theorem my_X10_init : MyI yX10_init cX10_init 1 := ⟨⟨by decide +kernel, rfl⟩, gw_t 1044 (by decide +kernel) (by decide +kernel), gw_t 12 (by decide +kernel) (by decide +kernel), gw_t 1045 (by decide +kernel) (by decide +kernel), ⟨by decide +kernel, by decide +kernel⟩, by decide +kernel⟩
theorem dvk_0 : ∀ j, j < 7 → (sty 0)[j]?.map dv = some (defaultValue (tyX0 j)) := fun j hj => match j, hj with
  | 0, _ => rfl
  | 1, _ => rfl
  | 2, _ => rfl
  | 3, _ => rfl
  | 4, _ => rfl
  | 5, _ => rfl
  | 6, _ => rfl
  | n + 7, hj => absurd hj (by omega)
theorem dvk_8 : ∀ j, j < 2 → (sty 8)[j]?.map dv = some (defaultValue (tyX8 j)) := fun j hj => match j, hj with
  | 0, _ => rfl
  | 1, _ => rfl
  | n + 2, hj => absurd hj (by omega)
theorem dvk_6 : ∀ j, j < 2 → (sty 6)[j]?.map dv = some (defaultValue (tyX6 j)) := fun j hj => match j, hj with
  | 0, _ => rfl
  | 1, _ => rfl
  | n + 2, hj => absurd hj (by omega)
theorem dvk_5 : ∀ j, j < 3 → (sty 5)[j]?.map dv = some (defaultValue (tyX5 j)) := fun j hj => match j, hj with
  | 0, _ => rfl
  | 1, _ => rfl
  | 2, _ => rfl
  | n + 3, hj => absurd hj (by omega)
theorem dvk_3 : ∀ j, j < 2 → (sty 3)[j]?.map dv = some (defaultValue (tyX3 j)) := fun j hj => match j, hj with
  | 0, _ => rfl
  | 1, _ => rfl
  | n + 2, hj => absurd hj (by omega)
theorem dvk_2 : ∀ j, j < 4 → (sty 2)[j]?.map dv = some (defaultValue (tyX2 j)) := fun j hj => match j, hj with
  | 0, _ => rfl
  | 1, _ => rfl
  | 2, _ => rfl
  | 3, _ => rfl
  | n + 4, hj => absurd hj (by omega)
theorem dvk_4 : ∀ j, j < 1 → (sty 4)[j]?.map dv = some (defaultValue (tyX4 j)) := fun j hj => match j, hj with
  | 0, _ => rfl
  | n + 1, hj => absurd hj (by omega)
theorem dvk_1 : ∀ j, j < 3 → (sty 1)[j]?.map dv = some (defaultValue (tyX1 j)) := fun j hj => match j, hj with
  | 0, _ => rfl
  | 1, _ => rfl
  | 2, _ => rfl
  | n + 3, hj => absurd hj (by omega)
theorem dvk_7 : ∀ j, j < 9 → (sty 7)[j]?.map dv = some (defaultValue (tyX7 j)) := fun j hj => match j, hj with
  | 0, _ => rfl
  | 1, _ => rfl
  | 2, _ => rfl
  | 3, _ => rfl
  | 4, _ => rfl
  | 5, _ => rfl
  | 6, _ => rfl
  | 7, _ => rfl
  | 8, _ => rfl
  | n + 9, hj => absurd hj (by omega)
def QX8_init_1 (h : HP) (a : Nat) : HP := nw h (101, 80)
def QX8_init_2 (h : HP) (a : Nat) : HP := setR (QX8_init_1 h a) a 0 (some (h.1.length + 0))
def QX8_init_3 (h : HP) (a : Nat) : HP := setI (QX8_init_2 h a) a 1 (0)
def QX8_init_L (h : HP) (a : Nat) : HP := (QX8_init_3 h a)
set_option maxHeartbeats 4000000 in
theorem m_X8_init {l : Launch} {h : HP} {a k : Nat} (fa : h.1[a]? = some (8, k)) : MtA l yX8_init cX8_init 1 1 1 80 a h (QX8_init_L h a) := by
  refine MtA.of (f := 1) my_X8_init (Nat.le_of_ble_eq_true rfl) (fun x hl okk al ao ini hF => ?_)
  have l0 : h.1.length = h.1.length + 0 := rfl
  have a0 := fa
  refine wp_aload_n (v := a) (okk 0 0 (Nat.le_of_ble_eq_true rfl) (Nat.le_of_ble_eq_true rfl)) dX8_init_0 rfl ?_
  refine wp_objI (okk 0 0 (Nat.le_of_ble_eq_true rfl) (Nat.le_of_ble_eq_true rfl)) (Nat.le_of_ble_eq_true rfl) wk_37 wk_30 wk_31 dX8_init_1 ?_
  refine wp_aload_n (v := a) (okk 0 0 (Nat.le_of_ble_eq_true rfl) (Nat.le_of_ble_eq_true rfl)) dX8_init_4 rfl ?_
  refine wp_bipush (v := 80) (okk 0 0 (Nat.le_of_ble_eq_true rfl) (Nat.le_of_ble_eq_true rfl)) dX8_init_5 (by decide) ?_
  refine wp_newaX (kd := 101) (t0 := 0) (N := 80) (ty := .char) (okk 0 0 (Nat.le_of_ble_eq_true rfl) (Nat.le_of_ble_eq_true rfl)) (okk 1 80 (Nat.le_of_ble_eq_true rfl) (Nat.le_of_ble_eq_true rfl)) al l0 rfl rfl (fun _ => rfl) (fun _ _ q => q) (by decide) (fun cA ad => cell_I (by decide) rfl cA ad) wk_49 (by decide) (by decide) (Nat.le_of_ble_eq_true rfl) rfl rfl dX8_init_7 ?_
  refine wp_nmR (v := (h.1.length + 0)) l0.symm ?_
  refine wp_nmH (v := (QX8_init_1 h a)) rfl ?_
  have l1 : (QX8_init_1 h a).1.length = h.1.length + 1 := len_nw l0 rfl
  have a1 : (QX8_init_1 h a).1[a]? = some (8, k) := at_nw a0
  have b1 : (QX8_init_1 h a).1[(h.1.length + 0)]? = some (101, 80) := new_nw l0
  refine wp_putRF (okk 1 80 (Nat.le_of_ble_eq_true rfl) (Nat.le_of_ble_eq_true rfl)) ini flf_RX8_9 a1 dX8_init_9 ?_
  refine wp_nmH (v := (QX8_init_2 h a)) rfl ?_
  have l2 : (QX8_init_2 h a).1.length = h.1.length + 1 := l1
  have a2 : (QX8_init_2 h a).1[a]? = some (8, k) := a1
  refine wp_aload_n (v := a) (okk 1 80 (Nat.le_of_ble_eq_true rfl) (Nat.le_of_ble_eq_true rfl)) dX8_init_12 rfl ?_
  refine wp_iconst (v := 0) (okk 1 80 (Nat.le_of_ble_eq_true rfl) (Nat.le_of_ble_eq_true rfl)) dX8_init_13 (by decide) ?_
  refine wp_putI (okk 1 80 (Nat.le_of_ble_eq_true rfl) (Nat.le_of_ble_eq_true rfl)) flw_RX8_15 (nr_8_1 _) a2 dX8_init_14 ?_
  refine wp_nmH (v := (QX8_init_3 h a)) rfl ?_
  have l3 : (QX8_init_3 h a).1.length = h.1.length + 1 := l2
  have a3 : (QX8_init_3 h a).1[a]? = some (8, k) := a2
  exact wp_vretA (okk 1 80 (Nat.le_of_ble_eq_true rfl) (Nat.le_of_ble_eq_true rfl)) hF rfl dX8_init_17
def QX6_init_1 (h : HP) (a : Nat) : HP := nw h (103, 6)
def QX6_init_2 (h : HP) (a : Nat) : HP := setR (QX6_init_1 h a) a 0 (some (h.1.length + 0))
def QX6_init_3 (h : HP) (a : Nat) : HP := setI (QX6_init_2 h a) a 1 (0)
def QX6_init_L (h : HP) (a : Nat) : HP := (QX6_init_3 h a)
set_option maxHeartbeats 4000000 in
theorem m_X6_init {l : Launch} {h : HP} {a k : Nat} (fa : h.1[a]? = some (6, k)) : MtA l yX6_init cX6_init 1 1 1 6 a h (QX6_init_L h a) := by
  refine MtA.of (f := 1) my_X6_init (Nat.le_of_ble_eq_true rfl) (fun x hl okk al ao ini hF => ?_)
  have l0 : h.1.length = h.1.length + 0 := rfl
  have a0 := fa
  refine wp_aload_n (v := a) (okk 0 0 (Nat.le_of_ble_eq_true rfl) (Nat.le_of_ble_eq_true rfl)) dX6_init_0 rfl ?_
  refine wp_objI (okk 0 0 (Nat.le_of_ble_eq_true rfl) (Nat.le_of_ble_eq_true rfl)) (Nat.le_of_ble_eq_true rfl) wk_55 wk_30 wk_31 dX6_init_1 ?_
  refine wp_aload_n (v := a) (okk 0 0 (Nat.le_of_ble_eq_true rfl) (Nat.le_of_ble_eq_true rfl)) dX6_init_4 rfl ?_
  refine wp_bipush (v := 6) (okk 0 0 (Nat.le_of_ble_eq_true rfl) (Nat.le_of_ble_eq_true rfl)) dX6_init_5 (by decide) ?_
  refine wp_newaX (kd := 103) (t0 := 2) (N := 6) (ty := .long) (okk 0 0 (Nat.le_of_ble_eq_true rfl) (Nat.le_of_ble_eq_true rfl)) (okk 1 6 (Nat.le_of_ble_eq_true rfl) (Nat.le_of_ble_eq_true rfl)) al l0 rfl rfl (fun _ => rfl) (fun _ _ q => q) (by decide) (fun cA ad => cell_J cA ad) wk_65 (by decide) (by decide) (Nat.le_of_ble_eq_true rfl) rfl rfl dX6_init_7 ?_
  refine wp_nmR (v := (h.1.length + 0)) l0.symm ?_
  refine wp_nmH (v := (QX6_init_1 h a)) rfl ?_
  have l1 : (QX6_init_1 h a).1.length = h.1.length + 1 := len_nw l0 rfl
  have a1 : (QX6_init_1 h a).1[a]? = some (6, k) := at_nw a0
  have b1 : (QX6_init_1 h a).1[(h.1.length + 0)]? = some (103, 6) := new_nw l0
  refine wp_putRF (okk 1 6 (Nat.le_of_ble_eq_true rfl) (Nat.le_of_ble_eq_true rfl)) ini flf_RX6_9 a1 dX6_init_9 ?_
  refine wp_nmH (v := (QX6_init_2 h a)) rfl ?_
  have l2 : (QX6_init_2 h a).1.length = h.1.length + 1 := l1
  have a2 : (QX6_init_2 h a).1[a]? = some (6, k) := a1
  refine wp_aload_n (v := a) (okk 1 6 (Nat.le_of_ble_eq_true rfl) (Nat.le_of_ble_eq_true rfl)) dX6_init_12 rfl ?_
  refine wp_iconst (v := 0) (okk 1 6 (Nat.le_of_ble_eq_true rfl) (Nat.le_of_ble_eq_true rfl)) dX6_init_13 (by decide) ?_
  refine wp_putI (okk 1 6 (Nat.le_of_ble_eq_true rfl) (Nat.le_of_ble_eq_true rfl)) flw_RX6_15 (nr_6_1 _) a2 dX6_init_14 ?_
  refine wp_nmH (v := (QX6_init_3 h a)) rfl ?_
  have l3 : (QX6_init_3 h a).1.length = h.1.length + 1 := l2
  have a3 : (QX6_init_3 h a).1[a]? = some (6, k) := a2
  exact wp_vretA (okk 1 6 (Nat.le_of_ble_eq_true rfl) (Nat.le_of_ble_eq_true rfl)) hF rfl dX6_init_17
def QX0_init_1 (h : HP) (a : Nat) : HP := nwM h 2 6
def QX0_init_2 (h : HP) (a : Nat) : HP := setR (QX0_init_1 h a) a 0 (some (h.1.length + 0))
def QX0_init_3 (h : HP) (a : Nat) : HP := nwM (QX0_init_2 h a) 2 6
def QX0_init_4 (h : HP) (a : Nat) : HP := setR (QX0_init_3 h a) a 1 (some (h.1.length + 3))
def QX0_init_5 (h : HP) (a : Nat) : HP := setI (QX0_init_4 h a) a 2 (0)
def QX0_init_6 (h : HP) (a : Nat) : HP := setI (QX0_init_5 h a) a 3 (2)
def QX0_init_7 (h : HP) (a : Nat) : HP := setI (QX0_init_6 h a) a 4 (0)
def QX0_init_8 (h : HP) (a : Nat) : HP := setI (QX0_init_7 h a) a 5 (0)
def QX0_init_9 (h : HP) (a : Nat) : HP := setI (QX0_init_8 h a) a 6 (0)
def QX0_init_L (h : HP) (a : Nat) : HP := (QX0_init_9 h a)
set_option maxHeartbeats 4000000 in
theorem m_X0_init {l : Launch} {h : HP} {a k : Nat} (fa : h.1[a]? = some (0, k)) : MtA l yX0_init cX0_init 1 1 6 28 a h (QX0_init_L h a) := by
  refine MtA.of (f := 1) my_X0_init (Nat.le_of_ble_eq_true rfl) (fun x hl okk al ao ini hF => ?_)
  have l0 : h.1.length = h.1.length + 0 := rfl
  have a0 := fa
  refine wp_aload_n (v := a) (okk 0 0 (Nat.le_of_ble_eq_true rfl) (Nat.le_of_ble_eq_true rfl)) dX0_init_0 rfl ?_
  refine wp_objI (okk 0 0 (Nat.le_of_ble_eq_true rfl) (Nat.le_of_ble_eq_true rfl)) (Nat.le_of_ble_eq_true rfl) wk_71 wk_30 wk_31 dX0_init_1 ?_
  refine wp_aload_n (v := a) (okk 0 0 (Nat.le_of_ble_eq_true rfl) (Nat.le_of_ble_eq_true rfl)) dX0_init_4 rfl ?_
  refine wp_iconst (v := 2) (okk 0 0 (Nat.le_of_ble_eq_true rfl) (Nat.le_of_ble_eq_true rfl)) dX0_init_5 (by decide) ?_
  refine wp_bipush (v := 6) (okk 0 0 (Nat.le_of_ble_eq_true rfl) (Nat.le_of_ble_eq_true rfl)) dX0_init_6 (by decide) ?_
  refine wp_multi (N := 2) (K := 6) (okk 0 0 (Nat.le_of_ble_eq_true rfl) (Nat.le_of_ble_eq_true rfl)) (okk 3 14 (Nat.le_of_ble_eq_true rfl) (Nat.le_of_ble_eq_true rfl)) al l0 rfl wk_72 ao wk_103 (by decide) (by decide) (by decide) (by decide) (by decide) (by decide) rfl rfl dX0_init_8 ?_
  refine wp_nmR (v := (h.1.length + 0)) l0.symm ?_
  refine wp_nmH (v := (QX0_init_1 h a)) rfl ?_
  have l1 : (QX0_init_1 h a).1.length = h.1.length + 3 := len_nwM l0 rfl
  have a1 : (QX0_init_1 h a).1[a]? = some (0, k) := at_nwM a0
  refine wp_putRF (okk 3 14 (Nat.le_of_ble_eq_true rfl) (Nat.le_of_ble_eq_true rfl)) ini flf_RX0_11 a1 dX0_init_12 ?_
  refine wp_nmH (v := (QX0_init_2 h a)) rfl ?_
  have l2 : (QX0_init_2 h a).1.length = h.1.length + 3 := l1
  have a2 : (QX0_init_2 h a).1[a]? = some (0, k) := a1
  refine wp_aload_n (v := a) (okk 3 14 (Nat.le_of_ble_eq_true rfl) (Nat.le_of_ble_eq_true rfl)) dX0_init_15 rfl ?_
  refine wp_iconst (v := 2) (okk 3 14 (Nat.le_of_ble_eq_true rfl) (Nat.le_of_ble_eq_true rfl)) dX0_init_16 (by decide) ?_
  refine wp_bipush (v := 6) (okk 3 14 (Nat.le_of_ble_eq_true rfl) (Nat.le_of_ble_eq_true rfl)) dX0_init_17 (by decide) ?_
  refine wp_multi (N := 2) (K := 6) (okk 3 14 (Nat.le_of_ble_eq_true rfl) (Nat.le_of_ble_eq_true rfl)) (okk 6 28 (Nat.le_of_ble_eq_true rfl) (Nat.le_of_ble_eq_true rfl)) al l2 rfl wk_72 ao wk_103 (by decide) (by decide) (by decide) (by decide) (by decide) (by decide) rfl rfl dX0_init_19 ?_
  refine wp_nmR (v := (h.1.length + 3)) l2.symm ?_
  refine wp_nmH (v := (QX0_init_3 h a)) rfl ?_
  have l3 : (QX0_init_3 h a).1.length = h.1.length + 6 := len_nwM l2 rfl
  have a3 : (QX0_init_3 h a).1[a]? = some (0, k) := at_nwM a2
  refine wp_putRF (okk 6 28 (Nat.le_of_ble_eq_true rfl) (Nat.le_of_ble_eq_true rfl)) ini flf_RX0_16 a3 dX0_init_23 ?_
  refine wp_nmH (v := (QX0_init_4 h a)) rfl ?_
  have l4 : (QX0_init_4 h a).1.length = h.1.length + 6 := l3
  have a4 : (QX0_init_4 h a).1[a]? = some (0, k) := a3
  refine wp_aload_n (v := a) (okk 6 28 (Nat.le_of_ble_eq_true rfl) (Nat.le_of_ble_eq_true rfl)) dX0_init_26 rfl ?_
  refine wp_iconst (v := 0) (okk 6 28 (Nat.le_of_ble_eq_true rfl) (Nat.le_of_ble_eq_true rfl)) dX0_init_27 (by decide) ?_
  refine wp_putI (okk 6 28 (Nat.le_of_ble_eq_true rfl) (Nat.le_of_ble_eq_true rfl)) flw_RX0_19 (nr_0_2 _) a4 dX0_init_28 ?_
  refine wp_nmH (v := (QX0_init_5 h a)) rfl ?_
  have l5 : (QX0_init_5 h a).1.length = h.1.length + 6 := l4
  have a5 : (QX0_init_5 h a).1[a]? = some (0, k) := a4
  refine wp_aload_n (v := a) (okk 6 28 (Nat.le_of_ble_eq_true rfl) (Nat.le_of_ble_eq_true rfl)) dX0_init_31 rfl ?_
  refine wp_iconst (v := 2) (okk 6 28 (Nat.le_of_ble_eq_true rfl) (Nat.le_of_ble_eq_true rfl)) dX0_init_32 (by decide) ?_
  refine wp_putI (okk 6 28 (Nat.le_of_ble_eq_true rfl) (Nat.le_of_ble_eq_true rfl)) flw_RX0_23 (nr_0_3 _) a5 dX0_init_33 ?_
  refine wp_nmH (v := (QX0_init_6 h a)) rfl ?_
  have l6 : (QX0_init_6 h a).1.length = h.1.length + 6 := l5
  have a6 : (QX0_init_6 h a).1[a]? = some (0, k) := a5
  refine wp_aload_n (v := a) (okk 6 28 (Nat.le_of_ble_eq_true rfl) (Nat.le_of_ble_eq_true rfl)) dX0_init_36 rfl ?_
  refine wp_iconst (v := 0) (okk 6 28 (Nat.le_of_ble_eq_true rfl) (Nat.le_of_ble_eq_true rfl)) dX0_init_37 (by decide) ?_
  refine wp_putI (okk 6 28 (Nat.le_of_ble_eq_true rfl) (Nat.le_of_ble_eq_true rfl)) flw_RX0_26 (nr_0_4 _) a6 dX0_init_38 ?_
  refine wp_nmH (v := (QX0_init_7 h a)) rfl ?_
  have l7 : (QX0_init_7 h a).1.length = h.1.length + 6 := l6
  have a7 : (QX0_init_7 h a).1[a]? = some (0, k) := a6
  refine wp_aload_n (v := a) (okk 6 28 (Nat.le_of_ble_eq_true rfl) (Nat.le_of_ble_eq_true rfl)) dX0_init_41 rfl ?_
  refine wp_iconst (v := 0) (okk 6 28 (Nat.le_of_ble_eq_true rfl) (Nat.le_of_ble_eq_true rfl)) dX0_init_42 (by decide) ?_
  refine wp_putI (okk 6 28 (Nat.le_of_ble_eq_true rfl) (Nat.le_of_ble_eq_true rfl)) flw_RX0_29 (nr_0_5 _) a7 dX0_init_43 ?_
  refine wp_nmH (v := (QX0_init_8 h a)) rfl ?_
  have l8 : (QX0_init_8 h a).1.length = h.1.length + 6 := l7
  have a8 : (QX0_init_8 h a).1[a]? = some (0, k) := a7
  refine wp_aload_n (v := a) (okk 6 28 (Nat.le_of_ble_eq_true rfl) (Nat.le_of_ble_eq_true rfl)) dX0_init_46 rfl ?_
  refine wp_iconst (v := 0) (okk 6 28 (Nat.le_of_ble_eq_true rfl) (Nat.le_of_ble_eq_true rfl)) dX0_init_47 (by decide) ?_
  refine wp_putI (okk 6 28 (Nat.le_of_ble_eq_true rfl) (Nat.le_of_ble_eq_true rfl)) flw_RX0_32 (nr_0_6 (Or.inl rfl)) a8 dX0_init_48 ?_
  refine wp_nmH (v := (QX0_init_9 h a)) rfl ?_
  have l9 : (QX0_init_9 h a).1.length = h.1.length + 6 := l8
  have a9 : (QX0_init_9 h a).1[a]? = some (0, k) := a8
  exact wp_vretA (okk 6 28 (Nat.le_of_ble_eq_true rfl) (Nat.le_of_ble_eq_true rfl)) hF rfl dX0_init_51
def QX3_init_1 (h : HP) (a : Nat) : HP := nw h (102, 8)
def QX3_init_2 (h : HP) (a : Nat) : HP := setR (QX3_init_1 h a) a 0 (some (h.1.length + 0))
def QX3_init_3 (h : HP) (a : Nat) : HP := setI (QX3_init_2 h a) a 1 (0)
def QX3_init_L (h : HP) (a : Nat) : HP := (QX3_init_3 h a)
set_option maxHeartbeats 4000000 in
theorem m_X3_init {l : Launch} {h : HP} {a k : Nat} (fa : h.1[a]? = some (3, k)) : MtA l yX3_init cX3_init 1 1 1 8 a h (QX3_init_L h a) := by
  refine MtA.of (f := 1) my_X3_init (Nat.le_of_ble_eq_true rfl) (fun x hl okk al ao ini hF => ?_)
  have l0 : h.1.length = h.1.length + 0 := rfl
  have a0 := fa
  refine wp_aload_n (v := a) (okk 0 0 (Nat.le_of_ble_eq_true rfl) (Nat.le_of_ble_eq_true rfl)) dX3_init_0 rfl ?_
  refine wp_objI (okk 0 0 (Nat.le_of_ble_eq_true rfl) (Nat.le_of_ble_eq_true rfl)) (Nat.le_of_ble_eq_true rfl) wk_130 wk_30 wk_31 dX3_init_1 ?_
  refine wp_aload_n (v := a) (okk 0 0 (Nat.le_of_ble_eq_true rfl) (Nat.le_of_ble_eq_true rfl)) dX3_init_4 rfl ?_
  refine wp_bipush (v := 8) (okk 0 0 (Nat.le_of_ble_eq_true rfl) (Nat.le_of_ble_eq_true rfl)) dX3_init_5 (by decide) ?_
  refine wp_newaX (kd := 102) (t0 := 1) (N := 8) (ty := .int) (okk 0 0 (Nat.le_of_ble_eq_true rfl) (Nat.le_of_ble_eq_true rfl)) (okk 1 8 (Nat.le_of_ble_eq_true rfl) (Nat.le_of_ble_eq_true rfl)) al l0 rfl rfl (fun _ => rfl) (fun _ _ q => q) (by decide) (fun cA ad => cell_I (by decide) rfl cA ad) wk_103 (by decide) (by decide) (Nat.le_of_ble_eq_true rfl) rfl rfl dX3_init_7 ?_
  refine wp_nmR (v := (h.1.length + 0)) l0.symm ?_
  refine wp_nmH (v := (QX3_init_1 h a)) rfl ?_
  have l1 : (QX3_init_1 h a).1.length = h.1.length + 1 := len_nw l0 rfl
  have a1 : (QX3_init_1 h a).1[a]? = some (3, k) := at_nw a0
  have b1 : (QX3_init_1 h a).1[(h.1.length + 0)]? = some (102, 8) := new_nw l0
  refine wp_putRF (okk 1 8 (Nat.le_of_ble_eq_true rfl) (Nat.le_of_ble_eq_true rfl)) ini flf_RX3_9 a1 dX3_init_9 ?_
  refine wp_nmH (v := (QX3_init_2 h a)) rfl ?_
  have l2 : (QX3_init_2 h a).1.length = h.1.length + 1 := l1
  have a2 : (QX3_init_2 h a).1[a]? = some (3, k) := a1
  refine wp_aload_n (v := a) (okk 1 8 (Nat.le_of_ble_eq_true rfl) (Nat.le_of_ble_eq_true rfl)) dX3_init_12 rfl ?_
  refine wp_iconst (v := 0) (okk 1 8 (Nat.le_of_ble_eq_true rfl) (Nat.le_of_ble_eq_true rfl)) dX3_init_13 (by decide) ?_
  refine wp_putI (okk 1 8 (Nat.le_of_ble_eq_true rfl) (Nat.le_of_ble_eq_true rfl)) flw_RX3_15 (nr_3_1 _) a2 dX3_init_14 ?_
  refine wp_nmH (v := (QX3_init_3 h a)) rfl ?_
  have l3 : (QX3_init_3 h a).1.length = h.1.length + 1 := l2
  have a3 : (QX3_init_3 h a).1[a]? = some (3, k) := a2
  exact wp_vretA (okk 1 8 (Nat.le_of_ble_eq_true rfl) (Nat.le_of_ble_eq_true rfl)) hF rfl dX3_init_17
def QX2_init_1 (h : HP) (a : Nat) : HP := nw h (102, 8)
def QX2_init_2 (h : HP) (a : Nat) : HP := setR (QX2_init_1 h a) a 0 (some (h.1.length + 0))
def QX2_init_3 (h : HP) (a : Nat) : HP := nw (QX2_init_2 h a) (102, 8)
def QX2_init_4 (h : HP) (a : Nat) : HP := setR (QX2_init_3 h a) a 1 (some (h.1.length + 1))
def QX2_init_5 (h : HP) (a : Nat) : HP := nw (QX2_init_4 h a) (104, 1000)
def QX2_init_6 (h : HP) (a : Nat) : HP := setR (QX2_init_5 h a) a 2 (some (h.1.length + 2))
def QX2_init_7 (h : HP) (a : Nat) : HP := setI (QX2_init_6 h a) a 3 (0)
def QX2_init_L (h : HP) (a : Nat) : HP := (QX2_init_7 h a)
set_option maxHeartbeats 4000000 in
theorem m_X2_init {l : Launch} {h : HP} {a k : Nat} (fa : h.1[a]? = some (2, k)) : MtA l yX2_init cX2_init 1 1 3 1016 a h (QX2_init_L h a) := by
  refine MtA.of (f := 1) my_X2_init (Nat.le_of_ble_eq_true rfl) (fun x hl okk al ao ini hF => ?_)
  have l0 : h.1.length = h.1.length + 0 := rfl
  have a0 := fa
  refine wp_aload_n (v := a) (okk 0 0 (Nat.le_of_ble_eq_true rfl) (Nat.le_of_ble_eq_true rfl)) dX2_init_0 rfl ?_
  refine wp_objI (okk 0 0 (Nat.le_of_ble_eq_true rfl) (Nat.le_of_ble_eq_true rfl)) (Nat.le_of_ble_eq_true rfl) wk_145 wk_30 wk_31 dX2_init_1 ?_
  refine wp_aload_n (v := a) (okk 0 0 (Nat.le_of_ble_eq_true rfl) (Nat.le_of_ble_eq_true rfl)) dX2_init_4 rfl ?_
  refine wp_bipush (v := 8) (okk 0 0 (Nat.le_of_ble_eq_true rfl) (Nat.le_of_ble_eq_true rfl)) dX2_init_5 (by decide) ?_
  refine wp_newaX (kd := 102) (t0 := 1) (N := 8) (ty := .int) (okk 0 0 (Nat.le_of_ble_eq_true rfl) (Nat.le_of_ble_eq_true rfl)) (okk 1 8 (Nat.le_of_ble_eq_true rfl) (Nat.le_of_ble_eq_true rfl)) al l0 rfl rfl (fun _ => rfl) (fun _ _ q => q) (by decide) (fun cA ad => cell_I (by decide) rfl cA ad) wk_103 (by decide) (by decide) (Nat.le_of_ble_eq_true rfl) rfl rfl dX2_init_7 ?_
  refine wp_nmR (v := (h.1.length + 0)) l0.symm ?_
  refine wp_nmH (v := (QX2_init_1 h a)) rfl ?_
  have l1 : (QX2_init_1 h a).1.length = h.1.length + 1 := len_nw l0 rfl
  have a1 : (QX2_init_1 h a).1[a]? = some (2, k) := at_nw a0
  have b1 : (QX2_init_1 h a).1[(h.1.length + 0)]? = some (102, 8) := new_nw l0
  refine wp_putRF (okk 1 8 (Nat.le_of_ble_eq_true rfl) (Nat.le_of_ble_eq_true rfl)) ini flf_RX2_9 a1 dX2_init_9 ?_
  refine wp_nmH (v := (QX2_init_2 h a)) rfl ?_
  have l2 : (QX2_init_2 h a).1.length = h.1.length + 1 := l1
  have a2 : (QX2_init_2 h a).1[a]? = some (2, k) := a1
  refine wp_aload_n (v := a) (okk 1 8 (Nat.le_of_ble_eq_true rfl) (Nat.le_of_ble_eq_true rfl)) dX2_init_12 rfl ?_
  refine wp_bipush (v := 8) (okk 1 8 (Nat.le_of_ble_eq_true rfl) (Nat.le_of_ble_eq_true rfl)) dX2_init_13 (by decide) ?_
  refine wp_newaX (kd := 102) (t0 := 1) (N := 8) (ty := .int) (okk 1 8 (Nat.le_of_ble_eq_true rfl) (Nat.le_of_ble_eq_true rfl)) (okk 2 16 (Nat.le_of_ble_eq_true rfl) (Nat.le_of_ble_eq_true rfl)) al l2 rfl rfl (fun _ => rfl) (fun _ _ q => q) (by decide) (fun cA ad => cell_I (by decide) rfl cA ad) wk_103 (by decide) (by decide) (Nat.le_of_ble_eq_true rfl) rfl rfl dX2_init_15 ?_
  refine wp_nmR (v := (h.1.length + 1)) l2.symm ?_
  refine wp_nmH (v := (QX2_init_3 h a)) rfl ?_
  have l3 : (QX2_init_3 h a).1.length = h.1.length + 2 := len_nw l2 rfl
  have a3 : (QX2_init_3 h a).1[a]? = some (2, k) := at_nw a2
  have b3 : (QX2_init_3 h a).1[(h.1.length + 1)]? = some (102, 8) := new_nw l2
  refine wp_putRF (okk 2 16 (Nat.le_of_ble_eq_true rfl) (Nat.le_of_ble_eq_true rfl)) ini flf_RX2_15 a3 dX2_init_17 ?_
  refine wp_nmH (v := (QX2_init_4 h a)) rfl ?_
  have l4 : (QX2_init_4 h a).1.length = h.1.length + 2 := l3
  have a4 : (QX2_init_4 h a).1[a]? = some (2, k) := a3
  refine wp_aload_n (v := a) (okk 2 16 (Nat.le_of_ble_eq_true rfl) (Nat.le_of_ble_eq_true rfl)) dX2_init_20 rfl ?_
  refine wp_sipush (v := 1000) (okk 2 16 (Nat.le_of_ble_eq_true rfl) (Nat.le_of_ble_eq_true rfl)) dX2_init_21 (by decide) ?_
  refine wp_newaX (kd := 104) (t0 := 3) (N := 1000) (ty := .boolean) (okk 2 16 (Nat.le_of_ble_eq_true rfl) (Nat.le_of_ble_eq_true rfl)) (okk 3 1016 (Nat.le_of_ble_eq_true rfl) (Nat.le_of_ble_eq_true rfl)) al l4 rfl rfl (fun _ => rfl) (fun _ _ q => q) (by decide) (fun cA ad => cell_I (by decide) rfl cA ad) wk_161 (by decide) (by decide) (Nat.le_of_ble_eq_true rfl) rfl rfl dX2_init_24 ?_
  refine wp_nmR (v := (h.1.length + 2)) l4.symm ?_
  refine wp_nmH (v := (QX2_init_5 h a)) rfl ?_
  have l5 : (QX2_init_5 h a).1.length = h.1.length + 3 := len_nw l4 rfl
  have a5 : (QX2_init_5 h a).1[a]? = some (2, k) := at_nw a4
  have b5 : (QX2_init_5 h a).1[(h.1.length + 2)]? = some (104, 1000) := new_nw l4
  refine wp_putRF (okk 3 1016 (Nat.le_of_ble_eq_true rfl) (Nat.le_of_ble_eq_true rfl)) ini flf_RX2_18 a5 dX2_init_26 ?_
  refine wp_nmH (v := (QX2_init_6 h a)) rfl ?_
  have l6 : (QX2_init_6 h a).1.length = h.1.length + 3 := l5
  have a6 : (QX2_init_6 h a).1[a]? = some (2, k) := a5
  refine wp_aload_n (v := a) (okk 3 1016 (Nat.le_of_ble_eq_true rfl) (Nat.le_of_ble_eq_true rfl)) dX2_init_29 rfl ?_
  refine wp_iconst (v := 0) (okk 3 1016 (Nat.le_of_ble_eq_true rfl) (Nat.le_of_ble_eq_true rfl)) dX2_init_30 (by decide) ?_
  refine wp_putI (okk 3 1016 (Nat.le_of_ble_eq_true rfl) (Nat.le_of_ble_eq_true rfl)) flw_RX2_22 (nr_2_3 _) a6 dX2_init_31 ?_
  refine wp_nmH (v := (QX2_init_7 h a)) rfl ?_
  have l7 : (QX2_init_7 h a).1.length = h.1.length + 3 := l6
  have a7 : (QX2_init_7 h a).1[a]? = some (2, k) := a6
  exact wp_vretA (okk 3 1016 (Nat.le_of_ble_eq_true rfl) (Nat.le_of_ble_eq_true rfl)) hF rfl dX2_init_34
def QX4_init_1 (h : HP) (a : Nat) : HP := setI h a 0 (0)
def QX4_init_L (h : HP) (a : Nat) : HP := (QX4_init_1 h a)
set_option maxHeartbeats 4000000 in
theorem m_X4_init {l : Launch} {h : HP} {a k : Nat} (fa : h.1[a]? = some (4, k)) : MtA l yX4_init cX4_init 1 1 0 0 a h (QX4_init_L h a) := by
  refine MtA.of (f := 1) my_X4_init (Nat.le_of_ble_eq_true rfl) (fun x hl okk al ao ini hF => ?_)
  have l0 : h.1.length = h.1.length + 0 := rfl
  have a0 := fa
  refine wp_aload_n (v := a) (okk 0 0 (Nat.le_of_ble_eq_true rfl) (Nat.le_of_ble_eq_true rfl)) dX4_init_0 rfl ?_
  refine wp_objI (okk 0 0 (Nat.le_of_ble_eq_true rfl) (Nat.le_of_ble_eq_true rfl)) (Nat.le_of_ble_eq_true rfl) wk_167 wk_30 wk_31 dX4_init_1 ?_
  refine wp_aload_n (v := a) (okk 0 0 (Nat.le_of_ble_eq_true rfl) (Nat.le_of_ble_eq_true rfl)) dX4_init_4 rfl ?_
  refine wp_iconst (v := 0) (okk 0 0 (Nat.le_of_ble_eq_true rfl) (Nat.le_of_ble_eq_true rfl)) dX4_init_5 (by decide) ?_
  refine wp_putI (okk 0 0 (Nat.le_of_ble_eq_true rfl) (Nat.le_of_ble_eq_true rfl)) flw_RX4_7 (nr_4_0 _) a0 dX4_init_6 ?_
  refine wp_nmH (v := (QX4_init_1 h a)) rfl ?_
  have l1 : (QX4_init_1 h a).1.length = h.1.length + 0 := l0
  have a1 : (QX4_init_1 h a).1[a]? = some (4, k) := a0
  exact wp_vretA (okk 0 0 (Nat.le_of_ble_eq_true rfl) (Nat.le_of_ble_eq_true rfl)) hF rfl dX4_init_9
def QX1_init_1 (h : HP) (a : Nat) : HP := nw h (102, 8)
def QX1_init_2 (h : HP) (a : Nat) : HP := setR (QX1_init_1 h a) a 0 (some (h.1.length + 0))
def QX1_init_3 (h : HP) (a : Nat) : HP := nw (QX1_init_2 h a) (102, 8)
def QX1_init_4 (h : HP) (a : Nat) : HP := setR (QX1_init_3 h a) a 1 (some (h.1.length + 1))
def QX1_init_5 (h : HP) (a : Nat) : HP := setI (QX1_init_4 h a) (h.1.length + 0) (0 : Int32).toNatClampNeg (-1)
def QX1_init_6 (h : HP) (a : Nat) : HP := setI (QX1_init_5 h a) a 2 (1)
def QX1_init_L (h : HP) (a : Nat) : HP := (QX1_init_6 h a)
set_option maxHeartbeats 4000000 in
theorem m_X1_init {l : Launch} {h : HP} {a k : Nat} (fa : h.1[a]? = some (1, k)) : MtA l yX1_init cX1_init 1 1 2 16 a h (QX1_init_L h a) := by
  refine MtA.of (f := 1) my_X1_init (Nat.le_of_ble_eq_true rfl) (fun x hl okk al ao ini hF => ?_)
  have l0 : h.1.length = h.1.length + 0 := rfl
  have a0 := fa
  refine wp_aload_n (v := a) (okk 0 0 (Nat.le_of_ble_eq_true rfl) (Nat.le_of_ble_eq_true rfl)) dX1_init_0 rfl ?_
  refine wp_objI (okk 0 0 (Nat.le_of_ble_eq_true rfl) (Nat.le_of_ble_eq_true rfl)) (Nat.le_of_ble_eq_true rfl) wk_177 wk_30 wk_31 dX1_init_1 ?_
  refine wp_aload_n (v := a) (okk 0 0 (Nat.le_of_ble_eq_true rfl) (Nat.le_of_ble_eq_true rfl)) dX1_init_4 rfl ?_
  refine wp_bipush (v := 8) (okk 0 0 (Nat.le_of_ble_eq_true rfl) (Nat.le_of_ble_eq_true rfl)) dX1_init_5 (by decide) ?_
  refine wp_newaX (kd := 102) (t0 := 1) (N := 8) (ty := .int) (okk 0 0 (Nat.le_of_ble_eq_true rfl) (Nat.le_of_ble_eq_true rfl)) (okk 1 8 (Nat.le_of_ble_eq_true rfl) (Nat.le_of_ble_eq_true rfl)) al l0 rfl rfl (fun _ => rfl) (fun _ _ q => q) (by decide) (fun cA ad => cell_I (by decide) rfl cA ad) wk_103 (by decide) (by decide) (Nat.le_of_ble_eq_true rfl) rfl rfl dX1_init_7 ?_
  refine wp_nmR (v := (h.1.length + 0)) l0.symm ?_
  refine wp_nmH (v := (QX1_init_1 h a)) rfl ?_
  have l1 : (QX1_init_1 h a).1.length = h.1.length + 1 := len_nw l0 rfl
  have a1 : (QX1_init_1 h a).1[a]? = some (1, k) := at_nw a0
  have b1 : (QX1_init_1 h a).1[(h.1.length + 0)]? = some (102, 8) := new_nw l0
  refine wp_putRF (okk 1 8 (Nat.le_of_ble_eq_true rfl) (Nat.le_of_ble_eq_true rfl)) ini flf_RX1_9 a1 dX1_init_9 ?_
  refine wp_nmH (v := (QX1_init_2 h a)) rfl ?_
  have l2 : (QX1_init_2 h a).1.length = h.1.length + 1 := l1
  have a2 : (QX1_init_2 h a).1[a]? = some (1, k) := a1
  refine wp_aload_n (v := a) (okk 1 8 (Nat.le_of_ble_eq_true rfl) (Nat.le_of_ble_eq_true rfl)) dX1_init_12 rfl ?_
  refine wp_bipush (v := 8) (okk 1 8 (Nat.le_of_ble_eq_true rfl) (Nat.le_of_ble_eq_true rfl)) dX1_init_13 (by decide) ?_
  refine wp_newaX (kd := 102) (t0 := 1) (N := 8) (ty := .int) (okk 1 8 (Nat.le_of_ble_eq_true rfl) (Nat.le_of_ble_eq_true rfl)) (okk 2 16 (Nat.le_of_ble_eq_true rfl) (Nat.le_of_ble_eq_true rfl)) al l2 rfl rfl (fun _ => rfl) (fun _ _ q => q) (by decide) (fun cA ad => cell_I (by decide) rfl cA ad) wk_103 (by decide) (by decide) (Nat.le_of_ble_eq_true rfl) rfl rfl dX1_init_15 ?_
  refine wp_nmR (v := (h.1.length + 1)) l2.symm ?_
  refine wp_nmH (v := (QX1_init_3 h a)) rfl ?_
  have l3 : (QX1_init_3 h a).1.length = h.1.length + 2 := len_nw l2 rfl
  have a3 : (QX1_init_3 h a).1[a]? = some (1, k) := at_nw a2
  have b3 : (QX1_init_3 h a).1[(h.1.length + 1)]? = some (102, 8) := new_nw l2
  refine wp_putRF (okk 2 16 (Nat.le_of_ble_eq_true rfl) (Nat.le_of_ble_eq_true rfl)) ini flf_RX1_15 a3 dX1_init_17 ?_
  refine wp_nmH (v := (QX1_init_4 h a)) rfl ?_
  have l4 : (QX1_init_4 h a).1.length = h.1.length + 2 := l3
  have a4 : (QX1_init_4 h a).1[a]? = some (1, k) := a3
  refine wp_aload_n (v := a) (okk 2 16 (Nat.le_of_ble_eq_true rfl) (Nat.le_of_ble_eq_true rfl)) dX1_init_20 rfl ?_
  have r4 : (QX1_init_4 h a).2.2.2 a 0 = some (h.1.length + 0) := by
    have hlt : a < h.1.length := (List.getElem?_eq_some_iff.mp fa).1
    simp [QX1_init_1, QX1_init_2, QX1_init_3, QX1_init_4, setR, setI, nw, va_up, Nat.ne_of_lt hlt, Nat.ne_of_lt (Nat.lt_add_right _ hlt)]
  refine wp_getR (b := (h.1.length + 0)) (okk 2 16 (Nat.le_of_ble_eq_true rfl) (Nat.le_of_ble_eq_true rfl)) fl_RX1_9 a4 r4 dX1_init_21 ?_
  refine wp_iconst (v := 0) (okk 2 16 (Nat.le_of_ble_eq_true rfl) (Nat.le_of_ble_eq_true rfl)) dX1_init_24 (by decide) ?_
  refine wp_iconst (v := -1) (okk 2 16 (Nat.le_of_ble_eq_true rfl) (Nat.le_of_ble_eq_true rfl)) dX1_init_25 (by decide) ?_
  have bb1_4 : (QX1_init_4 h a).1[(h.1.length + 0)]? = some (102, 8) := (at_nw b1)
  refine wp_iast (okk 2 16 (Nat.le_of_ble_eq_true rfl) (Nat.le_of_ble_eq_true rfl)) bb1_4 (ix_lit (by decide +kernel)) dX1_init_26 ?_
  refine wp_nmH (v := (QX1_init_5 h a)) rfl ?_
  have l5 : (QX1_init_5 h a).1.length = h.1.length + 2 := l4
  have a5 : (QX1_init_5 h a).1[a]? = some (1, k) := a4
  refine wp_aload_n (v := a) (okk 2 16 (Nat.le_of_ble_eq_true rfl) (Nat.le_of_ble_eq_true rfl)) dX1_init_27 rfl ?_
  refine wp_iconst (v := 1) (okk 2 16 (Nat.le_of_ble_eq_true rfl) (Nat.le_of_ble_eq_true rfl)) dX1_init_28 (by decide) ?_
  refine wp_putI (okk 2 16 (Nat.le_of_ble_eq_true rfl) (Nat.le_of_ble_eq_true rfl)) flw_RX1_18 (nr_1_2 _) a5 dX1_init_29 ?_
  refine wp_nmH (v := (QX1_init_6 h a)) rfl ?_
  have l6 : (QX1_init_6 h a).1.length = h.1.length + 2 := l5
  have a6 : (QX1_init_6 h a).1[a]? = some (1, k) := a5
  exact wp_vretA (okk 2 16 (Nat.le_of_ble_eq_true rfl) (Nat.le_of_ble_eq_true rfl)) hF rfl dX1_init_32
def QX7_init_1 (h : HP) (a : Nat) : HP := nw h (102, 40)
def QX7_init_2 (h : HP) (a : Nat) : HP := setR (QX7_init_1 h a) a 0 (some (h.1.length + 0))
def QX7_init_3 (h : HP) (a : Nat) : HP := nw (QX7_init_2 h a) (102, 40)
def QX7_init_4 (h : HP) (a : Nat) : HP := setR (QX7_init_3 h a) a 1 (some (h.1.length + 1))
def QX7_init_5 (h : HP) (a : Nat) : HP := nw (QX7_init_4 h a) (102, 40)
def QX7_init_6 (h : HP) (a : Nat) : HP := setR (QX7_init_5 h a) a 2 (some (h.1.length + 2))
def QX7_init_7 (h : HP) (a : Nat) : HP := nw (QX7_init_6 h a) (102, 6)
def QX7_init_8 (h : HP) (a : Nat) : HP := setR (QX7_init_7 h a) a 3 (some (h.1.length + 3))
def QX7_init_9 (h : HP) (a : Nat) : HP := nw (QX7_init_8 h a) (104, 5)
def QX7_init_10 (h : HP) (a : Nat) : HP := setR (QX7_init_9 h a) a 4 (some (h.1.length + 4))
def QX7_init_11 (h : HP) (a : Nat) : HP := cpyT (setI (QX7_init_10 h a) a 5 7) 0 (h.1.length + 0) 0 0 7
def QX7_init_L (h : HP) (a : Nat) : HP := (QX7_init_11 h a)
set_option maxHeartbeats 4000000 in
theorem m_X7_init {l : Launch} {h : HP} {a k : Nat} (fa : h.1[a]? = some (7, k)) : MtA l yX7_init cX7_init 1 3 5 131 a h (QX7_init_L h a) := by
  refine MtA.of (f := 3) my_X7_init (Nat.le_of_ble_eq_true rfl) (fun x hl okk al ao ini hF => ?_)
  have l0 : h.1.length = h.1.length + 0 := rfl
  have a0 := fa
  refine wp_aload_n (v := a) (okk 0 0 (Nat.le_of_ble_eq_true rfl) (Nat.le_of_ble_eq_true rfl)) dX7_init_0 rfl ?_
  refine wp_objI (okk 0 0 (Nat.le_of_ble_eq_true rfl) (Nat.le_of_ble_eq_true rfl)) (Nat.le_of_ble_eq_true rfl) wk_198 wk_30 wk_31 dX7_init_1 ?_
  refine wp_aload_n (v := a) (okk 0 0 (Nat.le_of_ble_eq_true rfl) (Nat.le_of_ble_eq_true rfl)) dX7_init_4 rfl ?_
  refine wp_bipush (v := 40) (okk 0 0 (Nat.le_of_ble_eq_true rfl) (Nat.le_of_ble_eq_true rfl)) dX7_init_5 (by decide) ?_
  refine wp_newaX (kd := 102) (t0 := 1) (N := 40) (ty := .int) (okk 0 0 (Nat.le_of_ble_eq_true rfl) (Nat.le_of_ble_eq_true rfl)) (okk 1 40 (Nat.le_of_ble_eq_true rfl) (Nat.le_of_ble_eq_true rfl)) al l0 rfl rfl (fun _ => rfl) (fun _ _ q => q) (by decide) (fun cA ad => cell_I (by decide) rfl cA ad) wk_103 (by decide) (by decide) (Nat.le_of_ble_eq_true rfl) rfl rfl dX7_init_7 ?_
  refine wp_nmR (v := (h.1.length + 0)) l0.symm ?_
  refine wp_nmH (v := (QX7_init_1 h a)) rfl ?_
  have l1 : (QX7_init_1 h a).1.length = h.1.length + 1 := len_nw l0 rfl
  have a1 : (QX7_init_1 h a).1[a]? = some (7, k) := at_nw a0
  have b1 : (QX7_init_1 h a).1[(h.1.length + 0)]? = some (102, 40) := new_nw l0
  refine wp_putRF (okk 1 40 (Nat.le_of_ble_eq_true rfl) (Nat.le_of_ble_eq_true rfl)) ini flf_RX7_9 a1 dX7_init_9 ?_
  refine wp_nmH (v := (QX7_init_2 h a)) rfl ?_
  have l2 : (QX7_init_2 h a).1.length = h.1.length + 1 := l1
  have a2 : (QX7_init_2 h a).1[a]? = some (7, k) := a1
  refine wp_aload_n (v := a) (okk 1 40 (Nat.le_of_ble_eq_true rfl) (Nat.le_of_ble_eq_true rfl)) dX7_init_12 rfl ?_
  refine wp_bipush (v := 40) (okk 1 40 (Nat.le_of_ble_eq_true rfl) (Nat.le_of_ble_eq_true rfl)) dX7_init_13 (by decide) ?_
  refine wp_newaX (kd := 102) (t0 := 1) (N := 40) (ty := .int) (okk 1 40 (Nat.le_of_ble_eq_true rfl) (Nat.le_of_ble_eq_true rfl)) (okk 2 80 (Nat.le_of_ble_eq_true rfl) (Nat.le_of_ble_eq_true rfl)) al l2 rfl rfl (fun _ => rfl) (fun _ _ q => q) (by decide) (fun cA ad => cell_I (by decide) rfl cA ad) wk_103 (by decide) (by decide) (Nat.le_of_ble_eq_true rfl) rfl rfl dX7_init_15 ?_
  refine wp_nmR (v := (h.1.length + 1)) l2.symm ?_
  refine wp_nmH (v := (QX7_init_3 h a)) rfl ?_
  have l3 : (QX7_init_3 h a).1.length = h.1.length + 2 := len_nw l2 rfl
  have a3 : (QX7_init_3 h a).1[a]? = some (7, k) := at_nw a2
  have b3 : (QX7_init_3 h a).1[(h.1.length + 1)]? = some (102, 40) := new_nw l2
  refine wp_putRF (okk 2 80 (Nat.le_of_ble_eq_true rfl) (Nat.le_of_ble_eq_true rfl)) ini flf_RX7_15 a3 dX7_init_17 ?_
  refine wp_nmH (v := (QX7_init_4 h a)) rfl ?_
  have l4 : (QX7_init_4 h a).1.length = h.1.length + 2 := l3
  have a4 : (QX7_init_4 h a).1[a]? = some (7, k) := a3
  refine wp_aload_n (v := a) (okk 2 80 (Nat.le_of_ble_eq_true rfl) (Nat.le_of_ble_eq_true rfl)) dX7_init_20 rfl ?_
  refine wp_bipush (v := 40) (okk 2 80 (Nat.le_of_ble_eq_true rfl) (Nat.le_of_ble_eq_true rfl)) dX7_init_21 (by decide) ?_
  refine wp_newaX (kd := 102) (t0 := 1) (N := 40) (ty := .int) (okk 2 80 (Nat.le_of_ble_eq_true rfl) (Nat.le_of_ble_eq_true rfl)) (okk 3 120 (Nat.le_of_ble_eq_true rfl) (Nat.le_of_ble_eq_true rfl)) al l4 rfl rfl (fun _ => rfl) (fun _ _ q => q) (by decide) (fun cA ad => cell_I (by decide) rfl cA ad) wk_103 (by decide) (by decide) (Nat.le_of_ble_eq_true rfl) rfl rfl dX7_init_23 ?_
  refine wp_nmR (v := (h.1.length + 2)) l4.symm ?_
  refine wp_nmH (v := (QX7_init_5 h a)) rfl ?_
  have l5 : (QX7_init_5 h a).1.length = h.1.length + 3 := len_nw l4 rfl
  have a5 : (QX7_init_5 h a).1[a]? = some (7, k) := at_nw a4
  have b5 : (QX7_init_5 h a).1[(h.1.length + 2)]? = some (102, 40) := new_nw l4
  refine wp_putRF (okk 3 120 (Nat.le_of_ble_eq_true rfl) (Nat.le_of_ble_eq_true rfl)) ini flf_RX7_18 a5 dX7_init_25 ?_
  refine wp_nmH (v := (QX7_init_6 h a)) rfl ?_
  have l6 : (QX7_init_6 h a).1.length = h.1.length + 3 := l5
  have a6 : (QX7_init_6 h a).1[a]? = some (7, k) := a5
  refine wp_aload_n (v := a) (okk 3 120 (Nat.le_of_ble_eq_true rfl) (Nat.le_of_ble_eq_true rfl)) dX7_init_28 rfl ?_
  refine wp_bipush (v := 6) (okk 3 120 (Nat.le_of_ble_eq_true rfl) (Nat.le_of_ble_eq_true rfl)) dX7_init_29 (by decide) ?_
  refine wp_newaX (kd := 102) (t0 := 1) (N := 6) (ty := .int) (okk 3 120 (Nat.le_of_ble_eq_true rfl) (Nat.le_of_ble_eq_true rfl)) (okk 4 126 (Nat.le_of_ble_eq_true rfl) (Nat.le_of_ble_eq_true rfl)) al l6 rfl rfl (fun _ => rfl) (fun _ _ q => q) (by decide) (fun cA ad => cell_I (by decide) rfl cA ad) wk_103 (by decide) (by decide) (Nat.le_of_ble_eq_true rfl) rfl rfl dX7_init_31 ?_
  refine wp_nmR (v := (h.1.length + 3)) l6.symm ?_
  refine wp_nmH (v := (QX7_init_7 h a)) rfl ?_
  have l7 : (QX7_init_7 h a).1.length = h.1.length + 4 := len_nw l6 rfl
  have a7 : (QX7_init_7 h a).1[a]? = some (7, k) := at_nw a6
  have b7 : (QX7_init_7 h a).1[(h.1.length + 3)]? = some (102, 6) := new_nw l6
  refine wp_putRF (okk 4 126 (Nat.le_of_ble_eq_true rfl) (Nat.le_of_ble_eq_true rfl)) ini flf_RX7_21 a7 dX7_init_33 ?_
  refine wp_nmH (v := (QX7_init_8 h a)) rfl ?_
  have l8 : (QX7_init_8 h a).1.length = h.1.length + 4 := l7
  have a8 : (QX7_init_8 h a).1[a]? = some (7, k) := a7
  refine wp_aload_n (v := a) (okk 4 126 (Nat.le_of_ble_eq_true rfl) (Nat.le_of_ble_eq_true rfl)) dX7_init_36 rfl ?_
  refine wp_iconst (v := 5) (okk 4 126 (Nat.le_of_ble_eq_true rfl) (Nat.le_of_ble_eq_true rfl)) dX7_init_37 (by decide) ?_
  refine wp_newaX (kd := 104) (t0 := 3) (N := 5) (ty := .boolean) (okk 4 126 (Nat.le_of_ble_eq_true rfl) (Nat.le_of_ble_eq_true rfl)) (okk 5 131 (Nat.le_of_ble_eq_true rfl) (Nat.le_of_ble_eq_true rfl)) al l8 rfl rfl (fun _ => rfl) (fun _ _ q => q) (by decide) (fun cA ad => cell_I (by decide) rfl cA ad) wk_161 (by decide) (by decide) (Nat.le_of_ble_eq_true rfl) rfl rfl dX7_init_38 ?_
  refine wp_nmR (v := (h.1.length + 4)) l8.symm ?_
  refine wp_nmH (v := (QX7_init_9 h a)) rfl ?_
  have l9 : (QX7_init_9 h a).1.length = h.1.length + 5 := len_nw l8 rfl
  have a9 : (QX7_init_9 h a).1[a]? = some (7, k) := at_nw a8
  have b9 : (QX7_init_9 h a).1[(h.1.length + 4)]? = some (104, 5) := new_nw l8
  refine wp_putRF (okk 5 131 (Nat.le_of_ble_eq_true rfl) (Nat.le_of_ble_eq_true rfl)) ini flf_RX7_24 a9 dX7_init_40 ?_
  refine wp_nmH (v := (QX7_init_10 h a)) rfl ?_
  have l10 : (QX7_init_10 h a).1.length = h.1.length + 5 := l9
  have a10 : (QX7_init_10 h a).1[a]? = some (7, k) := a9
  refine wp_aload_n (v := a) (okk 5 131 (Nat.le_of_ble_eq_true rfl) (Nat.le_of_ble_eq_true rfl)) dX7_init_43 rfl ?_
  have r10 : (QX7_init_10 h a).2.2.2 a 0 = some (h.1.length + 0) := by
    have hlt : a < h.1.length := (List.getElem?_eq_some_iff.mp fa).1
    simp [QX7_init_1, QX7_init_2, QX7_init_3, QX7_init_4, QX7_init_5, QX7_init_6, QX7_init_7, QX7_init_8, QX7_init_9, QX7_init_10, setR, setI, nw, va_up, Nat.ne_of_lt hlt, Nat.ne_of_lt (Nat.lt_add_right _ hlt)]
  have bb1_10 : (QX7_init_10 h a).1[(h.1.length + 0)]? = some (102, 40) := (at_nw (at_nw (at_nw (at_nw b1))))
  have hb : f_X7_beFirstRule (QX7_init_10 h a) a = some (QX7_init_11 h a) := bfr a10 r10 bb1_10
  refine wp_callVV (As := []) (rest := []) (h1 := (QX7_init_11 h a)) (okk 5 131 (Nat.le_of_ble_eq_true rfl) (Nat.le_of_ble_eq_true rfl)) (m_X7_beFirstRule hb (Nat.le_refl 1)) my_X7_beFirstRule (wk_199) pd_X7_beFirstRule (Nat.le_of_ble_eq_true rfl) rfl (ci := 7) rfl (by decide) a10 rfl rfl rfl dX7_init_44 (fun ee => ?_)
  exact wp_vretA (okk 5 131 (Nat.le_of_ble_eq_true rfl) (Nat.le_of_ble_eq_true rfl)) hF rfl dX7_init_47
