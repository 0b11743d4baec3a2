/-! ===== the cases of the law ===== -/
set_option maxHeartbeats 4000000 in
theorem law_sign {x : Cx} {c n Ln : Nat} {h : HP} {i : Int32} {xs : Nat → Int32} {Inv Jnv : HP → Prop} (ok : Okx (cs x c n) code RL 8 2048) (ok2 : Okx (cs x (c + 1) (n + 6)) code RL 8 2048) (scx : ScX x Ln xs) (thx : ThX x) (hfl : (cxl x).stackTraces = false) (hv1 : vp_in (i + 1) Ln) (hv2 : vp_in (i + 2) Ln) (hv3 : vp_in (i + 3) Ln) (hv4 : vp_in (i + 4) Ln) (sh : ∀ h, Inv h → h.1 = S0) (op : Op_sign Inv Jnv) (hI : Inv h) (kk : ∀ h', Jnv h' → wp (cs x c n) 1795 [(4, .int i), (3, .ref 219), (2, .ref 188), (1, .ref 0), (0, .ref (SB + 400))] [] h') (kk2 : ∀ h', Jnv h' → wp (cs x (c + 1) (n + 6)) 1795 [(4, .int i), (3, .ref 219), (2, .ref 188), (1, .ref 0), (0, .ref (SB + 400))] [] h') : wp (cs x c n) 240 [(4, .int i), (3, .ref 219), (2, .ref 188), (1, .ref 0), (0, .ref (SB + 400))] [] h := by
  obtain ⟨v, h1, h2, q1, q2, q3⟩ := op h (xs (i + 1).toNatClampNeg) hI
  have hsh := sh h hI
  refine wp_aload_n (v := 0) ok dL_law_240 rfl ?_
  refine wp_aload_n (v := (SB + 400)) ok dL_law_241 rfl ?_
  refine wp_iload (v := i) ok dL_law_242 rfl ?_
  refine wp_iconst (v := 1) ok dL_law_244 (by decide) ?_
  refine wp_iadd ok dL_law_245 ?_
  refine wp_sld ok scx hv1 dL_law_246 ?_
  refine wp_callVI (ci := 9) (As := [.int (xs (i + 1).toNatClampNeg)]) (rest := []) (h1 := h1) ok (m_X9_sign q1 (Nat.le_refl _)) my_X9_sign lk285 pd_X9_sign (Nat.le_of_ble_eq_true rfl) rfl rfl (by decide) (sh_of hsh S0_0) rfl rfl rfl dL_law_247 (fun e1 => ?_)
  have g1 := e1.trans hsh
  refine wp_aload_n (v := 188) ok dL_law_250 rfl ?_
  refine wp_aload_n (v := (SB + 400)) ok dL_law_251 rfl ?_
  refine wp_iload (v := i) ok dL_law_252 rfl ?_
  refine wp_iconst (v := 1) ok dL_law_254 (by decide) ?_
  refine wp_iadd ok dL_law_255 ?_
  refine wp_sld ok scx hv1 dL_law_256 ?_
  refine wp_callVI (ci := 10) (As := [.int (xs (i + 1).toNatClampNeg)]) (rest := [.int v]) (h1 := h2) ok (m_X10_sign q2 (Nat.le_refl _)) my_X10_sign lk1192 pd_X10_sign (Nat.le_of_ble_eq_true rfl) rfl rfl (by decide) (sh_of g1 S0_188) rfl rfl rfl dL_law_257 (fun e2 => ?_)
  have g2 := e2.trans g1
  refine wp_icmp_eq (tgt := 1795) ok dL_law_260 (by decide) (fun _ => ?_) (fun q => absurd rfl q)
  exact kk _ q3
set_option maxHeartbeats 4000000 in
theorem law_end {x : Cx} {c n Ln : Nat} {h : HP} {i : Int32} {xs : Nat → Int32} {Inv Jnv : HP → Prop} (ok : Okx (cs x c n) code RL 8 2048) (ok2 : Okx (cs x (c + 1) (n + 6)) code RL 8 2048) (scx : ScX x Ln xs) (thx : ThX x) (hfl : (cxl x).stackTraces = false) (hv1 : vp_in (i + 1) Ln) (hv2 : vp_in (i + 2) Ln) (hv3 : vp_in (i + 3) Ln) (hv4 : vp_in (i + 4) Ln) (sh : ∀ h, Inv h → h.1 = S0) (op : Op_end Inv Jnv) (hI : Inv h) (kk : ∀ h', Jnv h' → wp (cs x c n) 1795 [(4, .int i), (3, .ref 219), (2, .ref 188), (1, .ref 0), (0, .ref (SB + 400))] [] h') (kk2 : ∀ h', Jnv h' → wp (cs x (c + 1) (n + 6)) 1795 [(4, .int i), (3, .ref 219), (2, .ref 188), (1, .ref 0), (0, .ref (SB + 400))] [] h') : wp (cs x c n) 265 [(4, .int i), (3, .ref 219), (2, .ref 188), (1, .ref 0), (0, .ref (SB + 400))] [] h := by
  obtain ⟨v, h1, h2, q1, q2, q3⟩ := op h (xs (i + 1).toNatClampNeg) hI
  have hsh := sh h hI
  refine wp_aload_n (v := 0) ok dL_law_265 rfl ?_
  refine wp_aload_n (v := (SB + 400)) ok dL_law_266 rfl ?_
  refine wp_iload (v := i) ok dL_law_267 rfl ?_
  refine wp_iconst (v := 1) ok dL_law_269 (by decide) ?_
  refine wp_iadd ok dL_law_270 ?_
  refine wp_sld ok scx hv1 dL_law_271 ?_
  refine wp_callVI (ci := 9) (As := [.int (xs (i + 1).toNatClampNeg)]) (rest := []) (h1 := h1) ok (m_X9_end q1 (Nat.le_refl _)) my_X9_end lk293 pd_X9_end (Nat.le_of_ble_eq_true rfl) rfl rfl (by decide) (sh_of hsh S0_0) rfl rfl rfl dL_law_272 (fun e1 => ?_)
  have g1 := e1.trans hsh
  refine wp_aload_n (v := 188) ok dL_law_275 rfl ?_
  refine wp_aload_n (v := (SB + 400)) ok dL_law_276 rfl ?_
  refine wp_iload (v := i) ok dL_law_277 rfl ?_
  refine wp_iconst (v := 1) ok dL_law_279 (by decide) ?_
  refine wp_iadd ok dL_law_280 ?_
  refine wp_sld ok scx hv1 dL_law_281 ?_
  refine wp_callVI (ci := 10) (As := [.int (xs (i + 1).toNatClampNeg)]) (rest := [.int v]) (h1 := h2) ok (m_X10_end q2 (Nat.le_refl _)) my_X10_end lk1196 pd_X10_end (Nat.le_of_ble_eq_true rfl) rfl rfl (by decide) (sh_of g1 S0_188) rfl rfl rfl dL_law_282 (fun e2 => ?_)
  have g2 := e2.trans g1
  refine wp_icmp_eq (tgt := 1795) ok dL_law_285 (by decide) (fun _ => ?_) (fun q => absurd rfl q)
  exact kk _ q3
set_option maxHeartbeats 4000000 in
theorem law_markets {x : Cx} {c n Ln : Nat} {h : HP} {i : Int32} {xs : Nat → Int32} {Inv Jnv : HP → Prop} (ok : Okx (cs x c n) code RL 8 2048) (ok2 : Okx (cs x (c + 1) (n + 6)) code RL 8 2048) (scx : ScX x Ln xs) (thx : ThX x) (hfl : (cxl x).stackTraces = false) (hv1 : vp_in (i + 1) Ln) (hv2 : vp_in (i + 2) Ln) (hv3 : vp_in (i + 3) Ln) (hv4 : vp_in (i + 4) Ln) (sh : ∀ h, Inv h → h.1 = S0) (op : Op_markets Inv Jnv) (hI : Inv h) (kk : ∀ h', Jnv h' → wp (cs x c n) 1795 [(4, .int i), (3, .ref 219), (2, .ref 188), (1, .ref 0), (0, .ref (SB + 400))] [] h') (kk2 : ∀ h', Jnv h' → wp (cs x (c + 1) (n + 6)) 1795 [(4, .int i), (3, .ref 219), (2, .ref 188), (1, .ref 0), (0, .ref (SB + 400))] [] h') : wp (cs x c n) 290 [(4, .int i), (3, .ref 219), (2, .ref 188), (1, .ref 0), (0, .ref (SB + 400))] [] h := by
  obtain ⟨v, h1, h2, q1, q2, q3⟩ := op h hI
  have hsh := sh h hI
  refine wp_aload_n (v := 0) ok dL_law_290 rfl ?_
  refine wp_callVI (ci := 9) (As := []) (rest := []) (h1 := h1) ok (m_X9_markets q1 (Nat.le_refl _)) my_X9_markets lk301 pd_X9_markets (Nat.le_of_ble_eq_true rfl) rfl rfl (by decide) (sh_of hsh S0_0) rfl rfl rfl dL_law_291 (fun e1 => ?_)
  have g1 := e1.trans hsh
  refine wp_aload_n (v := 188) ok dL_law_294 rfl ?_
  refine wp_callVI (ci := 10) (As := []) (rest := [.int v]) (h1 := h2) ok (m_X10_markets q2 (Nat.le_refl _)) my_X10_markets lk1203 pd_X10_markets (Nat.le_of_ble_eq_true rfl) rfl rfl (by decide) (sh_of g1 S0_188) rfl rfl rfl dL_law_295 (fun e2 => ?_)
  have g2 := e2.trans g1
  refine wp_icmp_eq (tgt := 1795) ok dL_law_298 (by decide) (fun _ => ?_) (fun q => absurd rfl q)
  exact kk _ q3
set_option maxHeartbeats 4000000 in
theorem law_ships {x : Cx} {c n Ln : Nat} {h : HP} {i : Int32} {xs : Nat → Int32} {Inv Jnv : HP → Prop} (ok : Okx (cs x c n) code RL 8 2048) (ok2 : Okx (cs x (c + 1) (n + 6)) code RL 8 2048) (scx : ScX x Ln xs) (thx : ThX x) (hfl : (cxl x).stackTraces = false) (hv1 : vp_in (i + 1) Ln) (hv2 : vp_in (i + 2) Ln) (hv3 : vp_in (i + 3) Ln) (hv4 : vp_in (i + 4) Ln) (sh : ∀ h, Inv h → h.1 = S0) (op : Op_ships Inv Jnv) (hI : Inv h) (kk : ∀ h', Jnv h' → wp (cs x c n) 1795 [(4, .int i), (3, .ref 219), (2, .ref 188), (1, .ref 0), (0, .ref (SB + 400))] [] h') (kk2 : ∀ h', Jnv h' → wp (cs x (c + 1) (n + 6)) 1795 [(4, .int i), (3, .ref 219), (2, .ref 188), (1, .ref 0), (0, .ref (SB + 400))] [] h') : wp (cs x c n) 303 [(4, .int i), (3, .ref 219), (2, .ref 188), (1, .ref 0), (0, .ref (SB + 400))] [] h := by
  obtain ⟨v, h1, h2, q1, q2, q3⟩ := op h hI
  have hsh := sh h hI
  refine wp_aload_n (v := 0) ok dL_law_303 rfl ?_
  refine wp_callVI (ci := 9) (As := []) (rest := []) (h1 := h1) ok (m_X9_ships q1 (Nat.le_refl _)) my_X9_ships lk344 pd_X9_ships (Nat.le_of_ble_eq_true rfl) rfl rfl (by decide) (sh_of hsh S0_0) rfl rfl rfl dL_law_304 (fun e1 => ?_)
  have g1 := e1.trans hsh
  refine wp_aload_n (v := 188) ok dL_law_307 rfl ?_
  refine wp_callVI (ci := 10) (As := []) (rest := [.int v]) (h1 := h2) ok (m_X10_ships q2 (Nat.le_refl _)) my_X10_ships lk1241 pd_X10_ships (Nat.le_of_ble_eq_true rfl) rfl rfl (by decide) (sh_of g1 S0_188) rfl rfl rfl dL_law_308 (fun e2 => ?_)
  have g2 := e2.trans g1
  refine wp_icmp_eq (tgt := 1795) ok dL_law_311 (by decide) (fun _ => ?_) (fun q => absurd rfl q)
  exact kk _ q3
set_option maxHeartbeats 4000000 in
theorem law_rule {x : Cx} {c n Ln : Nat} {h : HP} {i : Int32} {xs : Nat → Int32} {Inv Jnv : HP → Prop} (ok : Okx (cs x c n) code RL 8 2048) (ok2 : Okx (cs x (c + 1) (n + 6)) code RL 8 2048) (scx : ScX x Ln xs) (thx : ThX x) (hfl : (cxl x).stackTraces = false) (hv1 : vp_in (i + 1) Ln) (hv2 : vp_in (i + 2) Ln) (hv3 : vp_in (i + 3) Ln) (hv4 : vp_in (i + 4) Ln) (sh : ∀ h, Inv h → h.1 = S0) (op : Op_rule Inv Jnv) (hI : Inv h) (kk : ∀ h', Jnv h' → wp (cs x c n) 1795 [(4, .int i), (3, .ref 219), (2, .ref 188), (1, .ref 0), (0, .ref (SB + 400))] [] h') (kk2 : ∀ h', Jnv h' → wp (cs x (c + 1) (n + 6)) 1795 [(4, .int i), (3, .ref 219), (2, .ref 188), (1, .ref 0), (0, .ref (SB + 400))] [] h') : wp (cs x c n) 316 [(4, .int i), (3, .ref 219), (2, .ref 188), (1, .ref 0), (0, .ref (SB + 400))] [] h := by
  obtain ⟨v, h1, h2, q1, q2, q3⟩ := op h hI
  have hsh := sh h hI
  refine wp_aload_n (v := 0) ok dL_law_316 rfl ?_
  refine wp_callVI (ci := 9) (As := []) (rest := []) (h1 := h1) ok (m_X9_rule q1 (Nat.le_refl _)) my_X9_rule lk356 pd_X9_rule (Nat.le_of_ble_eq_true rfl) rfl rfl (by decide) (sh_of hsh S0_0) rfl rfl rfl dL_law_317 (fun e1 => ?_)
  have g1 := e1.trans hsh
  refine wp_aload_n (v := 188) ok dL_law_320 rfl ?_
  refine wp_callVI (ci := 10) (As := []) (rest := [.int v]) (h1 := h2) ok (m_X10_rule q2 (Nat.le_refl _)) my_X10_rule lk1256 pd_X10_rule (Nat.le_of_ble_eq_true rfl) rfl rfl (by decide) (sh_of g1 S0_188) rfl rfl rfl dL_law_321 (fun e2 => ?_)
  have g2 := e2.trans g1
  refine wp_icmp_eq (tgt := 1795) ok dL_law_324 (by decide) (fun _ => ?_) (fun q => absurd rfl q)
  exact kk _ q3
set_option maxHeartbeats 4000000 in
theorem law_market {x : Cx} {c n Ln : Nat} {h : HP} {i : Int32} {xs : Nat → Int32} {Inv Jnv : HP → Prop} (ok : Okx (cs x c n) code RL 8 2048) (ok2 : Okx (cs x (c + 1) (n + 6)) code RL 8 2048) (scx : ScX x Ln xs) (thx : ThX x) (hfl : (cxl x).stackTraces = false) (hv1 : vp_in (i + 1) Ln) (hv2 : vp_in (i + 2) Ln) (hv3 : vp_in (i + 3) Ln) (hv4 : vp_in (i + 4) Ln) (sh : ∀ h, Inv h → h.1 = S0) (op : Op_market Inv Jnv) (hI : Inv h) (kk : ∀ h', Jnv h' → wp (cs x c n) 1795 [(4, .int i), (3, .ref 219), (2, .ref 188), (1, .ref 0), (0, .ref (SB + 400))] [] h') (kk2 : ∀ h', Jnv h' → wp (cs x (c + 1) (n + 6)) 1795 [(4, .int i), (3, .ref 219), (2, .ref 188), (1, .ref 0), (0, .ref (SB + 400))] [] h') : wp (cs x c n) 329 [(4, .int i), (3, .ref 219), (2, .ref 188), (1, .ref 0), (0, .ref (SB + 400))] [] h := by
  obtain ⟨rp, b, h2, t, q1, q2, qt, q4, q5, q3⟩ := op h (xs (i + 1).toNatClampNeg) (xs (i + 2).toNatClampNeg) hI
  have hsh := sh h hI
  have S0x := sh_of hsh S0_0
  have S0o := sh_of hsh S0_219
  refine wp_aload_n (v := 0) ok dL_law_329 rfl ?_
  refine wp_aload_n (v := (SB + 400)) ok dL_law_330 rfl ?_
  refine wp_iload (v := i) ok dL_law_331 rfl ?_
  refine wp_iconst (v := 1) ok dL_law_333 (by decide) ?_
  refine wp_iadd ok dL_law_334 ?_
  refine wp_sld ok scx hv1 dL_law_335 ?_
  refine wp_aload_n (v := (SB + 400)) ok dL_law_336 rfl ?_
  refine wp_iload (v := i) ok dL_law_337 rfl ?_
  refine wp_iconst (v := 2) ok dL_law_339 (by decide) ?_
  refine wp_iadd ok dL_law_340 ?_
  refine wp_sld ok scx hv2 dL_law_341 ?_
  refine wp_aload_n (v := 219) ok dL_law_342 rfl ?_
  refine wp_callSH (As := [.ref 0, .int (xs (i + 1).toNatClampNeg), .int (xs (i + 2).toNatClampNeg), .ref 219]) ok ok2 thx (m_L_market (f := 6) S0x S0o (m_X9_market hfl q1 (Nat.le_of_ble_eq_true rfl))) my_L_market lk954 pd_L_market (Nat.le_of_ble_eq_true rfl) rfl rfl rfl dL_law_343 (fun e1 => ?_)
  have g1 := e1.trans hsh
  refine wp_istore (L' := [(5, .int (rE h 219 rp).1), (4, .int i), (3, .ref 219), (2, .ref 188), (1, .ref 0), (0, .ref (SB + 400))]) ok2 dL_law_346 rfl rfl ?_
  refine wp_aload_n (v := 188) ok2 dL_law_348 rfl ?_
  refine wp_aload_n (v := (SB + 400)) ok2 dL_law_349 rfl ?_
  refine wp_iload (v := i) ok2 dL_law_350 rfl ?_
  refine wp_iconst (v := 1) ok2 dL_law_352 (by decide) ?_
  refine wp_iadd ok2 dL_law_353 ?_
  refine wp_sld ok2 scx hv1 dL_law_354 ?_
  refine wp_aload_n (v := (SB + 400)) ok2 dL_law_355 rfl ?_
  refine wp_iload (v := i) ok2 dL_law_356 rfl ?_
  refine wp_iconst (v := 2) ok2 dL_law_358 (by decide) ?_
  refine wp_iadd ok2 dL_law_359 ?_
  refine wp_sld ok2 scx hv2 dL_law_360 ?_
  refine wp_callVI (ci := 10) (As := [.int (xs (i + 1).toNatClampNeg), .int (xs (i + 2).toNatClampNeg)]) (rest := []) (h1 := h2) ok2 (m_X10_market q2 (Nat.le_refl _)) my_X10_market lk1284 pd_X10_market (Nat.le_of_ble_eq_true rfl) rfl rfl (by decide) (sh_of g1 S0_188) rfl rfl rfl dL_law_361 (fun e2 => ?_)
  have g2 := e2.trans g1
  refine wp_istore (L' := [(6, .int b), (5, .int (rE h 219 rp).1), (4, .int i), (3, .ref 219), (2, .ref 188), (1, .ref 0), (0, .ref (SB + 400))]) ok2 dL_law_364 rfl rfl ?_
  refine wp_aload_n (v := 188) ok2 dL_law_366 rfl ?_
  refine wp_callVI (ci := 10) (As := []) (rest := []) (h1 := h2) ok2 (m_X10_thrown qt (Nat.le_refl _)) my_X10_thrown lk1037 pd_X10_thrown (Nat.le_of_ble_eq_true rfl) rfl rfl (by decide) (sh_of g2 S0_188) rfl rfl rfl dL_law_367 (fun e3 => ?_)
  have g3 := e3.trans g2
  refine wp_iload (v := (rE h 219 rp).1) ok2 dL_law_370 rfl ?_
  refine wp_icmp_eq (tgt := 377) ok2 dL_law_372 (by decide) (fun _ => ?_) (fun q => absurd q4 q)
  refine wp_iload (v := (rE h 219 rp).1) ok2 dL_law_377 rfl ?_
  refine wp_if_ne (tgt := 394) ok2 dL_law_379 (by decide) (fun _ => ?_) (fun qz => ?_)
  · refine wp_goto (tgt := 1795) ok2 dL_law_394 (by decide) ?_
    refine wp_sub (L' := [(4, .int i), (3, .ref 219), (2, .ref 188), (1, .ref 0), (0, .ref (SB + 400))]) [2, 3, 4, 5, 6] rfl ?_
    exact kk2 _ q3
  refine wp_aload_n (v := 219) ok2 dL_law_382 rfl ?_
  refine wp_iconst (v := 0) ok2 dL_law_383 (by decide) ?_
  refine wp_lald ok2 (sh_of g3 S0_219) (ix_lit (by decide)) dL_law_384 ?_
  refine wp_iload (v := b) ok2 dL_law_385 rfl ?_
  refine wp_i2l ok2 dL_law_387 ?_
  refine wp_lcmp ok2 dL_law_388 ?_
  refine wp_if_eq (tgt := 394) ok2 dL_law_389 (by decide) (fun _ => ?_) (fun q => absurd (lcmp_eq (q5 qz)) q)
  refine wp_goto (tgt := 1795) ok2 dL_law_394 (by decide) ?_
  refine wp_sub (L' := [(4, .int i), (3, .ref 219), (2, .ref 188), (1, .ref 0), (0, .ref (SB + 400))]) [2, 3, 4, 5, 6] rfl ?_
  exact kk2 _ q3
set_option maxHeartbeats 4000000 in
theorem law_load {x : Cx} {c n Ln : Nat} {h : HP} {i : Int32} {xs : Nat → Int32} {Inv Jnv : HP → Prop} (ok : Okx (cs x c n) code RL 8 2048) (ok2 : Okx (cs x (c + 1) (n + 6)) code RL 8 2048) (scx : ScX x Ln xs) (thx : ThX x) (hfl : (cxl x).stackTraces = false) (hv1 : vp_in (i + 1) Ln) (hv2 : vp_in (i + 2) Ln) (hv3 : vp_in (i + 3) Ln) (hv4 : vp_in (i + 4) Ln) (sh : ∀ h, Inv h → h.1 = S0) (op : Op_load Inv Jnv) (hI : Inv h) (kk : ∀ h', Jnv h' → wp (cs x c n) 1795 [(4, .int i), (3, .ref 219), (2, .ref 188), (1, .ref 0), (0, .ref (SB + 400))] [] h') (kk2 : ∀ h', Jnv h' → wp (cs x (c + 1) (n + 6)) 1795 [(4, .int i), (3, .ref 219), (2, .ref 188), (1, .ref 0), (0, .ref (SB + 400))] [] h') : wp (cs x c n) 397 [(4, .int i), (3, .ref 219), (2, .ref 188), (1, .ref 0), (0, .ref (SB + 400))] [] h := by
  obtain ⟨rp, b, h2, t, q1, q2, qt, q4, q5, q3⟩ := op h (xs (i + 1).toNatClampNeg) (xs (i + 2).toNatClampNeg) hI
  have hsh := sh h hI
  have S0x := sh_of hsh S0_0
  have S0o := sh_of hsh S0_219
  refine wp_aload_n (v := 0) ok dL_law_397 rfl ?_
  refine wp_aload_n (v := (SB + 400)) ok dL_law_398 rfl ?_
  refine wp_iload (v := i) ok dL_law_399 rfl ?_
  refine wp_iconst (v := 1) ok dL_law_401 (by decide) ?_
  refine wp_iadd ok dL_law_402 ?_
  refine wp_sld ok scx hv1 dL_law_403 ?_
  refine wp_aload_n (v := (SB + 400)) ok dL_law_404 rfl ?_
  refine wp_iload (v := i) ok dL_law_405 rfl ?_
  refine wp_iconst (v := 2) ok dL_law_407 (by decide) ?_
  refine wp_iadd ok dL_law_408 ?_
  refine wp_sld ok scx hv2 dL_law_409 ?_
  refine wp_aload_n (v := 219) ok dL_law_410 rfl ?_
  refine wp_callSH (As := [.ref 0, .int (xs (i + 1).toNatClampNeg), .int (xs (i + 2).toNatClampNeg), .ref 219]) ok ok2 thx (m_L_load (f := 6) S0x S0o (m_X9_load hfl q1 (Nat.le_of_ble_eq_true rfl))) my_L_load lk1023 pd_L_load (Nat.le_of_ble_eq_true rfl) rfl rfl rfl dL_law_411 (fun e1 => ?_)
  have g1 := e1.trans hsh
  refine wp_istore (L' := [(5, .int (rE h 219 rp).1), (4, .int i), (3, .ref 219), (2, .ref 188), (1, .ref 0), (0, .ref (SB + 400))]) ok2 dL_law_414 rfl rfl ?_
  refine wp_aload_n (v := 188) ok2 dL_law_416 rfl ?_
  refine wp_aload_n (v := (SB + 400)) ok2 dL_law_417 rfl ?_
  refine wp_iload (v := i) ok2 dL_law_418 rfl ?_
  refine wp_iconst (v := 1) ok2 dL_law_420 (by decide) ?_
  refine wp_iadd ok2 dL_law_421 ?_
  refine wp_sld ok2 scx hv1 dL_law_422 ?_
  refine wp_aload_n (v := (SB + 400)) ok2 dL_law_423 rfl ?_
  refine wp_iload (v := i) ok2 dL_law_424 rfl ?_
  refine wp_iconst (v := 2) ok2 dL_law_426 (by decide) ?_
  refine wp_iadd ok2 dL_law_427 ?_
  refine wp_sld ok2 scx hv2 dL_law_428 ?_
  refine wp_callVI (ci := 10) (As := [.int (xs (i + 1).toNatClampNeg), .int (xs (i + 2).toNatClampNeg)]) (rest := []) (h1 := h2) ok2 (m_X10_load q2 (Nat.le_refl _)) my_X10_load lk1317 pd_X10_load (Nat.le_of_ble_eq_true rfl) rfl rfl (by decide) (sh_of g1 S0_188) rfl rfl rfl dL_law_429 (fun e2 => ?_)
  have g2 := e2.trans g1
  refine wp_istore (L' := [(6, .int b), (5, .int (rE h 219 rp).1), (4, .int i), (3, .ref 219), (2, .ref 188), (1, .ref 0), (0, .ref (SB + 400))]) ok2 dL_law_432 rfl rfl ?_
  refine wp_aload_n (v := 188) ok2 dL_law_434 rfl ?_
  refine wp_callVI (ci := 10) (As := []) (rest := []) (h1 := h2) ok2 (m_X10_thrown qt (Nat.le_refl _)) my_X10_thrown lk1037 pd_X10_thrown (Nat.le_of_ble_eq_true rfl) rfl rfl (by decide) (sh_of g2 S0_188) rfl rfl rfl dL_law_435 (fun e3 => ?_)
  have g3 := e3.trans g2
  refine wp_iload (v := (rE h 219 rp).1) ok2 dL_law_438 rfl ?_
  refine wp_icmp_eq (tgt := 445) ok2 dL_law_440 (by decide) (fun _ => ?_) (fun q => absurd q4 q)
  refine wp_iload (v := (rE h 219 rp).1) ok2 dL_law_445 rfl ?_
  refine wp_if_ne (tgt := 462) ok2 dL_law_447 (by decide) (fun _ => ?_) (fun qz => ?_)
  · refine wp_goto (tgt := 1795) ok2 dL_law_462 (by decide) ?_
    refine wp_sub (L' := [(4, .int i), (3, .ref 219), (2, .ref 188), (1, .ref 0), (0, .ref (SB + 400))]) [2, 3, 4, 5, 6] rfl ?_
    exact kk2 _ q3
  refine wp_aload_n (v := 219) ok2 dL_law_450 rfl ?_
  refine wp_iconst (v := 0) ok2 dL_law_451 (by decide) ?_
  refine wp_lald ok2 (sh_of g3 S0_219) (ix_lit (by decide)) dL_law_452 ?_
  refine wp_iload (v := b) ok2 dL_law_453 rfl ?_
  refine wp_i2l ok2 dL_law_455 ?_
  refine wp_lcmp ok2 dL_law_456 ?_
  refine wp_if_eq (tgt := 462) ok2 dL_law_457 (by decide) (fun _ => ?_) (fun q => absurd (lcmp_eq (q5 qz)) q)
  refine wp_goto (tgt := 1795) ok2 dL_law_462 (by decide) ?_
  refine wp_sub (L' := [(4, .int i), (3, .ref 219), (2, .ref 188), (1, .ref 0), (0, .ref (SB + 400))]) [2, 3, 4, 5, 6] rfl ?_
  exact kk2 _ q3
set_option maxHeartbeats 4000000 in
theorem law_sheet {x : Cx} {c n Ln : Nat} {h : HP} {i : Int32} {xs : Nat → Int32} {Inv Jnv : HP → Prop} (ok : Okx (cs x c n) code RL 8 2048) (ok2 : Okx (cs x (c + 1) (n + 6)) code RL 8 2048) (scx : ScX x Ln xs) (thx : ThX x) (hfl : (cxl x).stackTraces = false) (hv1 : vp_in (i + 1) Ln) (hv2 : vp_in (i + 2) Ln) (hv3 : vp_in (i + 3) Ln) (hv4 : vp_in (i + 4) Ln) (sh : ∀ h, Inv h → h.1 = S0) (op : Op_sheet Inv Jnv) (hI : Inv h) (kk : ∀ h', Jnv h' → wp (cs x c n) 1795 [(4, .int i), (3, .ref 219), (2, .ref 188), (1, .ref 0), (0, .ref (SB + 400))] [] h') (kk2 : ∀ h', Jnv h' → wp (cs x (c + 1) (n + 6)) 1795 [(4, .int i), (3, .ref 219), (2, .ref 188), (1, .ref 0), (0, .ref (SB + 400))] [] h') : wp (cs x c n) 465 [(4, .int i), (3, .ref 219), (2, .ref 188), (1, .ref 0), (0, .ref (SB + 400))] [] h := by
  obtain ⟨v, h1, h2, q1, q2, q3⟩ := op h (xs (i + 1).toNatClampNeg) (xs (i + 2).toNatClampNeg) (xs (i + 3).toNatClampNeg) (xs (i + 4).toNatClampNeg) hI
  have hsh := sh h hI
  refine wp_aload_n (v := 0) ok dL_law_465 rfl ?_
  refine wp_aload_n (v := (SB + 400)) ok dL_law_466 rfl ?_
  refine wp_iload (v := i) ok dL_law_467 rfl ?_
  refine wp_iconst (v := 1) ok dL_law_469 (by decide) ?_
  refine wp_iadd ok dL_law_470 ?_
  refine wp_sld ok scx hv1 dL_law_471 ?_
  refine wp_aload_n (v := (SB + 400)) ok dL_law_472 rfl ?_
  refine wp_iload (v := i) ok dL_law_473 rfl ?_
  refine wp_iconst (v := 2) ok dL_law_475 (by decide) ?_
  refine wp_iadd ok dL_law_476 ?_
  refine wp_sld ok scx hv2 dL_law_477 ?_
  refine wp_aload_n (v := (SB + 400)) ok dL_law_478 rfl ?_
  refine wp_iload (v := i) ok dL_law_479 rfl ?_
  refine wp_iconst (v := 3) ok dL_law_481 (by decide) ?_
  refine wp_iadd ok dL_law_482 ?_
  refine wp_sld ok scx hv3 dL_law_483 ?_
  refine wp_aload_n (v := (SB + 400)) ok dL_law_484 rfl ?_
  refine wp_iload (v := i) ok dL_law_485 rfl ?_
  refine wp_iconst (v := 4) ok dL_law_487 (by decide) ?_
  refine wp_iadd ok dL_law_488 ?_
  refine wp_sld ok scx hv4 dL_law_489 ?_
  refine wp_callVI (ci := 9) (As := [.int (xs (i + 1).toNatClampNeg), .int (xs (i + 2).toNatClampNeg), .int (xs (i + 3).toNatClampNeg), .int (xs (i + 4).toNatClampNeg)]) (rest := []) (h1 := h1) ok (m_X9_sheet q1 (Nat.le_refl _)) my_X9_sheet lk487 pd_X9_sheet (Nat.le_of_ble_eq_true rfl) rfl rfl (by decide) (sh_of hsh S0_0) rfl rfl rfl dL_law_490 (fun e1 => ?_)
  have g1 := e1.trans hsh
  refine wp_aload_n (v := 188) ok dL_law_493 rfl ?_
  refine wp_aload_n (v := (SB + 400)) ok dL_law_494 rfl ?_
  refine wp_iload (v := i) ok dL_law_495 rfl ?_
  refine wp_iconst (v := 1) ok dL_law_497 (by decide) ?_
  refine wp_iadd ok dL_law_498 ?_
  refine wp_sld ok scx hv1 dL_law_499 ?_
  refine wp_aload_n (v := (SB + 400)) ok dL_law_500 rfl ?_
  refine wp_iload (v := i) ok dL_law_501 rfl ?_
  refine wp_iconst (v := 2) ok dL_law_503 (by decide) ?_
  refine wp_iadd ok dL_law_504 ?_
  refine wp_sld ok scx hv2 dL_law_505 ?_
  refine wp_aload_n (v := (SB + 400)) ok dL_law_506 rfl ?_
  refine wp_iload (v := i) ok dL_law_507 rfl ?_
  refine wp_iconst (v := 3) ok dL_law_509 (by decide) ?_
  refine wp_iadd ok dL_law_510 ?_
  refine wp_sld ok scx hv3 dL_law_511 ?_
  refine wp_aload_n (v := (SB + 400)) ok dL_law_512 rfl ?_
  refine wp_iload (v := i) ok dL_law_513 rfl ?_
  refine wp_iconst (v := 4) ok dL_law_515 (by decide) ?_
  refine wp_iadd ok dL_law_516 ?_
  refine wp_sld ok scx hv4 dL_law_517 ?_
  refine wp_callVI (ci := 10) (As := [.int (xs (i + 1).toNatClampNeg), .int (xs (i + 2).toNatClampNeg), .int (xs (i + 3).toNatClampNeg), .int (xs (i + 4).toNatClampNeg)]) (rest := [.int v]) (h1 := h2) ok (m_X10_sheet q2 (Nat.le_refl _)) my_X10_sheet lk1321 pd_X10_sheet (Nat.le_of_ble_eq_true rfl) rfl rfl (by decide) (sh_of g1 S0_188) rfl rfl rfl dL_law_518 (fun e2 => ?_)
  have g2 := e2.trans g1
  refine wp_icmp_eq (tgt := 1795) ok dL_law_521 (by decide) (fun _ => ?_) (fun q => absurd rfl q)
  exact kk _ q3
set_option maxHeartbeats 4000000 in
theorem law_months {x : Cx} {c n Ln : Nat} {h : HP} {i : Int32} {xs : Nat → Int32} {Inv Jnv : HP → Prop} (ok : Okx (cs x c n) code RL 8 2048) (ok2 : Okx (cs x (c + 1) (n + 6)) code RL 8 2048) (scx : ScX x Ln xs) (thx : ThX x) (hfl : (cxl x).stackTraces = false) (hv1 : vp_in (i + 1) Ln) (hv2 : vp_in (i + 2) Ln) (hv3 : vp_in (i + 3) Ln) (hv4 : vp_in (i + 4) Ln) (sh : ∀ h, Inv h → h.1 = S0) (op : Op_months Inv Jnv) (hI : Inv h) (kk : ∀ h', Jnv h' → wp (cs x c n) 1795 [(4, .int i), (3, .ref 219), (2, .ref 188), (1, .ref 0), (0, .ref (SB + 400))] [] h') (kk2 : ∀ h', Jnv h' → wp (cs x (c + 1) (n + 6)) 1795 [(4, .int i), (3, .ref 219), (2, .ref 188), (1, .ref 0), (0, .ref (SB + 400))] [] h') : wp (cs x c n) 526 [(4, .int i), (3, .ref 219), (2, .ref 188), (1, .ref 0), (0, .ref (SB + 400))] [] h := by
  obtain ⟨v, h1, h2, q1, q2, q3⟩ := op h (xs (i + 1).toNatClampNeg) hI
  have hsh := sh h hI
  refine wp_aload_n (v := 0) ok dL_law_526 rfl ?_
  refine wp_aload_n (v := (SB + 400)) ok dL_law_527 rfl ?_
  refine wp_iload (v := i) ok dL_law_528 rfl ?_
  refine wp_iconst (v := 1) ok dL_law_530 (by decide) ?_
  refine wp_iadd ok dL_law_531 ?_
  refine wp_sld ok scx hv1 dL_law_532 ?_
  refine wp_callVI (ci := 9) (As := [.int (xs (i + 1).toNatClampNeg)]) (rest := []) (h1 := h1) ok (m_X9_months q1 (Nat.le_refl _)) my_X9_months lk506 pd_X9_months (Nat.le_of_ble_eq_true rfl) rfl rfl (by decide) (sh_of hsh S0_0) rfl rfl rfl dL_law_533 (fun e1 => ?_)
  have g1 := e1.trans hsh
  refine wp_aload_n (v := 188) ok dL_law_536 rfl ?_
  refine wp_aload_n (v := (SB + 400)) ok dL_law_537 rfl ?_
  refine wp_iload (v := i) ok dL_law_538 rfl ?_
  refine wp_iconst (v := 1) ok dL_law_540 (by decide) ?_
  refine wp_iadd ok dL_law_541 ?_
  refine wp_sld ok scx hv1 dL_law_542 ?_
  refine wp_callVI (ci := 10) (As := [.int (xs (i + 1).toNatClampNeg)]) (rest := [.int v]) (h1 := h2) ok (m_X10_months q2 (Nat.le_refl _)) my_X10_months lk1330 pd_X10_months (Nat.le_of_ble_eq_true rfl) rfl rfl (by decide) (sh_of g1 S0_188) rfl rfl rfl dL_law_543 (fun e2 => ?_)
  have g2 := e2.trans g1
  refine wp_icmp_eq (tgt := 1795) ok dL_law_546 (by decide) (fun _ => ?_) (fun q => absurd rfl q)
  exact kk _ q3
set_option maxHeartbeats 4000000 in
theorem law_brings {x : Cx} {c n Ln : Nat} {h : HP} {i : Int32} {xs : Nat → Int32} {Inv Jnv : HP → Prop} (ok : Okx (cs x c n) code RL 8 2048) (ok2 : Okx (cs x (c + 1) (n + 6)) code RL 8 2048) (scx : ScX x Ln xs) (thx : ThX x) (hfl : (cxl x).stackTraces = false) (hv1 : vp_in (i + 1) Ln) (hv2 : vp_in (i + 2) Ln) (hv3 : vp_in (i + 3) Ln) (hv4 : vp_in (i + 4) Ln) (sh : ∀ h, Inv h → h.1 = S0) (op : Op_brings Inv Jnv) (hI : Inv h) (kk : ∀ h', Jnv h' → wp (cs x c n) 1795 [(4, .int i), (3, .ref 219), (2, .ref 188), (1, .ref 0), (0, .ref (SB + 400))] [] h') (kk2 : ∀ h', Jnv h' → wp (cs x (c + 1) (n + 6)) 1795 [(4, .int i), (3, .ref 219), (2, .ref 188), (1, .ref 0), (0, .ref (SB + 400))] [] h') : wp (cs x c n) 551 [(4, .int i), (3, .ref 219), (2, .ref 188), (1, .ref 0), (0, .ref (SB + 400))] [] h := by
  obtain ⟨v, h1, h2, q1, q2, q3⟩ := op h (xs (i + 1).toNatClampNeg) (xs (i + 2).toNatClampNeg) (xs (i + 3).toNatClampNeg) hI
  have hsh := sh h hI
  refine wp_aload_n (v := 0) ok dL_law_551 rfl ?_
  refine wp_aload_n (v := (SB + 400)) ok dL_law_552 rfl ?_
  refine wp_iload (v := i) ok dL_law_553 rfl ?_
  refine wp_iconst (v := 1) ok dL_law_555 (by decide) ?_
  refine wp_iadd ok dL_law_556 ?_
  refine wp_sld ok scx hv1 dL_law_557 ?_
  refine wp_aload_n (v := (SB + 400)) ok dL_law_558 rfl ?_
  refine wp_iload (v := i) ok dL_law_559 rfl ?_
  refine wp_iconst (v := 2) ok dL_law_561 (by decide) ?_
  refine wp_iadd ok dL_law_562 ?_
  refine wp_sld ok scx hv2 dL_law_563 ?_
  refine wp_aload_n (v := (SB + 400)) ok dL_law_564 rfl ?_
  refine wp_iload (v := i) ok dL_law_565 rfl ?_
  refine wp_iconst (v := 3) ok dL_law_567 (by decide) ?_
  refine wp_iadd ok dL_law_568 ?_
  refine wp_sld ok scx hv3 dL_law_569 ?_
  refine wp_callVI (ci := 9) (As := [.int (xs (i + 1).toNatClampNeg), .int (xs (i + 2).toNatClampNeg), .int (xs (i + 3).toNatClampNeg)]) (rest := []) (h1 := h1) ok (m_X9_brings q1 (Nat.le_refl _)) my_X9_brings lk579 pd_X9_brings (Nat.le_of_ble_eq_true rfl) rfl rfl (by decide) (sh_of hsh S0_0) rfl rfl rfl dL_law_570 (fun e1 => ?_)
  have g1 := e1.trans hsh
  refine wp_aload_n (v := 188) ok dL_law_573 rfl ?_
  refine wp_aload_n (v := (SB + 400)) ok dL_law_574 rfl ?_
  refine wp_iload (v := i) ok dL_law_575 rfl ?_
  refine wp_iconst (v := 1) ok dL_law_577 (by decide) ?_
  refine wp_iadd ok dL_law_578 ?_
  refine wp_sld ok scx hv1 dL_law_579 ?_
  refine wp_aload_n (v := (SB + 400)) ok dL_law_580 rfl ?_
  refine wp_iload (v := i) ok dL_law_581 rfl ?_
  refine wp_iconst (v := 2) ok dL_law_583 (by decide) ?_
  refine wp_iadd ok dL_law_584 ?_
  refine wp_sld ok scx hv2 dL_law_585 ?_
  refine wp_aload_n (v := (SB + 400)) ok dL_law_586 rfl ?_
  refine wp_iload (v := i) ok dL_law_587 rfl ?_
  refine wp_iconst (v := 3) ok dL_law_589 (by decide) ?_
  refine wp_iadd ok dL_law_590 ?_
  refine wp_sld ok scx hv3 dL_law_591 ?_
  refine wp_callVI (ci := 10) (As := [.int (xs (i + 1).toNatClampNeg), .int (xs (i + 2).toNatClampNeg), .int (xs (i + 3).toNatClampNeg)]) (rest := [.int v]) (h1 := h2) ok (m_X10_brings q2 (Nat.le_refl _)) my_X10_brings lk1355 pd_X10_brings (Nat.le_of_ble_eq_true rfl) rfl rfl (by decide) (sh_of g1 S0_188) rfl rfl rfl dL_law_592 (fun e2 => ?_)
  have g2 := e2.trans g1
  refine wp_icmp_eq (tgt := 1795) ok dL_law_595 (by decide) (fun _ => ?_) (fun q => absurd rfl q)
  exact kk _ q3
set_option maxHeartbeats 4000000 in
theorem law_lays {x : Cx} {c n Ln : Nat} {h : HP} {i : Int32} {xs : Nat → Int32} {Inv Jnv : HP → Prop} (ok : Okx (cs x c n) code RL 8 2048) (ok2 : Okx (cs x (c + 1) (n + 6)) code RL 8 2048) (scx : ScX x Ln xs) (thx : ThX x) (hfl : (cxl x).stackTraces = false) (hv1 : vp_in (i + 1) Ln) (hv2 : vp_in (i + 2) Ln) (hv3 : vp_in (i + 3) Ln) (hv4 : vp_in (i + 4) Ln) (sh : ∀ h, Inv h → h.1 = S0) (op : Op_lays Inv Jnv) (hI : Inv h) (kk : ∀ h', Jnv h' → wp (cs x c n) 1795 [(4, .int i), (3, .ref 219), (2, .ref 188), (1, .ref 0), (0, .ref (SB + 400))] [] h') (kk2 : ∀ h', Jnv h' → wp (cs x (c + 1) (n + 6)) 1795 [(4, .int i), (3, .ref 219), (2, .ref 188), (1, .ref 0), (0, .ref (SB + 400))] [] h') : wp (cs x c n) 600 [(4, .int i), (3, .ref 219), (2, .ref 188), (1, .ref 0), (0, .ref (SB + 400))] [] h := by
  obtain ⟨v, h1, h2, q1, q2, q3⟩ := op h (xs (i + 1).toNatClampNeg) (xs (i + 2).toNatClampNeg) (xs (i + 3).toNatClampNeg) hI
  have hsh := sh h hI
  refine wp_aload_n (v := 0) ok dL_law_600 rfl ?_
  refine wp_aload_n (v := (SB + 400)) ok dL_law_601 rfl ?_
  refine wp_iload (v := i) ok dL_law_602 rfl ?_
  refine wp_iconst (v := 1) ok dL_law_604 (by decide) ?_
  refine wp_iadd ok dL_law_605 ?_
  refine wp_sld ok scx hv1 dL_law_606 ?_
  refine wp_aload_n (v := (SB + 400)) ok dL_law_607 rfl ?_
  refine wp_iload (v := i) ok dL_law_608 rfl ?_
  refine wp_iconst (v := 2) ok dL_law_610 (by decide) ?_
  refine wp_iadd ok dL_law_611 ?_
  refine wp_sld ok scx hv2 dL_law_612 ?_
  refine wp_aload_n (v := (SB + 400)) ok dL_law_613 rfl ?_
  refine wp_iload (v := i) ok dL_law_614 rfl ?_
  refine wp_iconst (v := 3) ok dL_law_616 (by decide) ?_
  refine wp_iadd ok dL_law_617 ?_
  refine wp_sld ok scx hv3 dL_law_618 ?_
  refine wp_callVI (ci := 9) (As := [.int (xs (i + 1).toNatClampNeg), .int (xs (i + 2).toNatClampNeg), .int (xs (i + 3).toNatClampNeg)]) (rest := []) (h1 := h1) ok (m_X9_lays q1 (Nat.le_refl _)) my_X9_lays lk596 pd_X9_lays (Nat.le_of_ble_eq_true rfl) rfl rfl (by decide) (sh_of hsh S0_0) rfl rfl rfl dL_law_619 (fun e1 => ?_)
  have g1 := e1.trans hsh
  refine wp_aload_n (v := 188) ok dL_law_622 rfl ?_
  refine wp_aload_n (v := (SB + 400)) ok dL_law_623 rfl ?_
  refine wp_iload (v := i) ok dL_law_624 rfl ?_
  refine wp_iconst (v := 1) ok dL_law_626 (by decide) ?_
  refine wp_iadd ok dL_law_627 ?_
  refine wp_sld ok scx hv1 dL_law_628 ?_
  refine wp_aload_n (v := (SB + 400)) ok dL_law_629 rfl ?_
  refine wp_iload (v := i) ok dL_law_630 rfl ?_
  refine wp_iconst (v := 2) ok dL_law_632 (by decide) ?_
  refine wp_iadd ok dL_law_633 ?_
  refine wp_sld ok scx hv2 dL_law_634 ?_
  refine wp_aload_n (v := (SB + 400)) ok dL_law_635 rfl ?_
  refine wp_iload (v := i) ok dL_law_636 rfl ?_
  refine wp_iconst (v := 3) ok dL_law_638 (by decide) ?_
  refine wp_iadd ok dL_law_639 ?_
  refine wp_sld ok scx hv3 dL_law_640 ?_
  refine wp_callVI (ci := 10) (As := [.int (xs (i + 1).toNatClampNeg), .int (xs (i + 2).toNatClampNeg), .int (xs (i + 3).toNatClampNeg)]) (rest := [.int v]) (h1 := h2) ok (m_X10_lays q2 (Nat.le_refl _)) my_X10_lays lk1366 pd_X10_lays (Nat.le_of_ble_eq_true rfl) rfl rfl (by decide) (sh_of g1 S0_188) rfl rfl rfl dL_law_641 (fun e2 => ?_)
  have g2 := e2.trans g1
  refine wp_icmp_eq (tgt := 1795) ok dL_law_644 (by decide) (fun _ => ?_) (fun q => absurd rfl q)
  exact kk _ q3
set_option maxHeartbeats 4000000 in
theorem law_spends {x : Cx} {c n Ln : Nat} {h : HP} {i : Int32} {xs : Nat → Int32} {Inv Jnv : HP → Prop} (ok : Okx (cs x c n) code RL 8 2048) (ok2 : Okx (cs x (c + 1) (n + 6)) code RL 8 2048) (scx : ScX x Ln xs) (thx : ThX x) (hfl : (cxl x).stackTraces = false) (hv1 : vp_in (i + 1) Ln) (hv2 : vp_in (i + 2) Ln) (hv3 : vp_in (i + 3) Ln) (hv4 : vp_in (i + 4) Ln) (sh : ∀ h, Inv h → h.1 = S0) (op : Op_spends Inv Jnv) (hI : Inv h) (kk : ∀ h', Jnv h' → wp (cs x c n) 1795 [(4, .int i), (3, .ref 219), (2, .ref 188), (1, .ref 0), (0, .ref (SB + 400))] [] h') (kk2 : ∀ h', Jnv h' → wp (cs x (c + 1) (n + 6)) 1795 [(4, .int i), (3, .ref 219), (2, .ref 188), (1, .ref 0), (0, .ref (SB + 400))] [] h') : wp (cs x c n) 649 [(4, .int i), (3, .ref 219), (2, .ref 188), (1, .ref 0), (0, .ref (SB + 400))] [] h := by
  obtain ⟨v, h1, h2, q1, q2, q3⟩ := op h (xs (i + 1).toNatClampNeg) (xs (i + 2).toNatClampNeg) (xs (i + 3).toNatClampNeg) hI
  have hsh := sh h hI
  refine wp_aload_n (v := 0) ok dL_law_649 rfl ?_
  refine wp_aload_n (v := (SB + 400)) ok dL_law_650 rfl ?_
  refine wp_iload (v := i) ok dL_law_651 rfl ?_
  refine wp_iconst (v := 1) ok dL_law_653 (by decide) ?_
  refine wp_iadd ok dL_law_654 ?_
  refine wp_sld ok scx hv1 dL_law_655 ?_
  refine wp_aload_n (v := (SB + 400)) ok dL_law_656 rfl ?_
  refine wp_iload (v := i) ok dL_law_657 rfl ?_
  refine wp_iconst (v := 2) ok dL_law_659 (by decide) ?_
  refine wp_iadd ok dL_law_660 ?_
  refine wp_sld ok scx hv2 dL_law_661 ?_
  refine wp_aload_n (v := (SB + 400)) ok dL_law_662 rfl ?_
  refine wp_iload (v := i) ok dL_law_663 rfl ?_
  refine wp_iconst (v := 3) ok dL_law_665 (by decide) ?_
  refine wp_iadd ok dL_law_666 ?_
  refine wp_sld ok scx hv3 dL_law_667 ?_
  refine wp_callVI (ci := 9) (As := [.int (xs (i + 1).toNatClampNeg), .int (xs (i + 2).toNatClampNeg), .int (xs (i + 3).toNatClampNeg)]) (rest := []) (h1 := h1) ok (m_X9_spends q1 (Nat.le_refl _)) my_X9_spends lk604 pd_X9_spends (Nat.le_of_ble_eq_true rfl) rfl rfl (by decide) (sh_of hsh S0_0) rfl rfl rfl dL_law_668 (fun e1 => ?_)
  have g1 := e1.trans hsh
  refine wp_aload_n (v := 188) ok dL_law_671 rfl ?_
  refine wp_aload_n (v := (SB + 400)) ok dL_law_672 rfl ?_
  refine wp_iload (v := i) ok dL_law_673 rfl ?_
  refine wp_iconst (v := 1) ok dL_law_675 (by decide) ?_
  refine wp_iadd ok dL_law_676 ?_
  refine wp_sld ok scx hv1 dL_law_677 ?_
  refine wp_aload_n (v := (SB + 400)) ok dL_law_678 rfl ?_
  refine wp_iload (v := i) ok dL_law_679 rfl ?_
  refine wp_iconst (v := 2) ok dL_law_681 (by decide) ?_
  refine wp_iadd ok dL_law_682 ?_
  refine wp_sld ok scx hv2 dL_law_683 ?_
  refine wp_aload_n (v := (SB + 400)) ok dL_law_684 rfl ?_
  refine wp_iload (v := i) ok dL_law_685 rfl ?_
  refine wp_iconst (v := 3) ok dL_law_687 (by decide) ?_
  refine wp_iadd ok dL_law_688 ?_
  refine wp_sld ok scx hv3 dL_law_689 ?_
  refine wp_callVI (ci := 10) (As := [.int (xs (i + 1).toNatClampNeg), .int (xs (i + 2).toNatClampNeg), .int (xs (i + 3).toNatClampNeg)]) (rest := [.int v]) (h1 := h2) ok (m_X10_spends q2 (Nat.le_refl _)) my_X10_spends lk1378 pd_X10_spends (Nat.le_of_ble_eq_true rfl) rfl rfl (by decide) (sh_of g1 S0_188) rfl rfl rfl dL_law_690 (fun e2 => ?_)
  have g2 := e2.trans g1
  refine wp_icmp_eq (tgt := 1795) ok dL_law_693 (by decide) (fun _ => ?_) (fun q => absurd rfl q)
  exact kk _ q3
set_option maxHeartbeats 4000000 in
theorem law_taxes {x : Cx} {c n Ln : Nat} {h : HP} {i : Int32} {xs : Nat → Int32} {Inv Jnv : HP → Prop} (ok : Okx (cs x c n) code RL 8 2048) (ok2 : Okx (cs x (c + 1) (n + 6)) code RL 8 2048) (scx : ScX x Ln xs) (thx : ThX x) (hfl : (cxl x).stackTraces = false) (hv1 : vp_in (i + 1) Ln) (hv2 : vp_in (i + 2) Ln) (hv3 : vp_in (i + 3) Ln) (hv4 : vp_in (i + 4) Ln) (sh : ∀ h, Inv h → h.1 = S0) (op : Op_taxes Inv Jnv) (hI : Inv h) (kk : ∀ h', Jnv h' → wp (cs x c n) 1795 [(4, .int i), (3, .ref 219), (2, .ref 188), (1, .ref 0), (0, .ref (SB + 400))] [] h') (kk2 : ∀ h', Jnv h' → wp (cs x (c + 1) (n + 6)) 1795 [(4, .int i), (3, .ref 219), (2, .ref 188), (1, .ref 0), (0, .ref (SB + 400))] [] h') : wp (cs x c n) 698 [(4, .int i), (3, .ref 219), (2, .ref 188), (1, .ref 0), (0, .ref (SB + 400))] [] h := by
  obtain ⟨v, h1, h2, q1, q2, q3⟩ := op h (xs (i + 1).toNatClampNeg) (xs (i + 2).toNatClampNeg) hI
  have hsh := sh h hI
  refine wp_aload_n (v := 0) ok dL_law_698 rfl ?_
  refine wp_aload_n (v := (SB + 400)) ok dL_law_699 rfl ?_
  refine wp_iload (v := i) ok dL_law_700 rfl ?_
  refine wp_iconst (v := 1) ok dL_law_702 (by decide) ?_
  refine wp_iadd ok dL_law_703 ?_
  refine wp_sld ok scx hv1 dL_law_704 ?_
  refine wp_aload_n (v := (SB + 400)) ok dL_law_705 rfl ?_
  refine wp_iload (v := i) ok dL_law_706 rfl ?_
  refine wp_iconst (v := 2) ok dL_law_708 (by decide) ?_
  refine wp_iadd ok dL_law_709 ?_
  refine wp_sld ok scx hv2 dL_law_710 ?_
  refine wp_callVI (ci := 9) (As := [.int (xs (i + 1).toNatClampNeg), .int (xs (i + 2).toNatClampNeg)]) (rest := []) (h1 := h1) ok (m_X9_taxes q1 (Nat.le_refl _)) my_X9_taxes lk612 pd_X9_taxes (Nat.le_of_ble_eq_true rfl) rfl rfl (by decide) (sh_of hsh S0_0) rfl rfl rfl dL_law_711 (fun e1 => ?_)
  have g1 := e1.trans hsh
  refine wp_aload_n (v := 188) ok dL_law_714 rfl ?_
  refine wp_aload_n (v := (SB + 400)) ok dL_law_715 rfl ?_
  refine wp_iload (v := i) ok dL_law_716 rfl ?_
  refine wp_iconst (v := 1) ok dL_law_718 (by decide) ?_
  refine wp_iadd ok dL_law_719 ?_
  refine wp_sld ok scx hv1 dL_law_720 ?_
  refine wp_aload_n (v := (SB + 400)) ok dL_law_721 rfl ?_
  refine wp_iload (v := i) ok dL_law_722 rfl ?_
  refine wp_iconst (v := 2) ok dL_law_724 (by decide) ?_
  refine wp_iadd ok dL_law_725 ?_
  refine wp_sld ok scx hv2 dL_law_726 ?_
  refine wp_callVI (ci := 10) (As := [.int (xs (i + 1).toNatClampNeg), .int (xs (i + 2).toNatClampNeg)]) (rest := [.int v]) (h1 := h2) ok (m_X10_taxes q2 (Nat.le_refl _)) my_X10_taxes lk1386 pd_X10_taxes (Nat.le_of_ble_eq_true rfl) rfl rfl (by decide) (sh_of g1 S0_188) rfl rfl rfl dL_law_727 (fun e2 => ?_)
  have g2 := e2.trans g1
  refine wp_icmp_eq (tgt := 1795) ok dL_law_730 (by decide) (fun _ => ?_) (fun q => absurd rfl q)
  exact kk _ q3
set_option maxHeartbeats 4000000 in
theorem law_burns {x : Cx} {c n Ln : Nat} {h : HP} {i : Int32} {xs : Nat → Int32} {Inv Jnv : HP → Prop} (ok : Okx (cs x c n) code RL 8 2048) (ok2 : Okx (cs x (c + 1) (n + 6)) code RL 8 2048) (scx : ScX x Ln xs) (thx : ThX x) (hfl : (cxl x).stackTraces = false) (hv1 : vp_in (i + 1) Ln) (hv2 : vp_in (i + 2) Ln) (hv3 : vp_in (i + 3) Ln) (hv4 : vp_in (i + 4) Ln) (sh : ∀ h, Inv h → h.1 = S0) (op : Op_burns Inv Jnv) (hI : Inv h) (kk : ∀ h', Jnv h' → wp (cs x c n) 1795 [(4, .int i), (3, .ref 219), (2, .ref 188), (1, .ref 0), (0, .ref (SB + 400))] [] h') (kk2 : ∀ h', Jnv h' → wp (cs x (c + 1) (n + 6)) 1795 [(4, .int i), (3, .ref 219), (2, .ref 188), (1, .ref 0), (0, .ref (SB + 400))] [] h') : wp (cs x c n) 735 [(4, .int i), (3, .ref 219), (2, .ref 188), (1, .ref 0), (0, .ref (SB + 400))] [] h := by
  obtain ⟨v, h1, h2, q1, q2, q3⟩ := op h (xs (i + 1).toNatClampNeg) hI
  have hsh := sh h hI
  refine wp_aload_n (v := 0) ok dL_law_735 rfl ?_
  refine wp_aload_n (v := (SB + 400)) ok dL_law_736 rfl ?_
  refine wp_iload (v := i) ok dL_law_737 rfl ?_
  refine wp_iconst (v := 1) ok dL_law_739 (by decide) ?_
  refine wp_iadd ok dL_law_740 ?_
  refine wp_sld ok scx hv1 dL_law_741 ?_
  refine wp_callVI (ci := 9) (As := [.int (xs (i + 1).toNatClampNeg)]) (rest := []) (h1 := h1) ok (m_X9_burns q1 (Nat.le_refl _)) my_X9_burns lk621 pd_X9_burns (Nat.le_of_ble_eq_true rfl) rfl rfl (by decide) (sh_of hsh S0_0) rfl rfl rfl dL_law_742 (fun e1 => ?_)
  have g1 := e1.trans hsh
  refine wp_aload_n (v := 188) ok dL_law_745 rfl ?_
  refine wp_aload_n (v := (SB + 400)) ok dL_law_746 rfl ?_
  refine wp_iload (v := i) ok dL_law_747 rfl ?_
  refine wp_iconst (v := 1) ok dL_law_749 (by decide) ?_
  refine wp_iadd ok dL_law_750 ?_
  refine wp_sld ok scx hv1 dL_law_751 ?_
  refine wp_callVI (ci := 10) (As := [.int (xs (i + 1).toNatClampNeg)]) (rest := [.int v]) (h1 := h2) ok (m_X10_burns q2 (Nat.le_refl _)) my_X10_burns lk1396 pd_X10_burns (Nat.le_of_ble_eq_true rfl) rfl rfl (by decide) (sh_of g1 S0_188) rfl rfl rfl dL_law_752 (fun e2 => ?_)
  have g2 := e2.trans g1
  refine wp_icmp_eq (tgt := 1795) ok dL_law_755 (by decide) (fun _ => ?_) (fun q => absurd rfl q)
  exact kk _ q3
set_option maxHeartbeats 4000000 in
theorem law_port {x : Cx} {c n Ln : Nat} {h : HP} {i : Int32} {xs : Nat → Int32} {Inv Jnv : HP → Prop} (ok : Okx (cs x c n) code RL 8 2048) (ok2 : Okx (cs x (c + 1) (n + 6)) code RL 8 2048) (scx : ScX x Ln xs) (thx : ThX x) (hfl : (cxl x).stackTraces = false) (hv1 : vp_in (i + 1) Ln) (hv2 : vp_in (i + 2) Ln) (hv3 : vp_in (i + 3) Ln) (hv4 : vp_in (i + 4) Ln) (sh : ∀ h, Inv h → h.1 = S0) (op : Op_port Inv Jnv) (hI : Inv h) (kk : ∀ h', Jnv h' → wp (cs x c n) 1795 [(4, .int i), (3, .ref 219), (2, .ref 188), (1, .ref 0), (0, .ref (SB + 400))] [] h') (kk2 : ∀ h', Jnv h' → wp (cs x (c + 1) (n + 6)) 1795 [(4, .int i), (3, .ref 219), (2, .ref 188), (1, .ref 0), (0, .ref (SB + 400))] [] h') : wp (cs x c n) 760 [(4, .int i), (3, .ref 219), (2, .ref 188), (1, .ref 0), (0, .ref (SB + 400))] [] h := by
  obtain ⟨v, h1, h2, q1, q2, q3⟩ := op h hI
  have hsh := sh h hI
  refine wp_aload_n (v := 0) ok dL_law_760 rfl ?_
  refine wp_callVI (ci := 9) (As := []) (rest := []) (h1 := h1) ok (m_X9_port q1 (Nat.le_refl _)) my_X9_port lk629 pd_X9_port (Nat.le_of_ble_eq_true rfl) rfl rfl (by decide) (sh_of hsh S0_0) rfl rfl rfl dL_law_761 (fun e1 => ?_)
  have g1 := e1.trans hsh
  refine wp_aload_n (v := 188) ok dL_law_764 rfl ?_
  refine wp_callVI (ci := 10) (As := []) (rest := [.int v]) (h1 := h2) ok (m_X10_port q2 (Nat.le_refl _)) my_X10_port lk1404 pd_X10_port (Nat.le_of_ble_eq_true rfl) rfl rfl (by decide) (sh_of g1 S0_188) rfl rfl rfl dL_law_765 (fun e2 => ?_)
  have g2 := e2.trans g1
  refine wp_icmp_eq (tgt := 1795) ok dL_law_768 (by decide) (fun _ => ?_) (fun q => absurd rfl q)
  exact kk _ q3
set_option maxHeartbeats 4000000 in
theorem law_flow {x : Cx} {c n Ln : Nat} {h : HP} {i : Int32} {xs : Nat → Int32} {Inv Jnv : HP → Prop} (ok : Okx (cs x c n) code RL 8 2048) (ok2 : Okx (cs x (c + 1) (n + 6)) code RL 8 2048) (scx : ScX x Ln xs) (thx : ThX x) (hfl : (cxl x).stackTraces = false) (hv1 : vp_in (i + 1) Ln) (hv2 : vp_in (i + 2) Ln) (hv3 : vp_in (i + 3) Ln) (hv4 : vp_in (i + 4) Ln) (sh : ∀ h, Inv h → h.1 = S0) (op : Op_flow Inv Jnv) (hI : Inv h) (kk : ∀ h', Jnv h' → wp (cs x c n) 1795 [(4, .int i), (3, .ref 219), (2, .ref 188), (1, .ref 0), (0, .ref (SB + 400))] [] h') (kk2 : ∀ h', Jnv h' → wp (cs x (c + 1) (n + 6)) 1795 [(4, .int i), (3, .ref 219), (2, .ref 188), (1, .ref 0), (0, .ref (SB + 400))] [] h') : wp (cs x c n) 773 [(4, .int i), (3, .ref 219), (2, .ref 188), (1, .ref 0), (0, .ref (SB + 400))] [] h := by
  obtain ⟨v, h1, h2, q1, q2, q3⟩ := op h (xs (i + 1).toNatClampNeg) hI
  have hsh := sh h hI
  refine wp_aload_n (v := 0) ok dL_law_773 rfl ?_
  refine wp_aload_n (v := (SB + 400)) ok dL_law_774 rfl ?_
  refine wp_iload (v := i) ok dL_law_775 rfl ?_
  refine wp_iconst (v := 1) ok dL_law_777 (by decide) ?_
  refine wp_iadd ok dL_law_778 ?_
  refine wp_sld ok scx hv1 dL_law_779 ?_
  refine wp_callVI (ci := 9) (As := [.int (xs (i + 1).toNatClampNeg)]) (rest := []) (h1 := h1) ok (m_X9_flow q1 (Nat.le_refl _)) my_X9_flow lk637 pd_X9_flow (Nat.le_of_ble_eq_true rfl) rfl rfl (by decide) (sh_of hsh S0_0) rfl rfl rfl dL_law_780 (fun e1 => ?_)
  have g1 := e1.trans hsh
  refine wp_aload_n (v := 188) ok dL_law_783 rfl ?_
  refine wp_aload_n (v := (SB + 400)) ok dL_law_784 rfl ?_
  refine wp_iload (v := i) ok dL_law_785 rfl ?_
  refine wp_iconst (v := 1) ok dL_law_787 (by decide) ?_
  refine wp_iadd ok dL_law_788 ?_
  refine wp_sld ok scx hv1 dL_law_789 ?_
  refine wp_callVI (ci := 10) (As := [.int (xs (i + 1).toNatClampNeg)]) (rest := [.int v]) (h1 := h2) ok (m_X10_flow q2 (Nat.le_refl _)) my_X10_flow lk1408 pd_X10_flow (Nat.le_of_ble_eq_true rfl) rfl rfl (by decide) (sh_of g1 S0_188) rfl rfl rfl dL_law_790 (fun e2 => ?_)
  have g2 := e2.trans g1
  refine wp_icmp_eq (tgt := 1795) ok dL_law_793 (by decide) (fun _ => ?_) (fun q => absurd rfl q)
  exact kk _ q3
set_option maxHeartbeats 4000000 in
theorem law_year {x : Cx} {c n Ln : Nat} {h : HP} {i : Int32} {xs : Nat → Int32} {Inv Jnv : HP → Prop} (ok : Okx (cs x c n) code RL 8 2048) (ok2 : Okx (cs x (c + 1) (n + 6)) code RL 8 2048) (scx : ScX x Ln xs) (thx : ThX x) (hfl : (cxl x).stackTraces = false) (hv1 : vp_in (i + 1) Ln) (hv2 : vp_in (i + 2) Ln) (hv3 : vp_in (i + 3) Ln) (hv4 : vp_in (i + 4) Ln) (sh : ∀ h, Inv h → h.1 = S0) (op : Op_year Inv Jnv) (hI : Inv h) (kk : ∀ h', Jnv h' → wp (cs x c n) 1795 [(4, .int i), (3, .ref 219), (2, .ref 188), (1, .ref 0), (0, .ref (SB + 400))] [] h') (kk2 : ∀ h', Jnv h' → wp (cs x (c + 1) (n + 6)) 1795 [(4, .int i), (3, .ref 219), (2, .ref 188), (1, .ref 0), (0, .ref (SB + 400))] [] h') : wp (cs x c n) 798 [(4, .int i), (3, .ref 219), (2, .ref 188), (1, .ref 0), (0, .ref (SB + 400))] [] h := by
  obtain ⟨v, h1, h2, q1, q2, q3⟩ := op h hI
  have hsh := sh h hI
  refine wp_aload_n (v := 0) ok dL_law_798 rfl ?_
  refine wp_callVI (ci := 9) (As := []) (rest := []) (h1 := h1) ok (m_X9_year q1 (Nat.le_refl _)) my_X9_year lk645 pd_X9_year (Nat.le_of_ble_eq_true rfl) rfl rfl (by decide) (sh_of hsh S0_0) rfl rfl rfl dL_law_799 (fun e1 => ?_)
  have g1 := e1.trans hsh
  refine wp_aload_n (v := 188) ok dL_law_802 rfl ?_
  refine wp_callVI (ci := 10) (As := []) (rest := [.int v]) (h1 := h2) ok (m_X10_year q2 (Nat.le_refl _)) my_X10_year lk1416 pd_X10_year (Nat.le_of_ble_eq_true rfl) rfl rfl (by decide) (sh_of g1 S0_188) rfl rfl rfl dL_law_803 (fun e2 => ?_)
  have g2 := e2.trans g1
  refine wp_icmp_eq (tgt := 1795) ok dL_law_806 (by decide) (fun _ => ?_) (fun q => absurd rfl q)
  exact kk _ q3
set_option maxHeartbeats 4000000 in
theorem law_undo {x : Cx} {c n Ln : Nat} {h : HP} {i : Int32} {xs : Nat → Int32} {Inv Jnv : HP → Prop} (ok : Okx (cs x c n) code RL 8 2048) (ok2 : Okx (cs x (c + 1) (n + 6)) code RL 8 2048) (scx : ScX x Ln xs) (thx : ThX x) (hfl : (cxl x).stackTraces = false) (hv1 : vp_in (i + 1) Ln) (hv2 : vp_in (i + 2) Ln) (hv3 : vp_in (i + 3) Ln) (hv4 : vp_in (i + 4) Ln) (sh : ∀ h, Inv h → h.1 = S0) (op : Op_undo Inv Jnv) (hI : Inv h) (kk : ∀ h', Jnv h' → wp (cs x c n) 1795 [(4, .int i), (3, .ref 219), (2, .ref 188), (1, .ref 0), (0, .ref (SB + 400))] [] h') (kk2 : ∀ h', Jnv h' → wp (cs x (c + 1) (n + 6)) 1795 [(4, .int i), (3, .ref 219), (2, .ref 188), (1, .ref 0), (0, .ref (SB + 400))] [] h') : wp (cs x c n) 811 [(4, .int i), (3, .ref 219), (2, .ref 188), (1, .ref 0), (0, .ref (SB + 400))] [] h := by
  obtain ⟨v, h1, h2, q1, q2, q3⟩ := op h hI
  have hsh := sh h hI
  refine wp_aload_n (v := 0) ok dL_law_811 rfl ?_
  refine wp_callVI (ci := 9) (As := []) (rest := []) (h1 := h1) ok (m_X9_undo q1 (Nat.le_refl _)) my_X9_undo lk698 pd_X9_undo (Nat.le_of_ble_eq_true rfl) rfl rfl (by decide) (sh_of hsh S0_0) rfl rfl rfl dL_law_812 (fun e1 => ?_)
  have g1 := e1.trans hsh
  refine wp_aload_n (v := 188) ok dL_law_815 rfl ?_
  refine wp_callVI (ci := 10) (As := []) (rest := [.int v]) (h1 := h2) ok (m_X10_undo q2 (Nat.le_refl _)) my_X10_undo lk1326 pd_X10_undo (Nat.le_of_ble_eq_true rfl) rfl rfl (by decide) (sh_of g1 S0_188) rfl rfl rfl dL_law_816 (fun e2 => ?_)
  have g2 := e2.trans g1
  refine wp_icmp_eq (tgt := 1795) ok dL_law_819 (by decide) (fun _ => ?_) (fun q => absurd rfl q)
  exact kk _ q3
set_option maxHeartbeats 4000000 in
theorem law_ahead {x : Cx} {c n Ln : Nat} {h : HP} {i : Int32} {xs : Nat → Int32} {Inv Jnv : HP → Prop} (ok : Okx (cs x c n) code RL 8 2048) (ok2 : Okx (cs x (c + 1) (n + 6)) code RL 8 2048) (scx : ScX x Ln xs) (thx : ThX x) (hfl : (cxl x).stackTraces = false) (hv1 : vp_in (i + 1) Ln) (hv2 : vp_in (i + 2) Ln) (hv3 : vp_in (i + 3) Ln) (hv4 : vp_in (i + 4) Ln) (sh : ∀ h, Inv h → h.1 = S0) (op : Op_ahead Inv Jnv) (hI : Inv h) (kk : ∀ h', Jnv h' → wp (cs x c n) 1795 [(4, .int i), (3, .ref 219), (2, .ref 188), (1, .ref 0), (0, .ref (SB + 400))] [] h') (kk2 : ∀ h', Jnv h' → wp (cs x (c + 1) (n + 6)) 1795 [(4, .int i), (3, .ref 219), (2, .ref 188), (1, .ref 0), (0, .ref (SB + 400))] [] h') : wp (cs x c n) 824 [(4, .int i), (3, .ref 219), (2, .ref 188), (1, .ref 0), (0, .ref (SB + 400))] [] h := by
  obtain ⟨v, h1, h2, q1, q2, q3⟩ := op h (xs (i + 1).toNatClampNeg) (xs (i + 2).toNatClampNeg) hI
  have hsh := sh h hI
  refine wp_aload_n (v := 0) ok dL_law_824 rfl ?_
  refine wp_aload_n (v := (SB + 400)) ok dL_law_825 rfl ?_
  refine wp_iload (v := i) ok dL_law_826 rfl ?_
  refine wp_iconst (v := 1) ok dL_law_828 (by decide) ?_
  refine wp_iadd ok dL_law_829 ?_
  refine wp_sld ok scx hv1 dL_law_830 ?_
  refine wp_aload_n (v := (SB + 400)) ok dL_law_831 rfl ?_
  refine wp_iload (v := i) ok dL_law_832 rfl ?_
  refine wp_iconst (v := 2) ok dL_law_834 (by decide) ?_
  refine wp_iadd ok dL_law_835 ?_
  refine wp_sld ok scx hv2 dL_law_836 ?_
  refine wp_callVI (ci := 9) (As := [.int (xs (i + 1).toNatClampNeg), .int (xs (i + 2).toNatClampNeg)]) (rest := []) (h1 := h1) ok (m_X9_ahead q1 (Nat.le_refl _)) my_X9_ahead lk706 pd_X9_ahead (Nat.le_of_ble_eq_true rfl) rfl rfl (by decide) (sh_of hsh S0_0) rfl rfl rfl dL_law_837 (fun e1 => ?_)
  have g1 := e1.trans hsh
  refine wp_aload_n (v := 188) ok dL_law_840 rfl ?_
  refine wp_aload_n (v := (SB + 400)) ok dL_law_841 rfl ?_
  refine wp_iload (v := i) ok dL_law_842 rfl ?_
  refine wp_iconst (v := 1) ok dL_law_844 (by decide) ?_
  refine wp_iadd ok dL_law_845 ?_
  refine wp_sld ok scx hv1 dL_law_846 ?_
  refine wp_aload_n (v := (SB + 400)) ok dL_law_847 rfl ?_
  refine wp_iload (v := i) ok dL_law_848 rfl ?_
  refine wp_iconst (v := 2) ok dL_law_850 (by decide) ?_
  refine wp_iadd ok dL_law_851 ?_
  refine wp_sld ok scx hv2 dL_law_852 ?_
  refine wp_callVI (ci := 10) (As := [.int (xs (i + 1).toNatClampNeg), .int (xs (i + 2).toNatClampNeg)]) (rest := [.int v]) (h1 := h2) ok (m_X10_ahead q2 (Nat.le_refl _)) my_X10_ahead lk1433 pd_X10_ahead (Nat.le_of_ble_eq_true rfl) rfl rfl (by decide) (sh_of g1 S0_188) rfl rfl rfl dL_law_853 (fun e2 => ?_)
  have g2 := e2.trans g1
  refine wp_icmp_eq (tgt := 1795) ok dL_law_856 (by decide) (fun _ => ?_) (fun q => absurd rfl q)
  exact kk _ q3
set_option maxHeartbeats 4000000 in
theorem law_doubles {x : Cx} {c n Ln : Nat} {h : HP} {i : Int32} {xs : Nat → Int32} {Inv Jnv : HP → Prop} (ok : Okx (cs x c n) code RL 8 2048) (ok2 : Okx (cs x (c + 1) (n + 6)) code RL 8 2048) (scx : ScX x Ln xs) (thx : ThX x) (hfl : (cxl x).stackTraces = false) (hv1 : vp_in (i + 1) Ln) (hv2 : vp_in (i + 2) Ln) (hv3 : vp_in (i + 3) Ln) (hv4 : vp_in (i + 4) Ln) (sh : ∀ h, Inv h → h.1 = S0) (op : Op_doubles Inv Jnv) (hI : Inv h) (kk : ∀ h', Jnv h' → wp (cs x c n) 1795 [(4, .int i), (3, .ref 219), (2, .ref 188), (1, .ref 0), (0, .ref (SB + 400))] [] h') (kk2 : ∀ h', Jnv h' → wp (cs x (c + 1) (n + 6)) 1795 [(4, .int i), (3, .ref 219), (2, .ref 188), (1, .ref 0), (0, .ref (SB + 400))] [] h') : wp (cs x c n) 861 [(4, .int i), (3, .ref 219), (2, .ref 188), (1, .ref 0), (0, .ref (SB + 400))] [] h := by
  obtain ⟨v, h1, h2, q1, q2, q3⟩ := op h (xs (i + 1).toNatClampNeg) hI
  have hsh := sh h hI
  refine wp_aload_n (v := 0) ok dL_law_861 rfl ?_
  refine wp_aload_n (v := (SB + 400)) ok dL_law_862 rfl ?_
  refine wp_iload (v := i) ok dL_law_863 rfl ?_
  refine wp_iconst (v := 1) ok dL_law_865 (by decide) ?_
  refine wp_iadd ok dL_law_866 ?_
  refine wp_sld ok scx hv1 dL_law_867 ?_
  refine wp_callVI (ci := 9) (As := [.int (xs (i + 1).toNatClampNeg)]) (rest := []) (h1 := h1) ok (m_X9_doubles q1 (Nat.le_refl _)) my_X9_doubles lk714 pd_X9_doubles (Nat.le_of_ble_eq_true rfl) rfl rfl (by decide) (sh_of hsh S0_0) rfl rfl rfl dL_law_868 (fun e1 => ?_)
  have g1 := e1.trans hsh
  refine wp_aload_n (v := 188) ok dL_law_871 rfl ?_
  refine wp_aload_n (v := (SB + 400)) ok dL_law_872 rfl ?_
  refine wp_iload (v := i) ok dL_law_873 rfl ?_
  refine wp_iconst (v := 1) ok dL_law_875 (by decide) ?_
  refine wp_iadd ok dL_law_876 ?_
  refine wp_sld ok scx hv1 dL_law_877 ?_
  refine wp_callVI (ci := 10) (As := [.int (xs (i + 1).toNatClampNeg)]) (rest := [.int v]) (h1 := h2) ok (m_X10_doubles q2 (Nat.le_refl _)) my_X10_doubles lk1442 pd_X10_doubles (Nat.le_of_ble_eq_true rfl) rfl rfl (by decide) (sh_of g1 S0_188) rfl rfl rfl dL_law_878 (fun e2 => ?_)
  have g2 := e2.trans g1
  refine wp_icmp_eq (tgt := 1795) ok dL_law_881 (by decide) (fun _ => ?_) (fun q => absurd rfl q)
  exact kk _ q3
set_option maxHeartbeats 4000000 in
theorem law_trade {x : Cx} {c n Ln : Nat} {h : HP} {i : Int32} {xs : Nat → Int32} {Inv Jnv : HP → Prop} (ok : Okx (cs x c n) code RL 8 2048) (ok2 : Okx (cs x (c + 1) (n + 6)) code RL 8 2048) (scx : ScX x Ln xs) (thx : ThX x) (hfl : (cxl x).stackTraces = false) (hv1 : vp_in (i + 1) Ln) (hv2 : vp_in (i + 2) Ln) (hv3 : vp_in (i + 3) Ln) (hv4 : vp_in (i + 4) Ln) (sh : ∀ h, Inv h → h.1 = S0) (op : Op_trade Inv Jnv) (hI : Inv h) (kk : ∀ h', Jnv h' → wp (cs x c n) 1795 [(4, .int i), (3, .ref 219), (2, .ref 188), (1, .ref 0), (0, .ref (SB + 400))] [] h') (kk2 : ∀ h', Jnv h' → wp (cs x (c + 1) (n + 6)) 1795 [(4, .int i), (3, .ref 219), (2, .ref 188), (1, .ref 0), (0, .ref (SB + 400))] [] h') : wp (cs x c n) 886 [(4, .int i), (3, .ref 219), (2, .ref 188), (1, .ref 0), (0, .ref (SB + 400))] [] h := by
  obtain ⟨v, h1, h2, q1, q2, q3⟩ := op h (xs (i + 1).toNatClampNeg) hI
  have hsh := sh h hI
  refine wp_aload_n (v := 0) ok dL_law_886 rfl ?_
  refine wp_aload_n (v := (SB + 400)) ok dL_law_887 rfl ?_
  refine wp_iload (v := i) ok dL_law_888 rfl ?_
  refine wp_iconst (v := 1) ok dL_law_890 (by decide) ?_
  refine wp_iadd ok dL_law_891 ?_
  refine wp_sld ok scx hv1 dL_law_892 ?_
  refine wp_callVI (ci := 9) (As := [.int (xs (i + 1).toNatClampNeg)]) (rest := []) (h1 := h1) ok (m_X9_trade q1 (Nat.le_refl _)) my_X9_trade lk722 pd_X9_trade (Nat.le_of_ble_eq_true rfl) rfl rfl (by decide) (sh_of hsh S0_0) rfl rfl rfl dL_law_893 (fun e1 => ?_)
  have g1 := e1.trans hsh
  refine wp_aload_n (v := 188) ok dL_law_896 rfl ?_
  refine wp_aload_n (v := (SB + 400)) ok dL_law_897 rfl ?_
  refine wp_iload (v := i) ok dL_law_898 rfl ?_
  refine wp_iconst (v := 1) ok dL_law_900 (by decide) ?_
  refine wp_iadd ok dL_law_901 ?_
  refine wp_sld ok scx hv1 dL_law_902 ?_
  refine wp_callVI (ci := 10) (As := [.int (xs (i + 1).toNatClampNeg)]) (rest := [.int v]) (h1 := h2) ok (m_X10_trade q2 (Nat.le_refl _)) my_X10_trade lk1446 pd_X10_trade (Nat.le_of_ble_eq_true rfl) rfl rfl (by decide) (sh_of g1 S0_188) rfl rfl rfl dL_law_903 (fun e2 => ?_)
  have g2 := e2.trans g1
  refine wp_icmp_eq (tgt := 1795) ok dL_law_906 (by decide) (fun _ => ?_) (fun q => absurd rfl q)
  exact kk _ q3
set_option maxHeartbeats 4000000 in
theorem law_buys {x : Cx} {c n Ln : Nat} {h : HP} {i : Int32} {xs : Nat → Int32} {Inv Jnv : HP → Prop} (ok : Okx (cs x c n) code RL 8 2048) (ok2 : Okx (cs x (c + 1) (n + 6)) code RL 8 2048) (scx : ScX x Ln xs) (thx : ThX x) (hfl : (cxl x).stackTraces = false) (hv1 : vp_in (i + 1) Ln) (hv2 : vp_in (i + 2) Ln) (hv3 : vp_in (i + 3) Ln) (hv4 : vp_in (i + 4) Ln) (sh : ∀ h, Inv h → h.1 = S0) (op : Op_buys Inv Jnv) (hI : Inv h) (kk : ∀ h', Jnv h' → wp (cs x c n) 1795 [(4, .int i), (3, .ref 219), (2, .ref 188), (1, .ref 0), (0, .ref (SB + 400))] [] h') (kk2 : ∀ h', Jnv h' → wp (cs x (c + 1) (n + 6)) 1795 [(4, .int i), (3, .ref 219), (2, .ref 188), (1, .ref 0), (0, .ref (SB + 400))] [] h') : wp (cs x c n) 911 [(4, .int i), (3, .ref 219), (2, .ref 188), (1, .ref 0), (0, .ref (SB + 400))] [] h := by
  obtain ⟨v, h1, h2, q1, q2, q3⟩ := op h (xs (i + 1).toNatClampNeg) (xs (i + 2).toNatClampNeg) (xs (i + 3).toNatClampNeg) (xs (i + 4).toNatClampNeg) hI
  have hsh := sh h hI
  refine wp_aload_n (v := 0) ok dL_law_911 rfl ?_
  refine wp_aload_n (v := (SB + 400)) ok dL_law_912 rfl ?_
  refine wp_iload (v := i) ok dL_law_913 rfl ?_
  refine wp_iconst (v := 1) ok dL_law_915 (by decide) ?_
  refine wp_iadd ok dL_law_916 ?_
  refine wp_sld ok scx hv1 dL_law_917 ?_
  refine wp_aload_n (v := (SB + 400)) ok dL_law_918 rfl ?_
  refine wp_iload (v := i) ok dL_law_919 rfl ?_
  refine wp_iconst (v := 2) ok dL_law_921 (by decide) ?_
  refine wp_iadd ok dL_law_922 ?_
  refine wp_sld ok scx hv2 dL_law_923 ?_
  refine wp_aload_n (v := (SB + 400)) ok dL_law_924 rfl ?_
  refine wp_iload (v := i) ok dL_law_925 rfl ?_
  refine wp_iconst (v := 3) ok dL_law_927 (by decide) ?_
  refine wp_iadd ok dL_law_928 ?_
  refine wp_sld ok scx hv3 dL_law_929 ?_
  refine wp_aload_n (v := (SB + 400)) ok dL_law_930 rfl ?_
  refine wp_iload (v := i) ok dL_law_931 rfl ?_
  refine wp_iconst (v := 4) ok dL_law_933 (by decide) ?_
  refine wp_iadd ok dL_law_934 ?_
  refine wp_sld ok scx hv4 dL_law_935 ?_
  refine wp_callVI (ci := 9) (As := [.int (xs (i + 1).toNatClampNeg), .int (xs (i + 2).toNatClampNeg), .int (xs (i + 3).toNatClampNeg), .int (xs (i + 4).toNatClampNeg)]) (rest := []) (h1 := h1) ok (m_X9_buys q1 (Nat.le_refl _)) my_X9_buys lk738 pd_X9_buys (Nat.le_of_ble_eq_true rfl) rfl rfl (by decide) (sh_of hsh S0_0) rfl rfl rfl dL_law_936 (fun e1 => ?_)
  have g1 := e1.trans hsh
  refine wp_aload_n (v := 188) ok dL_law_939 rfl ?_
  refine wp_aload_n (v := (SB + 400)) ok dL_law_940 rfl ?_
  refine wp_iload (v := i) ok dL_law_941 rfl ?_
  refine wp_iconst (v := 1) ok dL_law_943 (by decide) ?_
  refine wp_iadd ok dL_law_944 ?_
  refine wp_sld ok scx hv1 dL_law_945 ?_
  refine wp_aload_n (v := (SB + 400)) ok dL_law_946 rfl ?_
  refine wp_iload (v := i) ok dL_law_947 rfl ?_
  refine wp_iconst (v := 2) ok dL_law_949 (by decide) ?_
  refine wp_iadd ok dL_law_950 ?_
  refine wp_sld ok scx hv2 dL_law_951 ?_
  refine wp_aload_n (v := (SB + 400)) ok dL_law_952 rfl ?_
  refine wp_iload (v := i) ok dL_law_953 rfl ?_
  refine wp_iconst (v := 3) ok dL_law_955 (by decide) ?_
  refine wp_iadd ok dL_law_956 ?_
  refine wp_sld ok scx hv3 dL_law_957 ?_
  refine wp_aload_n (v := (SB + 400)) ok dL_law_958 rfl ?_
  refine wp_iload (v := i) ok dL_law_959 rfl ?_
  refine wp_iconst (v := 4) ok dL_law_961 (by decide) ?_
  refine wp_iadd ok dL_law_962 ?_
  refine wp_sld ok scx hv4 dL_law_963 ?_
  refine wp_callVI (ci := 10) (As := [.int (xs (i + 1).toNatClampNeg), .int (xs (i + 2).toNatClampNeg), .int (xs (i + 3).toNatClampNeg), .int (xs (i + 4).toNatClampNeg)]) (rest := [.int v]) (h1 := h2) ok (m_X10_buys q2 (Nat.le_refl _)) my_X10_buys lk1453 pd_X10_buys (Nat.le_of_ble_eq_true rfl) rfl rfl (by decide) (sh_of g1 S0_188) rfl rfl rfl dL_law_964 (fun e2 => ?_)
  have g2 := e2.trans g1
  refine wp_icmp_eq (tgt := 1795) ok dL_law_967 (by decide) (fun _ => ?_) (fun q => absurd rfl q)
  exact kk _ q3
set_option maxHeartbeats 4000000 in
theorem law_best {x : Cx} {c n Ln : Nat} {h : HP} {i : Int32} {xs : Nat → Int32} {Inv Jnv : HP → Prop} (ok : Okx (cs x c n) code RL 8 2048) (ok2 : Okx (cs x (c + 1) (n + 6)) code RL 8 2048) (scx : ScX x Ln xs) (thx : ThX x) (hfl : (cxl x).stackTraces = false) (hv1 : vp_in (i + 1) Ln) (hv2 : vp_in (i + 2) Ln) (hv3 : vp_in (i + 3) Ln) (hv4 : vp_in (i + 4) Ln) (sh : ∀ h, Inv h → h.1 = S0) (op : Op_best Inv Jnv) (hI : Inv h) (kk : ∀ h', Jnv h' → wp (cs x c n) 1795 [(4, .int i), (3, .ref 219), (2, .ref 188), (1, .ref 0), (0, .ref (SB + 400))] [] h') (kk2 : ∀ h', Jnv h' → wp (cs x (c + 1) (n + 6)) 1795 [(4, .int i), (3, .ref 219), (2, .ref 188), (1, .ref 0), (0, .ref (SB + 400))] [] h') : wp (cs x c n) 972 [(4, .int i), (3, .ref 219), (2, .ref 188), (1, .ref 0), (0, .ref (SB + 400))] [] h := by
  obtain ⟨v, h1, h2, q1, q2, q3⟩ := op h (xs (i + 1).toNatClampNeg) (xs (i + 2).toNatClampNeg) (xs (i + 3).toNatClampNeg) hI
  have hsh := sh h hI
  refine wp_aload_n (v := 0) ok dL_law_972 rfl ?_
  refine wp_aload_n (v := (SB + 400)) ok dL_law_973 rfl ?_
  refine wp_iload (v := i) ok dL_law_974 rfl ?_
  refine wp_iconst (v := 1) ok dL_law_976 (by decide) ?_
  refine wp_iadd ok dL_law_977 ?_
  refine wp_sld ok scx hv1 dL_law_978 ?_
  refine wp_aload_n (v := (SB + 400)) ok dL_law_979 rfl ?_
  refine wp_iload (v := i) ok dL_law_980 rfl ?_
  refine wp_iconst (v := 2) ok dL_law_982 (by decide) ?_
  refine wp_iadd ok dL_law_983 ?_
  refine wp_sld ok scx hv2 dL_law_984 ?_
  refine wp_aload_n (v := (SB + 400)) ok dL_law_985 rfl ?_
  refine wp_iload (v := i) ok dL_law_986 rfl ?_
  refine wp_iconst (v := 3) ok dL_law_988 (by decide) ?_
  refine wp_iadd ok dL_law_989 ?_
  refine wp_sld ok scx hv3 dL_law_990 ?_
  refine wp_callVI (ci := 9) (As := [.int (xs (i + 1).toNatClampNeg), .int (xs (i + 2).toNatClampNeg), .int (xs (i + 3).toNatClampNeg)]) (rest := []) (h1 := h1) ok (m_X9_best q1 (Nat.le_refl _)) my_X9_best lk753 pd_X9_best (Nat.le_of_ble_eq_true rfl) rfl rfl (by decide) (sh_of hsh S0_0) rfl rfl rfl dL_law_991 (fun e1 => ?_)
  have g1 := e1.trans hsh
  refine wp_aload_n (v := 188) ok dL_law_994 rfl ?_
  refine wp_aload_n (v := (SB + 400)) ok dL_law_995 rfl ?_
  refine wp_iload (v := i) ok dL_law_996 rfl ?_
  refine wp_iconst (v := 1) ok dL_law_998 (by decide) ?_
  refine wp_iadd ok dL_law_999 ?_
  refine wp_sld ok scx hv1 dL_law_1000 ?_
  refine wp_aload_n (v := (SB + 400)) ok dL_law_1001 rfl ?_
  refine wp_iload (v := i) ok dL_law_1002 rfl ?_
  refine wp_iconst (v := 2) ok dL_law_1004 (by decide) ?_
  refine wp_iadd ok dL_law_1005 ?_
  refine wp_sld ok scx hv2 dL_law_1006 ?_
  refine wp_aload_n (v := (SB + 400)) ok dL_law_1007 rfl ?_
  refine wp_iload (v := i) ok dL_law_1008 rfl ?_
  refine wp_iconst (v := 3) ok dL_law_1010 (by decide) ?_
  refine wp_iadd ok dL_law_1011 ?_
  refine wp_sld ok scx hv3 dL_law_1012 ?_
  refine wp_callVI (ci := 10) (As := [.int (xs (i + 1).toNatClampNeg), .int (xs (i + 2).toNatClampNeg), .int (xs (i + 3).toNatClampNeg)]) (rest := [.int v]) (h1 := h2) ok (m_X10_best q2 (Nat.le_refl _)) my_X10_best lk1469 pd_X10_best (Nat.le_of_ble_eq_true rfl) rfl rfl (by decide) (sh_of g1 S0_188) rfl rfl rfl dL_law_1013 (fun e2 => ?_)
  have g2 := e2.trans g1
  refine wp_icmp_eq (tgt := 1795) ok dL_law_1016 (by decide) (fun _ => ?_) (fun q => absurd rfl q)
  exact kk _ q3
set_option maxHeartbeats 4000000 in
theorem law_closes {x : Cx} {c n Ln : Nat} {h : HP} {i : Int32} {xs : Nat → Int32} {Inv Jnv : HP → Prop} (ok : Okx (cs x c n) code RL 8 2048) (ok2 : Okx (cs x (c + 1) (n + 6)) code RL 8 2048) (scx : ScX x Ln xs) (thx : ThX x) (hfl : (cxl x).stackTraces = false) (hv1 : vp_in (i + 1) Ln) (hv2 : vp_in (i + 2) Ln) (hv3 : vp_in (i + 3) Ln) (hv4 : vp_in (i + 4) Ln) (sh : ∀ h, Inv h → h.1 = S0) (op : Op_closes Inv Jnv) (hI : Inv h) (kk : ∀ h', Jnv h' → wp (cs x c n) 1795 [(4, .int i), (3, .ref 219), (2, .ref 188), (1, .ref 0), (0, .ref (SB + 400))] [] h') (kk2 : ∀ h', Jnv h' → wp (cs x (c + 1) (n + 6)) 1795 [(4, .int i), (3, .ref 219), (2, .ref 188), (1, .ref 0), (0, .ref (SB + 400))] [] h') : wp (cs x c n) 1021 [(4, .int i), (3, .ref 219), (2, .ref 188), (1, .ref 0), (0, .ref (SB + 400))] [] h := by
  obtain ⟨v, h1, h2, q1, q2, q3⟩ := op h (xs (i + 1).toNatClampNeg) (xs (i + 2).toNatClampNeg) (xs (i + 3).toNatClampNeg) hI
  have hsh := sh h hI
  refine wp_aload_n (v := 0) ok dL_law_1021 rfl ?_
  refine wp_aload_n (v := (SB + 400)) ok dL_law_1022 rfl ?_
  refine wp_iload (v := i) ok dL_law_1023 rfl ?_
  refine wp_iconst (v := 1) ok dL_law_1025 (by decide) ?_
  refine wp_iadd ok dL_law_1026 ?_
  refine wp_sld ok scx hv1 dL_law_1027 ?_
  refine wp_aload_n (v := (SB + 400)) ok dL_law_1028 rfl ?_
  refine wp_iload (v := i) ok dL_law_1029 rfl ?_
  refine wp_iconst (v := 2) ok dL_law_1031 (by decide) ?_
  refine wp_iadd ok dL_law_1032 ?_
  refine wp_sld ok scx hv2 dL_law_1033 ?_
  refine wp_aload_n (v := (SB + 400)) ok dL_law_1034 rfl ?_
  refine wp_iload (v := i) ok dL_law_1035 rfl ?_
  refine wp_iconst (v := 3) ok dL_law_1037 (by decide) ?_
  refine wp_iadd ok dL_law_1038 ?_
  refine wp_sld ok scx hv3 dL_law_1039 ?_
  refine wp_callVI (ci := 9) (As := [.int (xs (i + 1).toNatClampNeg), .int (xs (i + 2).toNatClampNeg), .int (xs (i + 3).toNatClampNeg)]) (rest := []) (h1 := h1) ok (m_X9_closes q1 (Nat.le_refl _)) my_X9_closes lk757 pd_X9_closes (Nat.le_of_ble_eq_true rfl) rfl rfl (by decide) (sh_of hsh S0_0) rfl rfl rfl dL_law_1040 (fun e1 => ?_)
  have g1 := e1.trans hsh
  refine wp_aload_n (v := 188) ok dL_law_1043 rfl ?_
  refine wp_aload_n (v := (SB + 400)) ok dL_law_1044 rfl ?_
  refine wp_iload (v := i) ok dL_law_1045 rfl ?_
  refine wp_iconst (v := 1) ok dL_law_1047 (by decide) ?_
  refine wp_iadd ok dL_law_1048 ?_
  refine wp_sld ok scx hv1 dL_law_1049 ?_
  refine wp_aload_n (v := (SB + 400)) ok dL_law_1050 rfl ?_
  refine wp_iload (v := i) ok dL_law_1051 rfl ?_
  refine wp_iconst (v := 2) ok dL_law_1053 (by decide) ?_
  refine wp_iadd ok dL_law_1054 ?_
  refine wp_sld ok scx hv2 dL_law_1055 ?_
  refine wp_aload_n (v := (SB + 400)) ok dL_law_1056 rfl ?_
  refine wp_iload (v := i) ok dL_law_1057 rfl ?_
  refine wp_iconst (v := 3) ok dL_law_1059 (by decide) ?_
  refine wp_iadd ok dL_law_1060 ?_
  refine wp_sld ok scx hv3 dL_law_1061 ?_
  refine wp_callVI (ci := 10) (As := [.int (xs (i + 1).toNatClampNeg), .int (xs (i + 2).toNatClampNeg), .int (xs (i + 3).toNatClampNeg)]) (rest := [.int v]) (h1 := h2) ok (m_X10_closes q2 (Nat.le_refl _)) my_X10_closes lk1473 pd_X10_closes (Nat.le_of_ble_eq_true rfl) rfl rfl (by decide) (sh_of g1 S0_188) rfl rfl rfl dL_law_1062 (fun e2 => ?_)
  have g2 := e2.trans g1
  refine wp_icmp_eq (tgt := 1795) ok dL_law_1065 (by decide) (fun _ => ?_) (fun q => absurd rfl q)
  exact kk _ q3
set_option maxHeartbeats 4000000 in
theorem law_grows {x : Cx} {c n Ln : Nat} {h : HP} {i : Int32} {xs : Nat → Int32} {Inv Jnv : HP → Prop} (ok : Okx (cs x c n) code RL 8 2048) (ok2 : Okx (cs x (c + 1) (n + 6)) code RL 8 2048) (scx : ScX x Ln xs) (thx : ThX x) (hfl : (cxl x).stackTraces = false) (hv1 : vp_in (i + 1) Ln) (hv2 : vp_in (i + 2) Ln) (hv3 : vp_in (i + 3) Ln) (hv4 : vp_in (i + 4) Ln) (sh : ∀ h, Inv h → h.1 = S0) (op : Op_grows Inv Jnv) (hI : Inv h) (kk : ∀ h', Jnv h' → wp (cs x c n) 1795 [(4, .int i), (3, .ref 219), (2, .ref 188), (1, .ref 0), (0, .ref (SB + 400))] [] h') (kk2 : ∀ h', Jnv h' → wp (cs x (c + 1) (n + 6)) 1795 [(4, .int i), (3, .ref 219), (2, .ref 188), (1, .ref 0), (0, .ref (SB + 400))] [] h') : wp (cs x c n) 1070 [(4, .int i), (3, .ref 219), (2, .ref 188), (1, .ref 0), (0, .ref (SB + 400))] [] h := by
  obtain ⟨v, h1, h2, q1, q2, q3⟩ := op h (xs (i + 1).toNatClampNeg) hI
  have hsh := sh h hI
  refine wp_aload_n (v := 0) ok dL_law_1070 rfl ?_
  refine wp_aload_n (v := (SB + 400)) ok dL_law_1071 rfl ?_
  refine wp_iload (v := i) ok dL_law_1072 rfl ?_
  refine wp_iconst (v := 1) ok dL_law_1074 (by decide) ?_
  refine wp_iadd ok dL_law_1075 ?_
  refine wp_sld ok scx hv1 dL_law_1076 ?_
  refine wp_callVI (ci := 9) (As := [.int (xs (i + 1).toNatClampNeg)]) (rest := []) (h1 := h1) ok (m_X9_grows q1 (Nat.le_refl _)) my_X9_grows lk774 pd_X9_grows (Nat.le_of_ble_eq_true rfl) rfl rfl (by decide) (sh_of hsh S0_0) rfl rfl rfl dL_law_1077 (fun e1 => ?_)
  have g1 := e1.trans hsh
  refine wp_aload_n (v := 188) ok dL_law_1080 rfl ?_
  refine wp_aload_n (v := (SB + 400)) ok dL_law_1081 rfl ?_
  refine wp_iload (v := i) ok dL_law_1082 rfl ?_
  refine wp_iconst (v := 1) ok dL_law_1084 (by decide) ?_
  refine wp_iadd ok dL_law_1085 ?_
  refine wp_sld ok scx hv1 dL_law_1086 ?_
  refine wp_callVI (ci := 10) (As := [.int (xs (i + 1).toNatClampNeg)]) (rest := [.int v]) (h1 := h2) ok (m_X10_grows q2 (Nat.le_refl _)) my_X10_grows lk1483 pd_X10_grows (Nat.le_of_ble_eq_true rfl) rfl rfl (by decide) (sh_of g1 S0_188) rfl rfl rfl dL_law_1087 (fun e2 => ?_)
  have g2 := e2.trans g1
  refine wp_icmp_eq (tgt := 1795) ok dL_law_1090 (by decide) (fun _ => ?_) (fun q => absurd rfl q)
  exact kk _ q3
set_option maxHeartbeats 4000000 in
theorem law_reign {x : Cx} {c n Ln : Nat} {h : HP} {i : Int32} {xs : Nat → Int32} {Inv Jnv : HP → Prop} (ok : Okx (cs x c n) code RL 8 2048) (ok2 : Okx (cs x (c + 1) (n + 6)) code RL 8 2048) (scx : ScX x Ln xs) (thx : ThX x) (hfl : (cxl x).stackTraces = false) (hv1 : vp_in (i + 1) Ln) (hv2 : vp_in (i + 2) Ln) (hv3 : vp_in (i + 3) Ln) (hv4 : vp_in (i + 4) Ln) (sh : ∀ h, Inv h → h.1 = S0) (op : Op_reign Inv Jnv) (hI : Inv h) (kk : ∀ h', Jnv h' → wp (cs x c n) 1795 [(4, .int i), (3, .ref 219), (2, .ref 188), (1, .ref 0), (0, .ref (SB + 400))] [] h') (kk2 : ∀ h', Jnv h' → wp (cs x (c + 1) (n + 6)) 1795 [(4, .int i), (3, .ref 219), (2, .ref 188), (1, .ref 0), (0, .ref (SB + 400))] [] h') : wp (cs x c n) 1095 [(4, .int i), (3, .ref 219), (2, .ref 188), (1, .ref 0), (0, .ref (SB + 400))] [] h := by
  obtain ⟨v, h1, h2, q1, q2, q3⟩ := op h (xs (i + 1).toNatClampNeg) (xs (i + 2).toNatClampNeg) (xs (i + 3).toNatClampNeg) hI
  have hsh := sh h hI
  refine wp_aload_n (v := 0) ok dL_law_1095 rfl ?_
  refine wp_aload_n (v := (SB + 400)) ok dL_law_1096 rfl ?_
  refine wp_iload (v := i) ok dL_law_1097 rfl ?_
  refine wp_iconst (v := 1) ok dL_law_1099 (by decide) ?_
  refine wp_iadd ok dL_law_1100 ?_
  refine wp_sld ok scx hv1 dL_law_1101 ?_
  refine wp_aload_n (v := (SB + 400)) ok dL_law_1102 rfl ?_
  refine wp_iload (v := i) ok dL_law_1103 rfl ?_
  refine wp_iconst (v := 2) ok dL_law_1105 (by decide) ?_
  refine wp_iadd ok dL_law_1106 ?_
  refine wp_sld ok scx hv2 dL_law_1107 ?_
  refine wp_aload_n (v := (SB + 400)) ok dL_law_1108 rfl ?_
  refine wp_iload (v := i) ok dL_law_1109 rfl ?_
  refine wp_iconst (v := 3) ok dL_law_1111 (by decide) ?_
  refine wp_iadd ok dL_law_1112 ?_
  refine wp_sld ok scx hv3 dL_law_1113 ?_
  refine wp_callVI (ci := 9) (As := [.int (xs (i + 1).toNatClampNeg), .int (xs (i + 2).toNatClampNeg), .int (xs (i + 3).toNatClampNeg)]) (rest := []) (h1 := h1) ok (m_X9_reign q1 (Nat.le_refl _)) my_X9_reign lk782 pd_X9_reign (Nat.le_of_ble_eq_true rfl) rfl rfl (by decide) (sh_of hsh S0_0) rfl rfl rfl dL_law_1114 (fun e1 => ?_)
  have g1 := e1.trans hsh
  refine wp_aload_n (v := 188) ok dL_law_1117 rfl ?_
  refine wp_aload_n (v := (SB + 400)) ok dL_law_1118 rfl ?_
  refine wp_iload (v := i) ok dL_law_1119 rfl ?_
  refine wp_iconst (v := 1) ok dL_law_1121 (by decide) ?_
  refine wp_iadd ok dL_law_1122 ?_
  refine wp_sld ok scx hv1 dL_law_1123 ?_
  refine wp_aload_n (v := (SB + 400)) ok dL_law_1124 rfl ?_
  refine wp_iload (v := i) ok dL_law_1125 rfl ?_
  refine wp_iconst (v := 2) ok dL_law_1127 (by decide) ?_
  refine wp_iadd ok dL_law_1128 ?_
  refine wp_sld ok scx hv2 dL_law_1129 ?_
  refine wp_aload_n (v := (SB + 400)) ok dL_law_1130 rfl ?_
  refine wp_iload (v := i) ok dL_law_1131 rfl ?_
  refine wp_iconst (v := 3) ok dL_law_1133 (by decide) ?_
  refine wp_iadd ok dL_law_1134 ?_
  refine wp_sld ok scx hv3 dL_law_1135 ?_
  refine wp_callVI (ci := 10) (As := [.int (xs (i + 1).toNatClampNeg), .int (xs (i + 2).toNatClampNeg), .int (xs (i + 3).toNatClampNeg)]) (rest := [.int v]) (h1 := h2) ok (m_X10_reign q2 (Nat.le_refl _)) my_X10_reign lk1488 pd_X10_reign (Nat.le_of_ble_eq_true rfl) rfl rfl (by decide) (sh_of g1 S0_188) rfl rfl rfl dL_law_1136 (fun e2 => ?_)
  have g2 := e2.trans g1
  refine wp_icmp_eq (tgt := 1795) ok dL_law_1139 (by decide) (fun _ => ?_) (fun q => absurd rfl q)
  exact kk _ q3
set_option maxHeartbeats 4000000 in
theorem law_melts {x : Cx} {c n Ln : Nat} {h : HP} {i : Int32} {xs : Nat → Int32} {Inv Jnv : HP → Prop} (ok : Okx (cs x c n) code RL 8 2048) (ok2 : Okx (cs x (c + 1) (n + 6)) code RL 8 2048) (scx : ScX x Ln xs) (thx : ThX x) (hfl : (cxl x).stackTraces = false) (hv1 : vp_in (i + 1) Ln) (hv2 : vp_in (i + 2) Ln) (hv3 : vp_in (i + 3) Ln) (hv4 : vp_in (i + 4) Ln) (sh : ∀ h, Inv h → h.1 = S0) (op : Op_melts Inv Jnv) (hI : Inv h) (kk : ∀ h', Jnv h' → wp (cs x c n) 1795 [(4, .int i), (3, .ref 219), (2, .ref 188), (1, .ref 0), (0, .ref (SB + 400))] [] h') (kk2 : ∀ h', Jnv h' → wp (cs x (c + 1) (n + 6)) 1795 [(4, .int i), (3, .ref 219), (2, .ref 188), (1, .ref 0), (0, .ref (SB + 400))] [] h') : wp (cs x c n) 1144 [(4, .int i), (3, .ref 219), (2, .ref 188), (1, .ref 0), (0, .ref (SB + 400))] [] h := by
  obtain ⟨v, h1, h2, q1, q2, q3⟩ := op h (xs (i + 1).toNatClampNeg) (xs (i + 2).toNatClampNeg) (xs (i + 3).toNatClampNeg) hI
  have hsh := sh h hI
  refine wp_aload_n (v := 0) ok dL_law_1144 rfl ?_
  refine wp_aload_n (v := (SB + 400)) ok dL_law_1145 rfl ?_
  refine wp_iload (v := i) ok dL_law_1146 rfl ?_
  refine wp_iconst (v := 1) ok dL_law_1148 (by decide) ?_
  refine wp_iadd ok dL_law_1149 ?_
  refine wp_sld ok scx hv1 dL_law_1150 ?_
  refine wp_aload_n (v := (SB + 400)) ok dL_law_1151 rfl ?_
  refine wp_iload (v := i) ok dL_law_1152 rfl ?_
  refine wp_iconst (v := 2) ok dL_law_1154 (by decide) ?_
  refine wp_iadd ok dL_law_1155 ?_
  refine wp_sld ok scx hv2 dL_law_1156 ?_
  refine wp_aload_n (v := (SB + 400)) ok dL_law_1157 rfl ?_
  refine wp_iload (v := i) ok dL_law_1158 rfl ?_
  refine wp_iconst (v := 3) ok dL_law_1160 (by decide) ?_
  refine wp_iadd ok dL_law_1161 ?_
  refine wp_sld ok scx hv3 dL_law_1162 ?_
  refine wp_callVI (ci := 9) (As := [.int (xs (i + 1).toNatClampNeg), .int (xs (i + 2).toNatClampNeg), .int (xs (i + 3).toNatClampNeg)]) (rest := []) (h1 := h1) ok (m_X9_melts q1 (Nat.le_refl _)) my_X9_melts lk791 pd_X9_melts (Nat.le_of_ble_eq_true rfl) rfl rfl (by decide) (sh_of hsh S0_0) rfl rfl rfl dL_law_1163 (fun e1 => ?_)
  have g1 := e1.trans hsh
  refine wp_aload_n (v := 188) ok dL_law_1166 rfl ?_
  refine wp_aload_n (v := (SB + 400)) ok dL_law_1167 rfl ?_
  refine wp_iload (v := i) ok dL_law_1168 rfl ?_
  refine wp_iconst (v := 1) ok dL_law_1170 (by decide) ?_
  refine wp_iadd ok dL_law_1171 ?_
  refine wp_sld ok scx hv1 dL_law_1172 ?_
  refine wp_aload_n (v := (SB + 400)) ok dL_law_1173 rfl ?_
  refine wp_iload (v := i) ok dL_law_1174 rfl ?_
  refine wp_iconst (v := 2) ok dL_law_1176 (by decide) ?_
  refine wp_iadd ok dL_law_1177 ?_
  refine wp_sld ok scx hv2 dL_law_1178 ?_
  refine wp_aload_n (v := (SB + 400)) ok dL_law_1179 rfl ?_
  refine wp_iload (v := i) ok dL_law_1180 rfl ?_
  refine wp_iconst (v := 3) ok dL_law_1182 (by decide) ?_
  refine wp_iadd ok dL_law_1183 ?_
  refine wp_sld ok scx hv3 dL_law_1184 ?_
  refine wp_callVI (ci := 10) (As := [.int (xs (i + 1).toNatClampNeg), .int (xs (i + 2).toNatClampNeg), .int (xs (i + 3).toNatClampNeg)]) (rest := [.int v]) (h1 := h2) ok (m_X10_melts q2 (Nat.le_refl _)) my_X10_melts lk1493 pd_X10_melts (Nat.le_of_ble_eq_true rfl) rfl rfl (by decide) (sh_of g1 S0_188) rfl rfl rfl dL_law_1185 (fun e2 => ?_)
  have g2 := e2.trans g1
  refine wp_icmp_eq (tgt := 1795) ok dL_law_1188 (by decide) (fun _ => ?_) (fun q => absurd rfl q)
  exact kk _ q3
set_option maxHeartbeats 4000000 in
theorem law_when {x : Cx} {c n Ln : Nat} {h : HP} {i : Int32} {xs : Nat → Int32} {Inv Jnv : HP → Prop} (ok : Okx (cs x c n) code RL 8 2048) (ok2 : Okx (cs x (c + 1) (n + 6)) code RL 8 2048) (scx : ScX x Ln xs) (thx : ThX x) (hfl : (cxl x).stackTraces = false) (hv1 : vp_in (i + 1) Ln) (hv2 : vp_in (i + 2) Ln) (hv3 : vp_in (i + 3) Ln) (hv4 : vp_in (i + 4) Ln) (sh : ∀ h, Inv h → h.1 = S0) (op : Op_when Inv Jnv) (hI : Inv h) (kk : ∀ h', Jnv h' → wp (cs x c n) 1795 [(4, .int i), (3, .ref 219), (2, .ref 188), (1, .ref 0), (0, .ref (SB + 400))] [] h') (kk2 : ∀ h', Jnv h' → wp (cs x (c + 1) (n + 6)) 1795 [(4, .int i), (3, .ref 219), (2, .ref 188), (1, .ref 0), (0, .ref (SB + 400))] [] h') : wp (cs x c n) 1193 [(4, .int i), (3, .ref 219), (2, .ref 188), (1, .ref 0), (0, .ref (SB + 400))] [] h := by
  obtain ⟨v, h1, h2, q1, q2, q3⟩ := op h (xs (i + 1).toNatClampNeg) (xs (i + 2).toNatClampNeg) hI
  have hsh := sh h hI
  refine wp_aload_n (v := 0) ok dL_law_1193 rfl ?_
  refine wp_aload_n (v := (SB + 400)) ok dL_law_1194 rfl ?_
  refine wp_iload (v := i) ok dL_law_1195 rfl ?_
  refine wp_iconst (v := 1) ok dL_law_1197 (by decide) ?_
  refine wp_iadd ok dL_law_1198 ?_
  refine wp_sld ok scx hv1 dL_law_1199 ?_
  refine wp_aload_n (v := (SB + 400)) ok dL_law_1200 rfl ?_
  refine wp_iload (v := i) ok dL_law_1201 rfl ?_
  refine wp_iconst (v := 2) ok dL_law_1203 (by decide) ?_
  refine wp_iadd ok dL_law_1204 ?_
  refine wp_sld ok scx hv2 dL_law_1205 ?_
  refine wp_callVI (ci := 9) (As := [.int (xs (i + 1).toNatClampNeg), .int (xs (i + 2).toNatClampNeg)]) (rest := []) (h1 := h1) ok (m_X9_when q1 (Nat.le_refl _)) my_X9_when lk795 pd_X9_when (Nat.le_of_ble_eq_true rfl) rfl rfl (by decide) (sh_of hsh S0_0) rfl rfl rfl dL_law_1206 (fun e1 => ?_)
  have g1 := e1.trans hsh
  refine wp_aload_n (v := 188) ok dL_law_1209 rfl ?_
  refine wp_aload_n (v := (SB + 400)) ok dL_law_1210 rfl ?_
  refine wp_iload (v := i) ok dL_law_1211 rfl ?_
  refine wp_iconst (v := 1) ok dL_law_1213 (by decide) ?_
  refine wp_iadd ok dL_law_1214 ?_
  refine wp_sld ok scx hv1 dL_law_1215 ?_
  refine wp_aload_n (v := (SB + 400)) ok dL_law_1216 rfl ?_
  refine wp_iload (v := i) ok dL_law_1217 rfl ?_
  refine wp_iconst (v := 2) ok dL_law_1219 (by decide) ?_
  refine wp_iadd ok dL_law_1220 ?_
  refine wp_sld ok scx hv2 dL_law_1221 ?_
  refine wp_callVI (ci := 10) (As := [.int (xs (i + 1).toNatClampNeg), .int (xs (i + 2).toNatClampNeg)]) (rest := [.int v]) (h1 := h2) ok (m_X10_when q2 (Nat.le_refl _)) my_X10_when lk1497 pd_X10_when (Nat.le_of_ble_eq_true rfl) rfl rfl (by decide) (sh_of g1 S0_188) rfl rfl rfl dL_law_1222 (fun e2 => ?_)
  have g2 := e2.trans g1
  refine wp_icmp_eq (tgt := 1795) ok dL_law_1225 (by decide) (fun _ => ?_) (fun q => absurd rfl q)
  exact kk _ q3
set_option maxHeartbeats 4000000 in
theorem law_rises {x : Cx} {c n Ln : Nat} {h : HP} {i : Int32} {xs : Nat → Int32} {Inv Jnv : HP → Prop} (ok : Okx (cs x c n) code RL 8 2048) (ok2 : Okx (cs x (c + 1) (n + 6)) code RL 8 2048) (scx : ScX x Ln xs) (thx : ThX x) (hfl : (cxl x).stackTraces = false) (hv1 : vp_in (i + 1) Ln) (hv2 : vp_in (i + 2) Ln) (hv3 : vp_in (i + 3) Ln) (hv4 : vp_in (i + 4) Ln) (sh : ∀ h, Inv h → h.1 = S0) (op : Op_rises Inv Jnv) (hI : Inv h) (kk : ∀ h', Jnv h' → wp (cs x c n) 1795 [(4, .int i), (3, .ref 219), (2, .ref 188), (1, .ref 0), (0, .ref (SB + 400))] [] h') (kk2 : ∀ h', Jnv h' → wp (cs x (c + 1) (n + 6)) 1795 [(4, .int i), (3, .ref 219), (2, .ref 188), (1, .ref 0), (0, .ref (SB + 400))] [] h') : wp (cs x c n) 1230 [(4, .int i), (3, .ref 219), (2, .ref 188), (1, .ref 0), (0, .ref (SB + 400))] [] h := by
  obtain ⟨v, h1, h2, q1, q2, q3⟩ := op h (xs (i + 1).toNatClampNeg) hI
  have hsh := sh h hI
  refine wp_aload_n (v := 0) ok dL_law_1230 rfl ?_
  refine wp_aload_n (v := (SB + 400)) ok dL_law_1231 rfl ?_
  refine wp_iload (v := i) ok dL_law_1232 rfl ?_
  refine wp_iconst (v := 1) ok dL_law_1234 (by decide) ?_
  refine wp_iadd ok dL_law_1235 ?_
  refine wp_sld ok scx hv1 dL_law_1236 ?_
  refine wp_callVI (ci := 9) (As := [.int (xs (i + 1).toNatClampNeg)]) (rest := []) (h1 := h1) ok (m_X9_rises q1 (Nat.le_refl _)) my_X9_rises lk799 pd_X9_rises (Nat.le_of_ble_eq_true rfl) rfl rfl (by decide) (sh_of hsh S0_0) rfl rfl rfl dL_law_1237 (fun e1 => ?_)
  have g1 := e1.trans hsh
  refine wp_aload_n (v := 188) ok dL_law_1240 rfl ?_
  refine wp_aload_n (v := (SB + 400)) ok dL_law_1241 rfl ?_
  refine wp_iload (v := i) ok dL_law_1242 rfl ?_
  refine wp_iconst (v := 1) ok dL_law_1244 (by decide) ?_
  refine wp_iadd ok dL_law_1245 ?_
  refine wp_sld ok scx hv1 dL_law_1246 ?_
  refine wp_callVI (ci := 10) (As := [.int (xs (i + 1).toNatClampNeg)]) (rest := [.int v]) (h1 := h2) ok (m_X10_rises q2 (Nat.le_refl _)) my_X10_rises lk1501 pd_X10_rises (Nat.le_of_ble_eq_true rfl) rfl rfl (by decide) (sh_of g1 S0_188) rfl rfl rfl dL_law_1247 (fun e2 => ?_)
  have g2 := e2.trans g1
  refine wp_icmp_eq (tgt := 1795) ok dL_law_1250 (by decide) (fun _ => ?_) (fun q => absurd rfl q)
  exact kk _ q3
set_option maxHeartbeats 4000000 in
theorem law_caravan {x : Cx} {c n Ln : Nat} {h : HP} {i : Int32} {xs : Nat → Int32} {Inv Jnv : HP → Prop} (ok : Okx (cs x c n) code RL 8 2048) (ok2 : Okx (cs x (c + 1) (n + 6)) code RL 8 2048) (scx : ScX x Ln xs) (thx : ThX x) (hfl : (cxl x).stackTraces = false) (hv1 : vp_in (i + 1) Ln) (hv2 : vp_in (i + 2) Ln) (hv3 : vp_in (i + 3) Ln) (hv4 : vp_in (i + 4) Ln) (sh : ∀ h, Inv h → h.1 = S0) (op : Op_caravan Inv Jnv) (hI : Inv h) (kk : ∀ h', Jnv h' → wp (cs x c n) 1795 [(4, .int i), (3, .ref 219), (2, .ref 188), (1, .ref 0), (0, .ref (SB + 400))] [] h') (kk2 : ∀ h', Jnv h' → wp (cs x (c + 1) (n + 6)) 1795 [(4, .int i), (3, .ref 219), (2, .ref 188), (1, .ref 0), (0, .ref (SB + 400))] [] h') : wp (cs x c n) 1255 [(4, .int i), (3, .ref 219), (2, .ref 188), (1, .ref 0), (0, .ref (SB + 400))] [] h := by
  obtain ⟨v, h1, h2, q1, q2, q3⟩ := op h (xs (i + 1).toNatClampNeg) hI
  have hsh := sh h hI
  refine wp_aload_n (v := 0) ok dL_law_1255 rfl ?_
  refine wp_aload_n (v := (SB + 400)) ok dL_law_1256 rfl ?_
  refine wp_iload (v := i) ok dL_law_1257 rfl ?_
  refine wp_iconst (v := 1) ok dL_law_1259 (by decide) ?_
  refine wp_iadd ok dL_law_1260 ?_
  refine wp_sld ok scx hv1 dL_law_1261 ?_
  refine wp_callVI (ci := 9) (As := [.int (xs (i + 1).toNatClampNeg)]) (rest := []) (h1 := h1) ok (m_X9_caravan q1 (Nat.le_refl _)) my_X9_caravan lk803 pd_X9_caravan (Nat.le_of_ble_eq_true rfl) rfl rfl (by decide) (sh_of hsh S0_0) rfl rfl rfl dL_law_1262 (fun e1 => ?_)
  have g1 := e1.trans hsh
  refine wp_aload_n (v := 188) ok dL_law_1265 rfl ?_
  refine wp_aload_n (v := (SB + 400)) ok dL_law_1266 rfl ?_
  refine wp_iload (v := i) ok dL_law_1267 rfl ?_
  refine wp_iconst (v := 1) ok dL_law_1269 (by decide) ?_
  refine wp_iadd ok dL_law_1270 ?_
  refine wp_sld ok scx hv1 dL_law_1271 ?_
  refine wp_callVI (ci := 10) (As := [.int (xs (i + 1).toNatClampNeg)]) (rest := [.int v]) (h1 := h2) ok (m_X10_caravan q2 (Nat.le_refl _)) my_X10_caravan lk1505 pd_X10_caravan (Nat.le_of_ble_eq_true rfl) rfl rfl (by decide) (sh_of g1 S0_188) rfl rfl rfl dL_law_1272 (fun e2 => ?_)
  have g2 := e2.trans g1
  refine wp_icmp_eq (tgt := 1795) ok dL_law_1275 (by decide) (fun _ => ?_) (fun q => absurd rfl q)
  exact kk _ q3
set_option maxHeartbeats 4000000 in
theorem law_strings {x : Cx} {c n Ln : Nat} {h : HP} {i : Int32} {xs : Nat → Int32} {Inv Jnv : HP → Prop} (ok : Okx (cs x c n) code RL 8 2048) (ok2 : Okx (cs x (c + 1) (n + 6)) code RL 8 2048) (scx : ScX x Ln xs) (thx : ThX x) (hfl : (cxl x).stackTraces = false) (hv1 : vp_in (i + 1) Ln) (hv2 : vp_in (i + 2) Ln) (hv3 : vp_in (i + 3) Ln) (hv4 : vp_in (i + 4) Ln) (sh : ∀ h, Inv h → h.1 = S0) (op : Op_strings Inv Jnv) (hI : Inv h) (kk : ∀ h', Jnv h' → wp (cs x c n) 1795 [(4, .int i), (3, .ref 219), (2, .ref 188), (1, .ref 0), (0, .ref (SB + 400))] [] h') (kk2 : ∀ h', Jnv h' → wp (cs x (c + 1) (n + 6)) 1795 [(4, .int i), (3, .ref 219), (2, .ref 188), (1, .ref 0), (0, .ref (SB + 400))] [] h') : wp (cs x c n) 1280 [(4, .int i), (3, .ref 219), (2, .ref 188), (1, .ref 0), (0, .ref (SB + 400))] [] h := by
  obtain ⟨v, h1, h2, q1, q2, q3⟩ := op h (xs (i + 1).toNatClampNeg) (xs (i + 2).toNatClampNeg) hI
  have hsh := sh h hI
  refine wp_aload_n (v := 0) ok dL_law_1280 rfl ?_
  refine wp_aload_n (v := (SB + 400)) ok dL_law_1281 rfl ?_
  refine wp_iload (v := i) ok dL_law_1282 rfl ?_
  refine wp_iconst (v := 1) ok dL_law_1284 (by decide) ?_
  refine wp_iadd ok dL_law_1285 ?_
  refine wp_sld ok scx hv1 dL_law_1286 ?_
  refine wp_aload_n (v := (SB + 400)) ok dL_law_1287 rfl ?_
  refine wp_iload (v := i) ok dL_law_1288 rfl ?_
  refine wp_iconst (v := 2) ok dL_law_1290 (by decide) ?_
  refine wp_iadd ok dL_law_1291 ?_
  refine wp_sld ok scx hv2 dL_law_1292 ?_
  refine wp_callVI (ci := 9) (As := [.int (xs (i + 1).toNatClampNeg), .int (xs (i + 2).toNatClampNeg)]) (rest := []) (h1 := h1) ok (m_X9_strings q1 (Nat.le_refl _)) my_X9_strings lk823 pd_X9_strings (Nat.le_of_ble_eq_true rfl) rfl rfl (by decide) (sh_of hsh S0_0) rfl rfl rfl dL_law_1293 (fun e1 => ?_)
  have g1 := e1.trans hsh
  refine wp_aload_n (v := 188) ok dL_law_1296 rfl ?_
  refine wp_aload_n (v := (SB + 400)) ok dL_law_1297 rfl ?_
  refine wp_iload (v := i) ok dL_law_1298 rfl ?_
  refine wp_iconst (v := 1) ok dL_law_1300 (by decide) ?_
  refine wp_iadd ok dL_law_1301 ?_
  refine wp_sld ok scx hv1 dL_law_1302 ?_
  refine wp_aload_n (v := (SB + 400)) ok dL_law_1303 rfl ?_
  refine wp_iload (v := i) ok dL_law_1304 rfl ?_
  refine wp_iconst (v := 2) ok dL_law_1306 (by decide) ?_
  refine wp_iadd ok dL_law_1307 ?_
  refine wp_sld ok scx hv2 dL_law_1308 ?_
  refine wp_callVI (ci := 10) (As := [.int (xs (i + 1).toNatClampNeg), .int (xs (i + 2).toNatClampNeg)]) (rest := [.int v]) (h1 := h2) ok (m_X10_strings q2 (Nat.le_refl _)) my_X10_strings lk1516 pd_X10_strings (Nat.le_of_ble_eq_true rfl) rfl rfl (by decide) (sh_of g1 S0_188) rfl rfl rfl dL_law_1309 (fun e2 => ?_)
  have g2 := e2.trans g1
  refine wp_icmp_eq (tgt := 1795) ok dL_law_1312 (by decide) (fun _ => ?_) (fun q => absurd rfl q)
  exact kk _ q3
set_option maxHeartbeats 4000000 in
theorem law_counts {x : Cx} {c n Ln : Nat} {h : HP} {i : Int32} {xs : Nat → Int32} {Inv Jnv : HP → Prop} (ok : Okx (cs x c n) code RL 8 2048) (ok2 : Okx (cs x (c + 1) (n + 6)) code RL 8 2048) (scx : ScX x Ln xs) (thx : ThX x) (hfl : (cxl x).stackTraces = false) (hv1 : vp_in (i + 1) Ln) (hv2 : vp_in (i + 2) Ln) (hv3 : vp_in (i + 3) Ln) (hv4 : vp_in (i + 4) Ln) (sh : ∀ h, Inv h → h.1 = S0) (op : Op_counts Inv Jnv) (hI : Inv h) (kk : ∀ h', Jnv h' → wp (cs x c n) 1795 [(4, .int i), (3, .ref 219), (2, .ref 188), (1, .ref 0), (0, .ref (SB + 400))] [] h') (kk2 : ∀ h', Jnv h' → wp (cs x (c + 1) (n + 6)) 1795 [(4, .int i), (3, .ref 219), (2, .ref 188), (1, .ref 0), (0, .ref (SB + 400))] [] h') : wp (cs x c n) 1317 [(4, .int i), (3, .ref 219), (2, .ref 188), (1, .ref 0), (0, .ref (SB + 400))] [] h := by
  obtain ⟨v, h1, h2, q1, q2, q3⟩ := op h (xs (i + 1).toNatClampNeg) (xs (i + 2).toNatClampNeg) hI
  have hsh := sh h hI
  refine wp_aload_n (v := 0) ok dL_law_1317 rfl ?_
  refine wp_aload_n (v := (SB + 400)) ok dL_law_1318 rfl ?_
  refine wp_iload (v := i) ok dL_law_1319 rfl ?_
  refine wp_iconst (v := 1) ok dL_law_1321 (by decide) ?_
  refine wp_iadd ok dL_law_1322 ?_
  refine wp_sld ok scx hv1 dL_law_1323 ?_
  refine wp_aload_n (v := (SB + 400)) ok dL_law_1324 rfl ?_
  refine wp_iload (v := i) ok dL_law_1325 rfl ?_
  refine wp_iconst (v := 2) ok dL_law_1327 (by decide) ?_
  refine wp_iadd ok dL_law_1328 ?_
  refine wp_sld ok scx hv2 dL_law_1329 ?_
  refine wp_callVI (ci := 9) (As := [.int (xs (i + 1).toNatClampNeg), .int (xs (i + 2).toNatClampNeg)]) (rest := []) (h1 := h1) ok (m_X9_counts q1 (Nat.le_refl _)) my_X9_counts lk830 pd_X9_counts (Nat.le_of_ble_eq_true rfl) rfl rfl (by decide) (sh_of hsh S0_0) rfl rfl rfl dL_law_1330 (fun e1 => ?_)
  have g1 := e1.trans hsh
  refine wp_aload_n (v := 188) ok dL_law_1333 rfl ?_
  refine wp_aload_n (v := (SB + 400)) ok dL_law_1334 rfl ?_
  refine wp_iload (v := i) ok dL_law_1335 rfl ?_
  refine wp_iconst (v := 1) ok dL_law_1337 (by decide) ?_
  refine wp_iadd ok dL_law_1338 ?_
  refine wp_sld ok scx hv1 dL_law_1339 ?_
  refine wp_aload_n (v := (SB + 400)) ok dL_law_1340 rfl ?_
  refine wp_iload (v := i) ok dL_law_1341 rfl ?_
  refine wp_iconst (v := 2) ok dL_law_1343 (by decide) ?_
  refine wp_iadd ok dL_law_1344 ?_
  refine wp_sld ok scx hv2 dL_law_1345 ?_
  refine wp_callVI (ci := 10) (As := [.int (xs (i + 1).toNatClampNeg), .int (xs (i + 2).toNatClampNeg)]) (rest := [.int v]) (h1 := h2) ok (m_X10_counts q2 (Nat.le_refl _)) my_X10_counts lk1520 pd_X10_counts (Nat.le_of_ble_eq_true rfl) rfl rfl (by decide) (sh_of g1 S0_188) rfl rfl rfl dL_law_1346 (fun e2 => ?_)
  have g2 := e2.trans g1
  refine wp_icmp_eq (tgt := 1795) ok dL_law_1349 (by decide) (fun _ => ?_) (fun q => absurd rfl q)
  exact kk _ q3
set_option maxHeartbeats 4000000 in
theorem law_pays {x : Cx} {c n Ln : Nat} {h : HP} {i : Int32} {xs : Nat → Int32} {Inv Jnv : HP → Prop} (ok : Okx (cs x c n) code RL 8 2048) (ok2 : Okx (cs x (c + 1) (n + 6)) code RL 8 2048) (scx : ScX x Ln xs) (thx : ThX x) (hfl : (cxl x).stackTraces = false) (hv1 : vp_in (i + 1) Ln) (hv2 : vp_in (i + 2) Ln) (hv3 : vp_in (i + 3) Ln) (hv4 : vp_in (i + 4) Ln) (sh : ∀ h, Inv h → h.1 = S0) (op : Op_pays Inv Jnv) (hI : Inv h) (kk : ∀ h', Jnv h' → wp (cs x c n) 1795 [(4, .int i), (3, .ref 219), (2, .ref 188), (1, .ref 0), (0, .ref (SB + 400))] [] h') (kk2 : ∀ h', Jnv h' → wp (cs x (c + 1) (n + 6)) 1795 [(4, .int i), (3, .ref 219), (2, .ref 188), (1, .ref 0), (0, .ref (SB + 400))] [] h') : wp (cs x c n) 1354 [(4, .int i), (3, .ref 219), (2, .ref 188), (1, .ref 0), (0, .ref (SB + 400))] [] h := by
  obtain ⟨v, h1, h2, q1, q2, q3⟩ := op h (xs (i + 1).toNatClampNeg) hI
  have hsh := sh h hI
  refine wp_aload_n (v := 0) ok dL_law_1354 rfl ?_
  refine wp_aload_n (v := (SB + 400)) ok dL_law_1355 rfl ?_
  refine wp_iload (v := i) ok dL_law_1356 rfl ?_
  refine wp_iconst (v := 1) ok dL_law_1358 (by decide) ?_
  refine wp_iadd ok dL_law_1359 ?_
  refine wp_sld ok scx hv1 dL_law_1360 ?_
  refine wp_callVI (ci := 9) (As := [.int (xs (i + 1).toNatClampNeg)]) (rest := []) (h1 := h1) ok (m_X9_pays q1 (Nat.le_refl _)) my_X9_pays lk837 pd_X9_pays (Nat.le_of_ble_eq_true rfl) rfl rfl (by decide) (sh_of hsh S0_0) rfl rfl rfl dL_law_1361 (fun e1 => ?_)
  have g1 := e1.trans hsh
  refine wp_aload_n (v := 188) ok dL_law_1364 rfl ?_
  refine wp_aload_n (v := (SB + 400)) ok dL_law_1365 rfl ?_
  refine wp_iload (v := i) ok dL_law_1366 rfl ?_
  refine wp_iconst (v := 1) ok dL_law_1368 (by decide) ?_
  refine wp_iadd ok dL_law_1369 ?_
  refine wp_sld ok scx hv1 dL_law_1370 ?_
  refine wp_callVI (ci := 10) (As := [.int (xs (i + 1).toNatClampNeg)]) (rest := [.int v]) (h1 := h2) ok (m_X10_pays q2 (Nat.le_refl _)) my_X10_pays lk1524 pd_X10_pays (Nat.le_of_ble_eq_true rfl) rfl rfl (by decide) (sh_of g1 S0_188) rfl rfl rfl dL_law_1371 (fun e2 => ?_)
  have g2 := e2.trans g1
  refine wp_icmp_eq (tgt := 1795) ok dL_law_1374 (by decide) (fun _ => ?_) (fun q => absurd rfl q)
  exact kk _ q3
set_option maxHeartbeats 4000000 in
theorem law_bearers {x : Cx} {c n Ln : Nat} {h : HP} {i : Int32} {xs : Nat → Int32} {Inv Jnv : HP → Prop} (ok : Okx (cs x c n) code RL 8 2048) (ok2 : Okx (cs x (c + 1) (n + 6)) code RL 8 2048) (scx : ScX x Ln xs) (thx : ThX x) (hfl : (cxl x).stackTraces = false) (hv1 : vp_in (i + 1) Ln) (hv2 : vp_in (i + 2) Ln) (hv3 : vp_in (i + 3) Ln) (hv4 : vp_in (i + 4) Ln) (sh : ∀ h, Inv h → h.1 = S0) (op : Op_bearers Inv Jnv) (hI : Inv h) (kk : ∀ h', Jnv h' → wp (cs x c n) 1795 [(4, .int i), (3, .ref 219), (2, .ref 188), (1, .ref 0), (0, .ref (SB + 400))] [] h') (kk2 : ∀ h', Jnv h' → wp (cs x (c + 1) (n + 6)) 1795 [(4, .int i), (3, .ref 219), (2, .ref 188), (1, .ref 0), (0, .ref (SB + 400))] [] h') : wp (cs x c n) 1379 [(4, .int i), (3, .ref 219), (2, .ref 188), (1, .ref 0), (0, .ref (SB + 400))] [] h := by
  obtain ⟨v, h1, h2, q1, q2, q3⟩ := op h (xs (i + 1).toNatClampNeg) (xs (i + 2).toNatClampNeg) hI
  have hsh := sh h hI
  refine wp_aload_n (v := 0) ok dL_law_1379 rfl ?_
  refine wp_aload_n (v := (SB + 400)) ok dL_law_1380 rfl ?_
  refine wp_iload (v := i) ok dL_law_1381 rfl ?_
  refine wp_iconst (v := 1) ok dL_law_1383 (by decide) ?_
  refine wp_iadd ok dL_law_1384 ?_
  refine wp_sld ok scx hv1 dL_law_1385 ?_
  refine wp_aload_n (v := (SB + 400)) ok dL_law_1386 rfl ?_
  refine wp_iload (v := i) ok dL_law_1387 rfl ?_
  refine wp_iconst (v := 2) ok dL_law_1389 (by decide) ?_
  refine wp_iadd ok dL_law_1390 ?_
  refine wp_sld ok scx hv2 dL_law_1391 ?_
  refine wp_callVI (ci := 9) (As := [.int (xs (i + 1).toNatClampNeg), .int (xs (i + 2).toNatClampNeg)]) (rest := []) (h1 := h1) ok (m_X9_bearers q1 (Nat.le_refl _)) my_X9_bearers lk845 pd_X9_bearers (Nat.le_of_ble_eq_true rfl) rfl rfl (by decide) (sh_of hsh S0_0) rfl rfl rfl dL_law_1392 (fun e1 => ?_)
  have g1 := e1.trans hsh
  refine wp_aload_n (v := 188) ok dL_law_1395 rfl ?_
  refine wp_aload_n (v := (SB + 400)) ok dL_law_1396 rfl ?_
  refine wp_iload (v := i) ok dL_law_1397 rfl ?_
  refine wp_iconst (v := 1) ok dL_law_1399 (by decide) ?_
  refine wp_iadd ok dL_law_1400 ?_
  refine wp_sld ok scx hv1 dL_law_1401 ?_
  refine wp_aload_n (v := (SB + 400)) ok dL_law_1402 rfl ?_
  refine wp_iload (v := i) ok dL_law_1403 rfl ?_
  refine wp_iconst (v := 2) ok dL_law_1405 (by decide) ?_
  refine wp_iadd ok dL_law_1406 ?_
  refine wp_sld ok scx hv2 dL_law_1407 ?_
  refine wp_callVI (ci := 10) (As := [.int (xs (i + 1).toNatClampNeg), .int (xs (i + 2).toNatClampNeg)]) (rest := [.int v]) (h1 := h2) ok (m_X10_bearers q2 (Nat.le_refl _)) my_X10_bearers lk1528 pd_X10_bearers (Nat.le_of_ble_eq_true rfl) rfl rfl (by decide) (sh_of g1 S0_188) rfl rfl rfl dL_law_1408 (fun e2 => ?_)
  have g2 := e2.trans g1
  refine wp_icmp_eq (tgt := 1795) ok dL_law_1411 (by decide) (fun _ => ?_) (fun q => absurd rfl q)
  exact kk _ q3
set_option maxHeartbeats 4000000 in
theorem law_left {x : Cx} {c n Ln : Nat} {h : HP} {i : Int32} {xs : Nat → Int32} {Inv Jnv : HP → Prop} (ok : Okx (cs x c n) code RL 8 2048) (ok2 : Okx (cs x (c + 1) (n + 6)) code RL 8 2048) (scx : ScX x Ln xs) (thx : ThX x) (hfl : (cxl x).stackTraces = false) (hv1 : vp_in (i + 1) Ln) (hv2 : vp_in (i + 2) Ln) (hv3 : vp_in (i + 3) Ln) (hv4 : vp_in (i + 4) Ln) (sh : ∀ h, Inv h → h.1 = S0) (op : Op_left Inv Jnv) (hI : Inv h) (kk : ∀ h', Jnv h' → wp (cs x c n) 1795 [(4, .int i), (3, .ref 219), (2, .ref 188), (1, .ref 0), (0, .ref (SB + 400))] [] h') (kk2 : ∀ h', Jnv h' → wp (cs x (c + 1) (n + 6)) 1795 [(4, .int i), (3, .ref 219), (2, .ref 188), (1, .ref 0), (0, .ref (SB + 400))] [] h') : wp (cs x c n) 1416 [(4, .int i), (3, .ref 219), (2, .ref 188), (1, .ref 0), (0, .ref (SB + 400))] [] h := by
  obtain ⟨v, h1, h2, q1, q2, q3⟩ := op h (xs (i + 1).toNatClampNeg) (xs (i + 2).toNatClampNeg) hI
  have hsh := sh h hI
  refine wp_aload_n (v := 0) ok dL_law_1416 rfl ?_
  refine wp_aload_n (v := (SB + 400)) ok dL_law_1417 rfl ?_
  refine wp_iload (v := i) ok dL_law_1418 rfl ?_
  refine wp_iconst (v := 1) ok dL_law_1420 (by decide) ?_
  refine wp_iadd ok dL_law_1421 ?_
  refine wp_sld ok scx hv1 dL_law_1422 ?_
  refine wp_aload_n (v := (SB + 400)) ok dL_law_1423 rfl ?_
  refine wp_iload (v := i) ok dL_law_1424 rfl ?_
  refine wp_iconst (v := 2) ok dL_law_1426 (by decide) ?_
  refine wp_iadd ok dL_law_1427 ?_
  refine wp_sld ok scx hv2 dL_law_1428 ?_
  refine wp_callVI (ci := 9) (As := [.int (xs (i + 1).toNatClampNeg), .int (xs (i + 2).toNatClampNeg)]) (rest := []) (h1 := h1) ok (m_X9_left q1 (Nat.le_refl _)) my_X9_left lk849 pd_X9_left (Nat.le_of_ble_eq_true rfl) rfl rfl (by decide) (sh_of hsh S0_0) rfl rfl rfl dL_law_1429 (fun e1 => ?_)
  have g1 := e1.trans hsh
  refine wp_aload_n (v := 188) ok dL_law_1432 rfl ?_
  refine wp_aload_n (v := (SB + 400)) ok dL_law_1433 rfl ?_
  refine wp_iload (v := i) ok dL_law_1434 rfl ?_
  refine wp_iconst (v := 1) ok dL_law_1436 (by decide) ?_
  refine wp_iadd ok dL_law_1437 ?_
  refine wp_sld ok scx hv1 dL_law_1438 ?_
  refine wp_aload_n (v := (SB + 400)) ok dL_law_1439 rfl ?_
  refine wp_iload (v := i) ok dL_law_1440 rfl ?_
  refine wp_iconst (v := 2) ok dL_law_1442 (by decide) ?_
  refine wp_iadd ok dL_law_1443 ?_
  refine wp_sld ok scx hv2 dL_law_1444 ?_
  refine wp_callVI (ci := 10) (As := [.int (xs (i + 1).toNatClampNeg), .int (xs (i + 2).toNatClampNeg)]) (rest := [.int v]) (h1 := h2) ok (m_X10_left q2 (Nat.le_refl _)) my_X10_left lk1532 pd_X10_left (Nat.le_of_ble_eq_true rfl) rfl rfl (by decide) (sh_of g1 S0_188) rfl rfl rfl dL_law_1445 (fun e2 => ?_)
  have g2 := e2.trans g1
  refine wp_icmp_eq (tgt := 1795) ok dL_law_1448 (by decide) (fun _ => ?_) (fun q => absurd rfl q)
  exact kk _ q3
set_option maxHeartbeats 4000000 in
theorem law_forget {x : Cx} {c n Ln : Nat} {h : HP} {i : Int32} {xs : Nat → Int32} {Inv Jnv : HP → Prop} (ok : Okx (cs x c n) code RL 8 2048) (ok2 : Okx (cs x (c + 1) (n + 6)) code RL 8 2048) (scx : ScX x Ln xs) (thx : ThX x) (hfl : (cxl x).stackTraces = false) (hv1 : vp_in (i + 1) Ln) (hv2 : vp_in (i + 2) Ln) (hv3 : vp_in (i + 3) Ln) (hv4 : vp_in (i + 4) Ln) (sh : ∀ h, Inv h → h.1 = S0) (op : Op_forget Inv Jnv) (hI : Inv h) (kk : ∀ h', Jnv h' → wp (cs x c n) 1795 [(4, .int i), (3, .ref 219), (2, .ref 188), (1, .ref 0), (0, .ref (SB + 400))] [] h') (kk2 : ∀ h', Jnv h' → wp (cs x (c + 1) (n + 6)) 1795 [(4, .int i), (3, .ref 219), (2, .ref 188), (1, .ref 0), (0, .ref (SB + 400))] [] h') : wp (cs x c n) 1453 [(4, .int i), (3, .ref 219), (2, .ref 188), (1, .ref 0), (0, .ref (SB + 400))] [] h := by
  obtain ⟨v, h1, h2, q1, q2, q3⟩ := op h hI
  have hsh := sh h hI
  refine wp_aload_n (v := 0) ok dL_law_1453 rfl ?_
  refine wp_callVI (ci := 9) (As := []) (rest := []) (h1 := h1) ok (m_X9_forget q1 (Nat.le_refl _)) my_X9_forget lk857 pd_X9_forget (Nat.le_of_ble_eq_true rfl) rfl rfl (by decide) (sh_of hsh S0_0) rfl rfl rfl dL_law_1454 (fun e1 => ?_)
  have g1 := e1.trans hsh
  refine wp_aload_n (v := 188) ok dL_law_1457 rfl ?_
  refine wp_callVI (ci := 10) (As := []) (rest := [.int v]) (h1 := h2) ok (m_X10_forget q2 (Nat.le_refl _)) my_X10_forget lk1538 pd_X10_forget (Nat.le_of_ble_eq_true rfl) rfl rfl (by decide) (sh_of g1 S0_188) rfl rfl rfl dL_law_1458 (fun e2 => ?_)
  have g2 := e2.trans g1
  refine wp_icmp_eq (tgt := 1795) ok dL_law_1461 (by decide) (fun _ => ?_) (fun q => absurd rfl q)
  exact kk _ q3
set_option maxHeartbeats 4000000 in
theorem law_fits {x : Cx} {c n Ln : Nat} {h : HP} {i : Int32} {xs : Nat → Int32} {Inv Jnv : HP → Prop} (ok : Okx (cs x c n) code RL 8 2048) (ok2 : Okx (cs x (c + 1) (n + 6)) code RL 8 2048) (scx : ScX x Ln xs) (thx : ThX x) (hfl : (cxl x).stackTraces = false) (hv1 : vp_in (i + 1) Ln) (hv2 : vp_in (i + 2) Ln) (hv3 : vp_in (i + 3) Ln) (hv4 : vp_in (i + 4) Ln) (sh : ∀ h, Inv h → h.1 = S0) (op : Op_fits Inv Jnv) (hI : Inv h) (kk : ∀ h', Jnv h' → wp (cs x c n) 1795 [(4, .int i), (3, .ref 219), (2, .ref 188), (1, .ref 0), (0, .ref (SB + 400))] [] h') (kk2 : ∀ h', Jnv h' → wp (cs x (c + 1) (n + 6)) 1795 [(4, .int i), (3, .ref 219), (2, .ref 188), (1, .ref 0), (0, .ref (SB + 400))] [] h') : wp (cs x c n) 1466 [(4, .int i), (3, .ref 219), (2, .ref 188), (1, .ref 0), (0, .ref (SB + 400))] [] h := by
  obtain ⟨v, h1, h2, q1, q2, q3⟩ := op h hI
  have hsh := sh h hI
  refine wp_aload_n (v := 0) ok dL_law_1466 rfl ?_
  refine wp_callVI (ci := 9) (As := []) (rest := []) (h1 := h1) ok (m_X9_fits q1 (Nat.le_refl _)) my_X9_fits lk861 pd_X9_fits (Nat.le_of_ble_eq_true rfl) rfl rfl (by decide) (sh_of hsh S0_0) rfl rfl rfl dL_law_1467 (fun e1 => ?_)
  have g1 := e1.trans hsh
  refine wp_aload_n (v := 188) ok dL_law_1470 rfl ?_
  refine wp_callVI (ci := 10) (As := []) (rest := [.int v]) (h1 := h2) ok (m_X10_fits q2 (Nat.le_refl _)) my_X10_fits lk1542 pd_X10_fits (Nat.le_of_ble_eq_true rfl) rfl rfl (by decide) (sh_of g1 S0_188) rfl rfl rfl dL_law_1471 (fun e2 => ?_)
  have g2 := e2.trans g1
  refine wp_icmp_eq (tgt := 1795) ok dL_law_1474 (by decide) (fun _ => ?_) (fun q => absurd rfl q)
  exact kk _ q3
set_option maxHeartbeats 4000000 in
theorem law_ask {x : Cx} {c n Ln : Nat} {h : HP} {i : Int32} {xs : Nat → Int32} {Inv Jnv : HP → Prop} (ok : Okx (cs x c n) code RL 8 2048) (ok2 : Okx (cs x (c + 1) (n + 6)) code RL 8 2048) (scx : ScX x Ln xs) (thx : ThX x) (hfl : (cxl x).stackTraces = false) (hv1 : vp_in (i + 1) Ln) (hv2 : vp_in (i + 2) Ln) (hv3 : vp_in (i + 3) Ln) (hv4 : vp_in (i + 4) Ln) (sh : ∀ h, Inv h → h.1 = S0) (op : Op_ask Inv Jnv) (hI : Inv h) (kk : ∀ h', Jnv h' → wp (cs x c n) 1795 [(4, .int i), (3, .ref 219), (2, .ref 188), (1, .ref 0), (0, .ref (SB + 400))] [] h') (kk2 : ∀ h', Jnv h' → wp (cs x (c + 1) (n + 6)) 1795 [(4, .int i), (3, .ref 219), (2, .ref 188), (1, .ref 0), (0, .ref (SB + 400))] [] h') : wp (cs x c n) 1479 [(4, .int i), (3, .ref 219), (2, .ref 188), (1, .ref 0), (0, .ref (SB + 400))] [] h := by
  obtain ⟨v, h1, h2, q1, q2, q3⟩ := op h hI
  have hsh := sh h hI
  refine wp_aload_n (v := 0) ok dL_law_1479 rfl ?_
  refine wp_callVI (ci := 9) (As := []) (rest := []) (h1 := h1) ok (m_X9_ask q1 (Nat.le_refl _)) my_X9_ask lk873 pd_X9_ask (Nat.le_of_ble_eq_true rfl) rfl rfl (by decide) (sh_of hsh S0_0) rfl rfl rfl dL_law_1480 (fun e1 => ?_)
  have g1 := e1.trans hsh
  refine wp_aload_n (v := 188) ok dL_law_1483 rfl ?_
  refine wp_callVI (ci := 10) (As := []) (rest := [.int v]) (h1 := h2) ok (m_X10_ask q2 (Nat.le_refl _)) my_X10_ask lk1550 pd_X10_ask (Nat.le_of_ble_eq_true rfl) rfl rfl (by decide) (sh_of g1 S0_188) rfl rfl rfl dL_law_1484 (fun e2 => ?_)
  have g2 := e2.trans g1
  refine wp_icmp_eq (tgt := 1795) ok dL_law_1487 (by decide) (fun _ => ?_) (fun q => absurd rfl q)
  exact kk _ q3
set_option maxHeartbeats 4000000 in
theorem law_sound {x : Cx} {c n Ln : Nat} {h : HP} {i : Int32} {xs : Nat → Int32} {Inv Jnv : HP → Prop} (ok : Okx (cs x c n) code RL 8 2048) (ok2 : Okx (cs x (c + 1) (n + 6)) code RL 8 2048) (scx : ScX x Ln xs) (thx : ThX x) (hfl : (cxl x).stackTraces = false) (hv1 : vp_in (i + 1) Ln) (hv2 : vp_in (i + 2) Ln) (hv3 : vp_in (i + 3) Ln) (hv4 : vp_in (i + 4) Ln) (sh : ∀ h, Inv h → h.1 = S0) (op : Op_sound Inv Jnv) (hI : Inv h) (kk : ∀ h', Jnv h' → wp (cs x c n) 1795 [(4, .int i), (3, .ref 219), (2, .ref 188), (1, .ref 0), (0, .ref (SB + 400))] [] h') (kk2 : ∀ h', Jnv h' → wp (cs x (c + 1) (n + 6)) 1795 [(4, .int i), (3, .ref 219), (2, .ref 188), (1, .ref 0), (0, .ref (SB + 400))] [] h') : wp (cs x c n) 1492 [(4, .int i), (3, .ref 219), (2, .ref 188), (1, .ref 0), (0, .ref (SB + 400))] [] h := by
  obtain ⟨v, h1, h2, q1, q2, q3⟩ := op h (xs (i + 1).toNatClampNeg) (xs (i + 2).toNatClampNeg) (xs (i + 3).toNatClampNeg) hI
  have hsh := sh h hI
  refine wp_aload_n (v := 0) ok dL_law_1492 rfl ?_
  refine wp_aload_n (v := (SB + 400)) ok dL_law_1493 rfl ?_
  refine wp_iload (v := i) ok dL_law_1494 rfl ?_
  refine wp_iconst (v := 1) ok dL_law_1496 (by decide) ?_
  refine wp_iadd ok dL_law_1497 ?_
  refine wp_sld ok scx hv1 dL_law_1498 ?_
  refine wp_aload_n (v := (SB + 400)) ok dL_law_1499 rfl ?_
  refine wp_iload (v := i) ok dL_law_1500 rfl ?_
  refine wp_iconst (v := 2) ok dL_law_1502 (by decide) ?_
  refine wp_iadd ok dL_law_1503 ?_
  refine wp_sld ok scx hv2 dL_law_1504 ?_
  refine wp_aload_n (v := (SB + 400)) ok dL_law_1505 rfl ?_
  refine wp_iload (v := i) ok dL_law_1506 rfl ?_
  refine wp_iconst (v := 3) ok dL_law_1508 (by decide) ?_
  refine wp_iadd ok dL_law_1509 ?_
  refine wp_sld ok scx hv3 dL_law_1510 ?_
  refine wp_callVI (ci := 9) (As := [.int (xs (i + 1).toNatClampNeg), .int (xs (i + 2).toNatClampNeg), .int (xs (i + 3).toNatClampNeg)]) (rest := []) (h1 := h1) ok (m_X9_sound q1 (Nat.le_refl _)) my_X9_sound lk882 pd_X9_sound (Nat.le_of_ble_eq_true rfl) rfl rfl (by decide) (sh_of hsh S0_0) rfl rfl rfl dL_law_1511 (fun e1 => ?_)
  have g1 := e1.trans hsh
  refine wp_aload_n (v := 188) ok dL_law_1514 rfl ?_
  refine wp_aload_n (v := (SB + 400)) ok dL_law_1515 rfl ?_
  refine wp_iload (v := i) ok dL_law_1516 rfl ?_
  refine wp_iconst (v := 1) ok dL_law_1518 (by decide) ?_
  refine wp_iadd ok dL_law_1519 ?_
  refine wp_sld ok scx hv1 dL_law_1520 ?_
  refine wp_aload_n (v := (SB + 400)) ok dL_law_1521 rfl ?_
  refine wp_iload (v := i) ok dL_law_1522 rfl ?_
  refine wp_iconst (v := 2) ok dL_law_1524 (by decide) ?_
  refine wp_iadd ok dL_law_1525 ?_
  refine wp_sld ok scx hv2 dL_law_1526 ?_
  refine wp_aload_n (v := (SB + 400)) ok dL_law_1527 rfl ?_
  refine wp_iload (v := i) ok dL_law_1528 rfl ?_
  refine wp_iconst (v := 3) ok dL_law_1530 (by decide) ?_
  refine wp_iadd ok dL_law_1531 ?_
  refine wp_sld ok scx hv3 dL_law_1532 ?_
  refine wp_callVI (ci := 10) (As := [.int (xs (i + 1).toNatClampNeg), .int (xs (i + 2).toNatClampNeg), .int (xs (i + 3).toNatClampNeg)]) (rest := [.int v]) (h1 := h2) ok (m_X10_sound q2 (Nat.le_refl _)) my_X10_sound lk1554 pd_X10_sound (Nat.le_of_ble_eq_true rfl) rfl rfl (by decide) (sh_of g1 S0_188) rfl rfl rfl dL_law_1533 (fun e2 => ?_)
  have g2 := e2.trans g1
  refine wp_icmp_eq (tgt := 1795) ok dL_law_1536 (by decide) (fun _ => ?_) (fun q => absurd rfl q)
  exact kk _ q3
set_option maxHeartbeats 4000000 in
theorem law_finds {x : Cx} {c n Ln : Nat} {h : HP} {i : Int32} {xs : Nat → Int32} {Inv Jnv : HP → Prop} (ok : Okx (cs x c n) code RL 8 2048) (ok2 : Okx (cs x (c + 1) (n + 6)) code RL 8 2048) (scx : ScX x Ln xs) (thx : ThX x) (hfl : (cxl x).stackTraces = false) (hv1 : vp_in (i + 1) Ln) (hv2 : vp_in (i + 2) Ln) (hv3 : vp_in (i + 3) Ln) (hv4 : vp_in (i + 4) Ln) (sh : ∀ h, Inv h → h.1 = S0) (op : Op_finds Inv Jnv) (hI : Inv h) (kk : ∀ h', Jnv h' → wp (cs x c n) 1795 [(4, .int i), (3, .ref 219), (2, .ref 188), (1, .ref 0), (0, .ref (SB + 400))] [] h') (kk2 : ∀ h', Jnv h' → wp (cs x (c + 1) (n + 6)) 1795 [(4, .int i), (3, .ref 219), (2, .ref 188), (1, .ref 0), (0, .ref (SB + 400))] [] h') : wp (cs x c n) 1541 [(4, .int i), (3, .ref 219), (2, .ref 188), (1, .ref 0), (0, .ref (SB + 400))] [] h := by
  obtain ⟨v, h1, h2, q1, q2, q3⟩ := op h (xs (i + 1).toNatClampNeg) (xs (i + 2).toNatClampNeg) (xs (i + 3).toNatClampNeg) hI
  have hsh := sh h hI
  refine wp_aload_n (v := 0) ok dL_law_1541 rfl ?_
  refine wp_aload_n (v := (SB + 400)) ok dL_law_1542 rfl ?_
  refine wp_iload (v := i) ok dL_law_1543 rfl ?_
  refine wp_iconst (v := 1) ok dL_law_1545 (by decide) ?_
  refine wp_iadd ok dL_law_1546 ?_
  refine wp_sld ok scx hv1 dL_law_1547 ?_
  refine wp_aload_n (v := (SB + 400)) ok dL_law_1548 rfl ?_
  refine wp_iload (v := i) ok dL_law_1549 rfl ?_
  refine wp_iconst (v := 2) ok dL_law_1551 (by decide) ?_
  refine wp_iadd ok dL_law_1552 ?_
  refine wp_sld ok scx hv2 dL_law_1553 ?_
  refine wp_aload_n (v := (SB + 400)) ok dL_law_1554 rfl ?_
  refine wp_iload (v := i) ok dL_law_1555 rfl ?_
  refine wp_iconst (v := 3) ok dL_law_1557 (by decide) ?_
  refine wp_iadd ok dL_law_1558 ?_
  refine wp_sld ok scx hv3 dL_law_1559 ?_
  refine wp_callVI (ci := 9) (As := [.int (xs (i + 1).toNatClampNeg), .int (xs (i + 2).toNatClampNeg), .int (xs (i + 3).toNatClampNeg)]) (rest := []) (h1 := h1) ok (m_X9_finds q1 (Nat.le_refl _)) my_X9_finds lk894 pd_X9_finds (Nat.le_of_ble_eq_true rfl) rfl rfl (by decide) (sh_of hsh S0_0) rfl rfl rfl dL_law_1560 (fun e1 => ?_)
  have g1 := e1.trans hsh
  refine wp_aload_n (v := 188) ok dL_law_1563 rfl ?_
  refine wp_aload_n (v := (SB + 400)) ok dL_law_1564 rfl ?_
  refine wp_iload (v := i) ok dL_law_1565 rfl ?_
  refine wp_iconst (v := 1) ok dL_law_1567 (by decide) ?_
  refine wp_iadd ok dL_law_1568 ?_
  refine wp_sld ok scx hv1 dL_law_1569 ?_
  refine wp_aload_n (v := (SB + 400)) ok dL_law_1570 rfl ?_
  refine wp_iload (v := i) ok dL_law_1571 rfl ?_
  refine wp_iconst (v := 2) ok dL_law_1573 (by decide) ?_
  refine wp_iadd ok dL_law_1574 ?_
  refine wp_sld ok scx hv2 dL_law_1575 ?_
  refine wp_aload_n (v := (SB + 400)) ok dL_law_1576 rfl ?_
  refine wp_iload (v := i) ok dL_law_1577 rfl ?_
  refine wp_iconst (v := 3) ok dL_law_1579 (by decide) ?_
  refine wp_iadd ok dL_law_1580 ?_
  refine wp_sld ok scx hv3 dL_law_1581 ?_
  refine wp_callVI (ci := 10) (As := [.int (xs (i + 1).toNatClampNeg), .int (xs (i + 2).toNatClampNeg), .int (xs (i + 3).toNatClampNeg)]) (rest := [.int v]) (h1 := h2) ok (m_X10_finds q2 (Nat.le_refl _)) my_X10_finds lk1566 pd_X10_finds (Nat.le_of_ble_eq_true rfl) rfl rfl (by decide) (sh_of g1 S0_188) rfl rfl rfl dL_law_1582 (fun e2 => ?_)
  have g2 := e2.trans g1
  refine wp_icmp_eq (tgt := 1795) ok dL_law_1585 (by decide) (fun _ => ?_) (fun q => absurd rfl q)
  exact kk _ q3
set_option maxHeartbeats 4000000 in
theorem law_law {x : Cx} {c n Ln : Nat} {h : HP} {i : Int32} {xs : Nat → Int32} {Inv Jnv : HP → Prop} (ok : Okx (cs x c n) code RL 8 2048) (ok2 : Okx (cs x (c + 1) (n + 6)) code RL 8 2048) (scx : ScX x Ln xs) (thx : ThX x) (hfl : (cxl x).stackTraces = false) (hv1 : vp_in (i + 1) Ln) (hv2 : vp_in (i + 2) Ln) (hv3 : vp_in (i + 3) Ln) (hv4 : vp_in (i + 4) Ln) (sh : ∀ h, Inv h → h.1 = S0) (op : Op_law Inv Jnv) (hI : Inv h) (kk : ∀ h', Jnv h' → wp (cs x c n) 1795 [(4, .int i), (3, .ref 219), (2, .ref 188), (1, .ref 0), (0, .ref (SB + 400))] [] h') (kk2 : ∀ h', Jnv h' → wp (cs x (c + 1) (n + 6)) 1795 [(4, .int i), (3, .ref 219), (2, .ref 188), (1, .ref 0), (0, .ref (SB + 400))] [] h') : wp (cs x c n) 1590 [(4, .int i), (3, .ref 219), (2, .ref 188), (1, .ref 0), (0, .ref (SB + 400))] [] h := by
  obtain ⟨v, h1, h2, q1, q2, q3⟩ := op h hI
  have hsh := sh h hI
  refine wp_aload_n (v := 0) ok dL_law_1590 rfl ?_
  refine wp_callVI (ci := 9) (As := []) (rest := []) (h1 := h1) ok (m_X9_law q1 (Nat.le_refl _)) my_X9_law lk901 pd_X9_law (Nat.le_of_ble_eq_true rfl) rfl rfl (by decide) (sh_of hsh S0_0) rfl rfl rfl dL_law_1591 (fun e1 => ?_)
  have g1 := e1.trans hsh
  refine wp_aload_n (v := 188) ok dL_law_1594 rfl ?_
  refine wp_callVI (ci := 10) (As := []) (rest := [.int v]) (h1 := h2) ok (m_X10_law q2 (Nat.le_refl _)) my_X10_law lk1571 pd_X10_law (Nat.le_of_ble_eq_true rfl) rfl rfl (by decide) (sh_of g1 S0_188) rfl rfl rfl dL_law_1595 (fun e2 => ?_)
  have g2 := e2.trans g1
  refine wp_icmp_eq (tgt := 1795) ok dL_law_1598 (by decide) (fun _ => ?_) (fun q => absurd rfl q)
  exact kk _ q3
set_option maxHeartbeats 4000000 in
theorem law_rests {x : Cx} {c n Ln : Nat} {h : HP} {i : Int32} {xs : Nat → Int32} {Inv Jnv : HP → Prop} (ok : Okx (cs x c n) code RL 8 2048) (ok2 : Okx (cs x (c + 1) (n + 6)) code RL 8 2048) (scx : ScX x Ln xs) (thx : ThX x) (hfl : (cxl x).stackTraces = false) (hv1 : vp_in (i + 1) Ln) (hv2 : vp_in (i + 2) Ln) (hv3 : vp_in (i + 3) Ln) (hv4 : vp_in (i + 4) Ln) (sh : ∀ h, Inv h → h.1 = S0) (op : Op_rests Inv Jnv) (hI : Inv h) (kk : ∀ h', Jnv h' → wp (cs x c n) 1795 [(4, .int i), (3, .ref 219), (2, .ref 188), (1, .ref 0), (0, .ref (SB + 400))] [] h') (kk2 : ∀ h', Jnv h' → wp (cs x (c + 1) (n + 6)) 1795 [(4, .int i), (3, .ref 219), (2, .ref 188), (1, .ref 0), (0, .ref (SB + 400))] [] h') : wp (cs x c n) 1603 [(4, .int i), (3, .ref 219), (2, .ref 188), (1, .ref 0), (0, .ref (SB + 400))] [] h := by
  obtain ⟨v, h1, h2, q1, q2, q3⟩ := op h (xs (i + 1).toNatClampNeg) hI
  have hsh := sh h hI
  refine wp_aload_n (v := 0) ok dL_law_1603 rfl ?_
  refine wp_aload_n (v := (SB + 400)) ok dL_law_1604 rfl ?_
  refine wp_iload (v := i) ok dL_law_1605 rfl ?_
  refine wp_iconst (v := 1) ok dL_law_1607 (by decide) ?_
  refine wp_iadd ok dL_law_1608 ?_
  refine wp_sld ok scx hv1 dL_law_1609 ?_
  refine wp_callVI (ci := 9) (As := [.int (xs (i + 1).toNatClampNeg)]) (rest := []) (h1 := h1) ok (m_X9_rests q1 (Nat.le_refl _)) my_X9_rests lk906 pd_X9_rests (Nat.le_of_ble_eq_true rfl) rfl rfl (by decide) (sh_of hsh S0_0) rfl rfl rfl dL_law_1610 (fun e1 => ?_)
  have g1 := e1.trans hsh
  refine wp_aload_n (v := 188) ok dL_law_1613 rfl ?_
  refine wp_aload_n (v := (SB + 400)) ok dL_law_1614 rfl ?_
  refine wp_iload (v := i) ok dL_law_1615 rfl ?_
  refine wp_iconst (v := 1) ok dL_law_1617 (by decide) ?_
  refine wp_iadd ok dL_law_1618 ?_
  refine wp_sld ok scx hv1 dL_law_1619 ?_
  refine wp_callVI (ci := 10) (As := [.int (xs (i + 1).toNatClampNeg)]) (rest := [.int v]) (h1 := h2) ok (m_X10_rests q2 (Nat.le_refl _)) my_X10_rests lk1580 pd_X10_rests (Nat.le_of_ble_eq_true rfl) rfl rfl (by decide) (sh_of g1 S0_188) rfl rfl rfl dL_law_1620 (fun e2 => ?_)
  have g2 := e2.trans g1
  refine wp_icmp_eq (tgt := 1795) ok dL_law_1623 (by decide) (fun _ => ?_) (fun q => absurd rfl q)
  exact kk _ q3
set_option maxHeartbeats 4000000 in
theorem law_years {x : Cx} {c n Ln : Nat} {h : HP} {i : Int32} {xs : Nat → Int32} {Inv Jnv : HP → Prop} (ok : Okx (cs x c n) code RL 8 2048) (ok2 : Okx (cs x (c + 1) (n + 6)) code RL 8 2048) (scx : ScX x Ln xs) (thx : ThX x) (hfl : (cxl x).stackTraces = false) (hv1 : vp_in (i + 1) Ln) (hv2 : vp_in (i + 2) Ln) (hv3 : vp_in (i + 3) Ln) (hv4 : vp_in (i + 4) Ln) (sh : ∀ h, Inv h → h.1 = S0) (op : Op_years Inv Jnv) (hI : Inv h) (kk : ∀ h', Jnv h' → wp (cs x c n) 1795 [(4, .int i), (3, .ref 219), (2, .ref 188), (1, .ref 0), (0, .ref (SB + 400))] [] h') (kk2 : ∀ h', Jnv h' → wp (cs x (c + 1) (n + 6)) 1795 [(4, .int i), (3, .ref 219), (2, .ref 188), (1, .ref 0), (0, .ref (SB + 400))] [] h') : wp (cs x c n) 1628 [(4, .int i), (3, .ref 219), (2, .ref 188), (1, .ref 0), (0, .ref (SB + 400))] [] h := by
  obtain ⟨v, h1, h2, q1, q2, q3⟩ := op h (xs (i + 1).toNatClampNeg) (xs (i + 2).toNatClampNeg) hI
  have hsh := sh h hI
  refine wp_aload_n (v := 0) ok dL_law_1628 rfl ?_
  refine wp_aload_n (v := (SB + 400)) ok dL_law_1629 rfl ?_
  refine wp_iload (v := i) ok dL_law_1630 rfl ?_
  refine wp_iconst (v := 1) ok dL_law_1632 (by decide) ?_
  refine wp_iadd ok dL_law_1633 ?_
  refine wp_sld ok scx hv1 dL_law_1634 ?_
  refine wp_aload_n (v := (SB + 400)) ok dL_law_1635 rfl ?_
  refine wp_iload (v := i) ok dL_law_1636 rfl ?_
  refine wp_iconst (v := 2) ok dL_law_1638 (by decide) ?_
  refine wp_iadd ok dL_law_1639 ?_
  refine wp_sld ok scx hv2 dL_law_1640 ?_
  refine wp_callVI (ci := 9) (As := [.int (xs (i + 1).toNatClampNeg), .int (xs (i + 2).toNatClampNeg)]) (rest := []) (h1 := h1) ok (m_X9_years q1 (Nat.le_refl _)) my_X9_years lk916 pd_X9_years (Nat.le_of_ble_eq_true rfl) rfl rfl (by decide) (sh_of hsh S0_0) rfl rfl rfl dL_law_1641 (fun e1 => ?_)
  have g1 := e1.trans hsh
  refine wp_aload_n (v := 188) ok dL_law_1644 rfl ?_
  refine wp_aload_n (v := (SB + 400)) ok dL_law_1645 rfl ?_
  refine wp_iload (v := i) ok dL_law_1646 rfl ?_
  refine wp_iconst (v := 1) ok dL_law_1648 (by decide) ?_
  refine wp_iadd ok dL_law_1649 ?_
  refine wp_sld ok scx hv1 dL_law_1650 ?_
  refine wp_aload_n (v := (SB + 400)) ok dL_law_1651 rfl ?_
  refine wp_iload (v := i) ok dL_law_1652 rfl ?_
  refine wp_iconst (v := 2) ok dL_law_1654 (by decide) ?_
  refine wp_iadd ok dL_law_1655 ?_
  refine wp_sld ok scx hv2 dL_law_1656 ?_
  refine wp_callVI (ci := 10) (As := [.int (xs (i + 1).toNatClampNeg), .int (xs (i + 2).toNatClampNeg)]) (rest := [.int v]) (h1 := h2) ok (m_X10_years q2 (Nat.le_refl _)) my_X10_years lk1590 pd_X10_years (Nat.le_of_ble_eq_true rfl) rfl rfl (by decide) (sh_of g1 S0_188) rfl rfl rfl dL_law_1657 (fun e2 => ?_)
  have g2 := e2.trans g1
  refine wp_icmp_eq (tgt := 1795) ok dL_law_1660 (by decide) (fun _ => ?_) (fun q => absurd rfl q)
  exact kk _ q3
set_option maxHeartbeats 4000000 in
theorem law_keep {x : Cx} {c n Ln : Nat} {h : HP} {i : Int32} {xs : Nat → Int32} {Inv Jnv : HP → Prop} (ok : Okx (cs x c n) code RL 8 2048) (ok2 : Okx (cs x (c + 1) (n + 6)) code RL 8 2048) (scx : ScX x Ln xs) (thx : ThX x) (hfl : (cxl x).stackTraces = false) (hv1 : vp_in (i + 1) Ln) (hv2 : vp_in (i + 2) Ln) (hv3 : vp_in (i + 3) Ln) (hv4 : vp_in (i + 4) Ln) (sh : ∀ h, Inv h → h.1 = S0) (op : Op_keep Inv Jnv) (hI : Inv h) (kk : ∀ h', Jnv h' → wp (cs x c n) 1795 [(4, .int i), (3, .ref 219), (2, .ref 188), (1, .ref 0), (0, .ref (SB + 400))] [] h') (kk2 : ∀ h', Jnv h' → wp (cs x (c + 1) (n + 6)) 1795 [(4, .int i), (3, .ref 219), (2, .ref 188), (1, .ref 0), (0, .ref (SB + 400))] [] h') : wp (cs x c n) 1665 [(4, .int i), (3, .ref 219), (2, .ref 188), (1, .ref 0), (0, .ref (SB + 400))] [] h := by
  obtain ⟨v, h1, h2, q1, q2, q3⟩ := op h (xs (i + 1).toNatClampNeg) hI
  have hsh := sh h hI
  refine wp_aload_n (v := 0) ok dL_law_1665 rfl ?_
  refine wp_aload_n (v := (SB + 400)) ok dL_law_1666 rfl ?_
  refine wp_iload (v := i) ok dL_law_1667 rfl ?_
  refine wp_iconst (v := 1) ok dL_law_1669 (by decide) ?_
  refine wp_iadd ok dL_law_1670 ?_
  refine wp_sld ok scx hv1 dL_law_1671 ?_
  refine wp_callVI (ci := 9) (As := [.int (xs (i + 1).toNatClampNeg)]) (rest := []) (h1 := h1) ok (m_X9_keep q1 (Nat.le_refl _)) my_X9_keep lk938 pd_X9_keep (Nat.le_of_ble_eq_true rfl) rfl rfl (by decide) (sh_of hsh S0_0) rfl rfl rfl dL_law_1672 (fun e1 => ?_)
  have g1 := e1.trans hsh
  refine wp_aload_n (v := 188) ok dL_law_1675 rfl ?_
  refine wp_aload_n (v := (SB + 400)) ok dL_law_1676 rfl ?_
  refine wp_iload (v := i) ok dL_law_1677 rfl ?_
  refine wp_iconst (v := 1) ok dL_law_1679 (by decide) ?_
  refine wp_iadd ok dL_law_1680 ?_
  refine wp_sld ok scx hv1 dL_law_1681 ?_
  refine wp_callVI (ci := 10) (As := [.int (xs (i + 1).toNatClampNeg)]) (rest := [.int v]) (h1 := h2) ok (m_X10_keep q2 (Nat.le_refl _)) my_X10_keep lk1603 pd_X10_keep (Nat.le_of_ble_eq_true rfl) rfl rfl (by decide) (sh_of g1 S0_188) rfl rfl rfl dL_law_1682 (fun e2 => ?_)
  have g2 := e2.trans g1
  refine wp_icmp_eq (tgt := 1795) ok dL_law_1685 (by decide) (fun _ => ?_) (fun q => absurd rfl q)
  exact kk _ q3
set_option maxHeartbeats 4000000 in
theorem law_again {x : Cx} {c n Ln : Nat} {h : HP} {i : Int32} {xs : Nat → Int32} {Inv Jnv : HP → Prop} (ok : Okx (cs x c n) code RL 8 2048) (ok2 : Okx (cs x (c + 1) (n + 6)) code RL 8 2048) (scx : ScX x Ln xs) (thx : ThX x) (hfl : (cxl x).stackTraces = false) (hv1 : vp_in (i + 1) Ln) (hv2 : vp_in (i + 2) Ln) (hv3 : vp_in (i + 3) Ln) (hv4 : vp_in (i + 4) Ln) (sh : ∀ h, Inv h → h.1 = S0) (op : Op_again Inv Jnv) (hI : Inv h) (kk : ∀ h', Jnv h' → wp (cs x c n) 1795 [(4, .int i), (3, .ref 219), (2, .ref 188), (1, .ref 0), (0, .ref (SB + 400))] [] h') (kk2 : ∀ h', Jnv h' → wp (cs x (c + 1) (n + 6)) 1795 [(4, .int i), (3, .ref 219), (2, .ref 188), (1, .ref 0), (0, .ref (SB + 400))] [] h') : wp (cs x c n) 1690 [(4, .int i), (3, .ref 219), (2, .ref 188), (1, .ref 0), (0, .ref (SB + 400))] [] h := by
  obtain ⟨v, h1, h2, q1, q2, q3⟩ := op h (xs (i + 1).toNatClampNeg) hI
  have hsh := sh h hI
  refine wp_aload_n (v := 0) ok dL_law_1690 rfl ?_
  refine wp_aload_n (v := (SB + 400)) ok dL_law_1691 rfl ?_
  refine wp_iload (v := i) ok dL_law_1692 rfl ?_
  refine wp_iconst (v := 1) ok dL_law_1694 (by decide) ?_
  refine wp_iadd ok dL_law_1695 ?_
  refine wp_sld ok scx hv1 dL_law_1696 ?_
  refine wp_callVI (ci := 9) (As := [.int (xs (i + 1).toNatClampNeg)]) (rest := []) (h1 := h1) ok (m_X9_again q1 (Nat.le_refl _)) my_X9_again lk942 pd_X9_again (Nat.le_of_ble_eq_true rfl) rfl rfl (by decide) (sh_of hsh S0_0) rfl rfl rfl dL_law_1697 (fun e1 => ?_)
  have g1 := e1.trans hsh
  refine wp_aload_n (v := 188) ok dL_law_1700 rfl ?_
  refine wp_aload_n (v := (SB + 400)) ok dL_law_1701 rfl ?_
  refine wp_iload (v := i) ok dL_law_1702 rfl ?_
  refine wp_iconst (v := 1) ok dL_law_1704 (by decide) ?_
  refine wp_iadd ok dL_law_1705 ?_
  refine wp_sld ok scx hv1 dL_law_1706 ?_
  refine wp_callVI (ci := 10) (As := [.int (xs (i + 1).toNatClampNeg)]) (rest := [.int v]) (h1 := h2) ok (m_X10_again q2 (Nat.le_refl _)) my_X10_again lk1607 pd_X10_again (Nat.le_of_ble_eq_true rfl) rfl rfl (by decide) (sh_of g1 S0_188) rfl rfl rfl dL_law_1707 (fun e2 => ?_)
  have g2 := e2.trans g1
  refine wp_icmp_eq (tgt := 1795) ok dL_law_1710 (by decide) (fun _ => ?_) (fun q => absurd rfl q)
  exact kk _ q3
set_option maxHeartbeats 4000000 in
theorem law_count {x : Cx} {c n Ln : Nat} {h : HP} {i : Int32} {xs : Nat → Int32} {Inv Jnv : HP → Prop} (ok : Okx (cs x c n) code RL 8 2048) (ok2 : Okx (cs x (c + 1) (n + 6)) code RL 8 2048) (scx : ScX x Ln xs) (thx : ThX x) (hfl : (cxl x).stackTraces = false) (hv1 : vp_in (i + 1) Ln) (hv2 : vp_in (i + 2) Ln) (hv3 : vp_in (i + 3) Ln) (hv4 : vp_in (i + 4) Ln) (sh : ∀ h, Inv h → h.1 = S0) (op : Op_count Inv Jnv) (hI : Inv h) (kk : ∀ h', Jnv h' → wp (cs x c n) 1795 [(4, .int i), (3, .ref 219), (2, .ref 188), (1, .ref 0), (0, .ref (SB + 400))] [] h') (kk2 : ∀ h', Jnv h' → wp (cs x (c + 1) (n + 6)) 1795 [(4, .int i), (3, .ref 219), (2, .ref 188), (1, .ref 0), (0, .ref (SB + 400))] [] h') : wp (cs x c n) 1715 [(4, .int i), (3, .ref 219), (2, .ref 188), (1, .ref 0), (0, .ref (SB + 400))] [] h := by
  obtain ⟨v, h2, q1, q2, q3⟩ := op h (xs (i + 1).toNatClampNeg) hI
  have hsh := sh h hI
  refine wp_aload_n (v := 0) ok dL_law_1715 rfl ?_
  refine wp_aload_n (v := (SB + 400)) ok dL_law_1716 rfl ?_
  refine wp_iload (v := i) ok dL_law_1717 rfl ?_
  refine wp_iconst (v := 1) ok dL_law_1719 (by decide) ?_
  refine wp_iadd ok dL_law_1720 ?_
  refine wp_sld ok scx hv1 dL_law_1721 ?_
  refine wp_callVI (ci := 9) (As := [.int (xs (i + 1).toNatClampNeg)]) (rest := []) (h1 := h) ok (m_X9_count q1 (Nat.le_refl _)) my_X9_count lk946 pd_X9_count (Nat.le_of_ble_eq_true rfl) rfl rfl (by decide) (sh_of hsh S0_0) rfl rfl rfl dL_law_1722 (fun e1 => ?_)
  have g1 := e1.trans hsh
  refine wp_aload_n (v := 188) ok dL_law_1725 rfl ?_
  refine wp_aload_n (v := (SB + 400)) ok dL_law_1726 rfl ?_
  refine wp_iload (v := i) ok dL_law_1727 rfl ?_
  refine wp_iconst (v := 1) ok dL_law_1729 (by decide) ?_
  refine wp_iadd ok dL_law_1730 ?_
  refine wp_sld ok scx hv1 dL_law_1731 ?_
  refine wp_callVI (ci := 10) (As := [.int (xs (i + 1).toNatClampNeg)]) (rest := [.int v]) (h1 := h2) ok (m_X10_count q2 (Nat.le_refl _)) my_X10_count lk1611 pd_X10_count (Nat.le_of_ble_eq_true rfl) rfl rfl (by decide) (sh_of g1 S0_188) rfl rfl rfl dL_law_1732 (fun e2 => ?_)
  have g2 := e2.trans g1
  refine wp_icmp_eq (tgt := 1795) ok dL_law_1735 (by decide) (fun _ => ?_) (fun q => absurd rfl q)
  exact kk _ q3
set_option maxHeartbeats 4000000 in
theorem law_row {x : Cx} {c n Ln : Nat} {h : HP} {i : Int32} {xs : Nat → Int32} {Inv Jnv : HP → Prop} (ok : Okx (cs x c n) code RL 8 2048) (ok2 : Okx (cs x (c + 1) (n + 6)) code RL 8 2048) (scx : ScX x Ln xs) (thx : ThX x) (hfl : (cxl x).stackTraces = false) (hv1 : vp_in (i + 1) Ln) (hv2 : vp_in (i + 2) Ln) (hv3 : vp_in (i + 3) Ln) (hv4 : vp_in (i + 4) Ln) (sh : ∀ h, Inv h → h.1 = S0) (op : Op_row Inv Jnv) (hI : Inv h) (kk : ∀ h', Jnv h' → wp (cs x c n) 1795 [(4, .int i), (3, .ref 219), (2, .ref 188), (1, .ref 0), (0, .ref (SB + 400))] [] h') (kk2 : ∀ h', Jnv h' → wp (cs x (c + 1) (n + 6)) 1795 [(4, .int i), (3, .ref 219), (2, .ref 188), (1, .ref 0), (0, .ref (SB + 400))] [] h') : wp (cs x c n) 1740 [(4, .int i), (3, .ref 219), (2, .ref 188), (1, .ref 0), (0, .ref (SB + 400))] [] h := by
  obtain ⟨rp, b, h2, t, q1, q2, qt, q4, q5, q3⟩ := op h (xs (i + 1).toNatClampNeg) hI
  have hsh := sh h hI
  have S0x := sh_of hsh S0_0
  have S0o := sh_of hsh S0_219
  refine wp_aload_n (v := 0) ok dL_law_1740 rfl ?_
  refine wp_aload_n (v := (SB + 400)) ok dL_law_1741 rfl ?_
  refine wp_iload (v := i) ok dL_law_1742 rfl ?_
  refine wp_iconst (v := 1) ok dL_law_1744 (by decide) ?_
  refine wp_iadd ok dL_law_1745 ?_
  refine wp_sld ok scx hv1 dL_law_1746 ?_
  refine wp_aload_n (v := 219) ok dL_law_1747 rfl ?_
  refine wp_callSH (As := [.ref 0, .int (xs (i + 1).toNatClampNeg), .ref 219]) ok ok2 thx (m_L_row (f := 6) S0x S0o (m_X9_row hfl q1 (Nat.le_of_ble_eq_true rfl))) my_L_row lk1030 pd_L_row (Nat.le_of_ble_eq_true rfl) rfl rfl rfl dL_law_1748 (fun e1 => ?_)
  have g1 := e1.trans hsh
  refine wp_istore (L' := [(5, .int (rEJ h 219 rp).1), (4, .int i), (3, .ref 219), (2, .ref 188), (1, .ref 0), (0, .ref (SB + 400))]) ok2 dL_law_1751 rfl rfl ?_
  refine wp_aload_n (v := 188) ok2 dL_law_1753 rfl ?_
  refine wp_aload_n (v := (SB + 400)) ok2 dL_law_1754 rfl ?_
  refine wp_iload (v := i) ok2 dL_law_1755 rfl ?_
  refine wp_iconst (v := 1) ok2 dL_law_1757 (by decide) ?_
  refine wp_iadd ok2 dL_law_1758 ?_
  refine wp_sld ok2 scx hv1 dL_law_1759 ?_
  refine wp_callVJ (ci := 10) (As := [.int (xs (i + 1).toNatClampNeg)]) (rest := []) (h1 := h2) ok2 (m_X10_row q2 (Nat.le_refl _)) my_X10_row lk1615 pd_X10_row (Nat.le_of_ble_eq_true rfl) rfl rfl (by decide) (sh_of g1 S0_188) rfl rfl rfl dL_law_1760 (fun e2 => ?_)
  have g2 := e2.trans g1
  refine wp_lstore (L' := [(6, .long b), (5, .int (rEJ h 219 rp).1), (4, .int i), (3, .ref 219), (2, .ref 188), (1, .ref 0), (0, .ref (SB + 400))]) ok2 dL_law_1763 rfl rfl ?_
  refine wp_aload_n (v := 188) ok2 dL_law_1765 rfl ?_
  refine wp_callVI (ci := 10) (As := []) (rest := []) (h1 := h2) ok2 (m_X10_thrown qt (Nat.le_refl _)) my_X10_thrown lk1037 pd_X10_thrown (Nat.le_of_ble_eq_true rfl) rfl rfl (by decide) (sh_of g2 S0_188) rfl rfl rfl dL_law_1766 (fun e3 => ?_)
  have g3 := e3.trans g2
  refine wp_iload (v := (rEJ h 219 rp).1) ok2 dL_law_1769 rfl ?_
  refine wp_icmp_eq (tgt := 1776) ok2 dL_law_1771 (by decide) (fun _ => ?_) (fun q => absurd q4 q)
  refine wp_iload (v := (rEJ h 219 rp).1) ok2 dL_law_1776 rfl ?_
  refine wp_if_ne (tgt := 1792) ok2 dL_law_1778 (by decide) (fun _ => ?_) (fun qz => ?_)
  · refine wp_goto (tgt := 1795) ok2 dL_law_1792 (by decide) ?_
    refine wp_sub (L' := [(4, .int i), (3, .ref 219), (2, .ref 188), (1, .ref 0), (0, .ref (SB + 400))]) [2, 3, 4, 5, 6] rfl ?_
    exact kk2 _ q3
  refine wp_aload_n (v := 219) ok2 dL_law_1781 rfl ?_
  refine wp_iconst (v := 0) ok2 dL_law_1782 (by decide) ?_
  refine wp_lald ok2 (sh_of g3 S0_219) (ix_lit (by decide)) dL_law_1783 ?_
  refine wp_lload (v := b) ok2 dL_law_1784 rfl ?_
  refine wp_lcmp ok2 dL_law_1786 ?_
  refine wp_if_eq (tgt := 1792) ok2 dL_law_1787 (by decide) (fun _ => ?_) (fun q => absurd (lcmp_eq (q5 qz)) q)
  refine wp_goto (tgt := 1795) ok2 dL_law_1792 (by decide) ?_
  refine wp_sub (L' := [(4, .int i), (3, .ref 219), (2, .ref 188), (1, .ref 0), (0, .ref (SB + 400))]) [2, 3, 4, 5, 6] rfl ?_
  exact kk2 _ q3
