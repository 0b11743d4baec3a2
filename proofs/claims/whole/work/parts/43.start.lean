/-! ===== the entry: out of the claims of the operations ===== -/
def R_law : String := "ShellsByLoadLaw"
def lw_P (b : Addr) (xs : List Int32) (args : Array Value) (s : State) : Prop := args = #[.ref b] ∧ s.IntsAt b xs ∧ xs.length ≤ 2560 ∧ (Jvm.Cond.and given_1 narrow_1).before args s = true
def lw_Q (_ : Array Value) (s : State) (o : Outcome) (t : State) : Prop := o = .returned (some (.int 1)) ∧ Framed s o t [] 601024 7293034
def lw_Z (below : List Frame) (a : Array Value) (s : State) : State → Prop := fun t => ∃ o, t.status = .running ∧ Ended t below o ∧ lw_Q a s o t
/-- the law's own end, with 1 on the stack, nothing written that was there before, its room as the claim has it -/
theorem lw_ret {p : Program} {l : Launch} {e : Env} {s : State} {m : MethodId} {below : List Frame} {meth : Method} {c : Code} {b : Nat} (hx : p.tables.exec = Jvm.exec) (hb : c.code = code) (hr : meth.sig.returnType = ret) (hlocks : meth.locks = false) {pc : Nat} {H : Heap} {ls : Array Slot} (hdg : decode code pc = .ok (.ireturn, 1)) : W p l e room_1 s m #[Value.ref b] below meth c H [] 601024 7293034 (lw_Z below #[Value.ref b] s) (F0 m pc ls [.int 1]) := by
  intro T hT X
  obtain ⟨fs, hret, hrun, hended, hW, hframe⟩ := X.leave (v := some (.int 1)) (hlocks := hlocks) (fun h => by rw [hr] at h; cases h)
  have hmeth' : T.vm.method? m = some meth := X.method'
  refine ⟨T.setFrames fs, ?_, .returned (some (.int 1)), hrun, hended, rfl, ⟨_, rfl⟩, hW, hframe⟩
  jvm_step X.here [X.here.top, hx, hb, hdg, hmeth', hr, ret, narrow_b1]
  (try refine ⟨rfl, ?_⟩); (try refine ⟨rfl, ?_⟩)
  first | (intro acts; rw [hret _ acts rfl rfl rfl]) | rw [hret _ _ rfl rfl rfl]
  exact Steps.refl _
/-- what holds at the law's entry: the machine, the code, the tables' words (any of lw_tbl by 'hts w (by decide +kernel)'), the script of L ints xs at the cell b, what the Statement gives of the start (any of its parts by flat_of_before) -/
def lw_At (p : Program) (s : State) (m : MethodId) (meth : Method) (c : Code) (b L : Nat) (xs : Nat → Int32) : Prop :=
  p.tables.exec = Jvm.exec ∧ c.code = code ∧ meth.sig.returnType = ret ∧ c.maxLocals = 8 ∧ s.vm.findClass R_law = some m.cls ∧ (∀ w ∈ lw_tbl, w.before #[Value.ref b] s = true) ∧ va_X b L xs s s.heap ∧ b < s.heap.size ∧ meth.locks = false ∧ (Jvm.Cond.and given_1 narrow_1).before #[Value.ref b] s = true
theorem gw_lw : ∀ w ∈ gw, w ∈ lw_tbl := fun w h => (List.mem_filter.mp h).1
theorem ev_eq {args : Array Value} {s : State} {t : Term} {z : Int32} (h : (Cond.eq t (.int z)).before args s = true) : t.eval args s none [] s = some (.int z) := by
  cases hv : t.eval args s none [] s with
  | none => simp [Cond.before, Cond.holds, Cond.value, hv] at h
  | some w =>
    have hz : (Term.int z).eval args s none [] s = some (.int z) := rfl
    simp only [Cond.before, Cond.holds, Cond.value, hv, hz] at h
    cases w <;> simp_all
def cS (q : String × Nat × String × List Int32) : List Cond := .exactly (.string q.1 q.2.1) "java/lang/String" :: .eq (.field (.string q.1 q.2.1) "java/lang/String" "coder" "B") (.int 0) :: .arrayOf (.field (.string q.1 q.2.1) "java/lang/String" "value" "[B") .byte :: .eq (.length (.field (.string q.1 q.2.1) "java/lang/String" "value" "[B")) (.int (Int32.ofNat q.2.2.2.length)) :: (List.range q.2.2.2.length).map (fun j => .eq (.elem (.field (.string q.1 q.2.1) "java/lang/String" "value" "[B") (.int (Int32.ofNat j))) (.int (q.2.2.2.getD j 0)))
theorem cS_in : ∀ q ∈ strT, ∀ w ∈ cS q, w ∈ flatC (Jvm.Cond.and given_1 narrow_1) := by decide +kernel
theorem cS_ref : ∀ q ∈ strT, Cond.stringRef q.1 q.2.1 q.2.2.1 ∈ lw_tbl ∧ q.2.2.2.length < 2 ^ 31 := by decide +kernel
def cT (q : String × List Int32) : List Cond := .arrayOf (.static RX9 q.1 "[I") .int :: .eq (.length (.static RX9 q.1 "[I")) (.int (Int32.ofNat q.2.length)) :: (List.range q.2.length).map (fun j => .eq (.elem (.static RX9 q.1 "[I") (.int (Int32.ofNat j))) (.int (q.2.getD j 0)))
theorem cT_in : ∀ q ∈ tabT, ∀ w ∈ cT q, w ∈ flatC (Jvm.Cond.and given_1 narrow_1) := by decide +kernel
theorem cT_lay : ∀ q ∈ tabT, Cond.laysStatic RX9 q.1 "[I" ∈ lw_tbl ∧ q.2.length < 2 ^ 31 := by decide +kernel
theorem nm_in : ∀ q ∈ nestM, Cond.methodLinkNest q.1 q.2.1 q.2.2.1 q.2.2.2 ∈ lw_tbl := by decide +kernel
theorem nf_in : ∀ q ∈ nestF, Cond.fieldLinkNest q.1 q.2.1 q.2.2.1 q.2.2.2.1 q.2.2.2.2.1 q.2.2.2.2.2 ∈ lw_tbl := by decide +kernel
theorem eB_in : ∀ w ∈ eB, w ∈ lw_tbl := by decide +kernel
theorem in_RX9 : Cond.initialized RX9 ∈ lw_tbl := by decide +kernel
section Entry
variable {s : State} {b : Nat} {A : Nat → Prop}
theorem str_ok (hts : ∀ w ∈ lw_tbl, w.before #[Value.ref b] s = true) (hg : (Jvm.Cond.and given_1 narrow_1).before #[Value.ref b] s = true) (hA : ∀ a : Nat, a < s.heap.size → ¬ A a) {q : String × Nat × String × List Int32} (hq : q ∈ strT) :
    ∃ ab : Nat × Nat, vk_R q.1 q.2.1 q.2.2.1 ab.1 s ∧ va_O "java/lang/String" ab.1 A s s.heap ∧ va_OF "java/lang/String" "coder" "B" (.int 0) ab.1 A s s.heap ∧ va_OF "java/lang/String" "value" "[B" (.ref ab.2) ab.1 A s s.heap ∧ va_T .byte ab.2 q.2.2.2.length (fun j => .int (q.2.2.2.getD j 0)) A s s.heap := by
  have hw : ∀ w ∈ cS q, w.before #[Value.ref b] s = true := fun w h => flat_of_before _ hg w (cS_in q hq w h)
  have h1 := hw (.exactly (.string q.1 q.2.1) "java/lang/String") (by simp [cS])
  have h2 := hw (.eq (.field (.string q.1 q.2.1) "java/lang/String" "coder" "B") (.int 0)) (by simp [cS])
  have h3 := hw (.arrayOf (.field (.string q.1 q.2.1) "java/lang/String" "value" "[B") .byte) (by simp [cS])
  have h4 := hw (.eq (.length (.field (.string q.1 q.2.1) "java/lang/String" "value" "[B")) (.int (Int32.ofNat q.2.2.2.length))) (by simp [cS])
  obtain ⟨a, c, cA, kA, q1, -⟩ := Cond.exactly_spec (args := #[Value.ref b]) (first := s) (o := none) (s := s) (idx := []) (t := .string q.1 q.2.1) (cls := "java/lang/String") h1
  obtain ⟨t, ht, hT⟩ := va_Tof (f := fun j => .int (q.2.2.2.getD j 0)) (cS_ref q hq).2 h3 (ev_eq h4) (fun j hj => ev_eq (hw _ (by
    unfold cS
    refine List.mem_cons_of_mem _ (List.mem_cons_of_mem _ (List.mem_cons_of_mem _ (List.mem_cons_of_mem _ ?_)))
    exact List.mem_map.mpr ⟨j, List.mem_range.mpr hj, rfl⟩))) hA
  exact ⟨(a, t), vk_R.of (hts _ (cS_ref q hq).1) q1, va_Oof h1 q1 hA, vk_OFof q1 (ev_eq h2) hA, vk_OFof q1 ht hA, hT⟩
theorem tab_ok (hts : ∀ w ∈ lw_tbl, w.before #[Value.ref b] s = true) (hg : (Jvm.Cond.and given_1 narrow_1).before #[Value.ref b] s = true) (hA : ∀ a : Nat, a < s.heap.size → ¬ A a) {q : String × List Int32} (hq : q ∈ tabT) :
    ∃ t : Nat, va_Z RX9 q.1 "[I" (.ref t) A s s.heap ∧ va_T .int t q.2.length (fun j => .int (q.2.getD j 0)) A s s.heap := by
  have hw : ∀ w ∈ cT q, w.before #[Value.ref b] s = true := fun w h => flat_of_before _ hg w (cT_in q hq w h)
  have h3 := hw (.arrayOf (.static RX9 q.1 "[I") .int) (by simp [cT])
  have h4 := hw (.eq (.length (.static RX9 q.1 "[I")) (.int (Int32.ofNat q.2.length))) (by simp [cT])
  obtain ⟨t, ht, hT⟩ := va_Tof (f := fun j => .int (q.2.getD j 0)) (cT_lay q hq).2 h3 (ev_eq h4) (fun j hj => ev_eq (hw _ (by
    unfold cT
    refine List.mem_cons_of_mem _ (List.mem_cons_of_mem _ ?_)
    exact List.mem_map.mpr ⟨j, List.mem_range.mpr hj, rfl⟩))) hA
  exact ⟨t, va_Zof (hts _ (cT_lay q hq).1) (hts _ in_RX9) ht hA, hT⟩
end Entry

theorem vwCl_len : vwCl.length = 11 := rfl
theorem cl_in : ∀ r ∈ vwCl, (∀ w ∈ u_ws r.1 r.2.1 r.2.2, w ∈ lw_tbl) ∧ Cond.instantiable r.1 r.2.2 ∈ lw_tbl := by
  intro r hr
  simp only [vwCl, List.mem_cons, List.not_mem_nil, or_false] at hr
  rcases hr with rfl | rfl | rfl | rfl | rfl | rfl | rfl | rfl | rfl | rfl | rfl
  · exact ⟨fun w h => gw_lw w (hw_0 w h), by decide +kernel⟩
  · exact ⟨fun w h => gw_lw w (hw_1 w h), by decide +kernel⟩
  · exact ⟨fun w h => gw_lw w (hw_2 w h), by decide +kernel⟩
  · exact ⟨fun w h => gw_lw w (hw_3 w h), by decide +kernel⟩
  · exact ⟨fun w h => gw_lw w (hw_4 w h), by decide +kernel⟩
  · exact ⟨fun w h => gw_lw w (hw_5 w h), by decide +kernel⟩
  · exact ⟨fun w h => gw_lw w (hw_6 w h), by decide +kernel⟩
  · exact ⟨fun w h => gw_lw w (hw_7 w h), by decide +kernel⟩
  · exact ⟨fun w h => gw_lw w (hw_8 w h), by decide +kernel⟩
  · exact ⟨fun w h => gw_lw w (hw_9 w h), by decide +kernel⟩
  · exact ⟨fun w h => gw_lw w (hw_10 w h), by decide +kernel⟩
theorem cls_ok {s : State} {b : Nat} (hts : ∀ w ∈ lw_tbl, w.before #[Value.ref b] s = true) : ∃ D : va_G, ∀ (ci : Nat) (r : vw_C), vwCl[ci]? = some r → u_Kn s r.1 r.2.1 r.2.2 (D.1 ci) (D.2 ci) := by
  have h : ∀ ci : Nat, ∃ D : ClassId × (Nat → Nat), ∀ r : vw_C, vwCl[ci]? = some r → u_Kn s r.1 r.2.1 r.2.2 D.1 D.2 := by
    intro ci
    cases hq : vwCl[ci]? with
    | none => exact ⟨(0, fun _ => 0), fun r hr => by cases hr⟩
    | some r =>
      obtain ⟨h1, h2⟩ := cl_in r (List.mem_of_getElem? hq)
      obtain ⟨cC, iS, hk⟩ := u_known (ws := lw_tbl) hts h1 (hts _ h2)
      exact ⟨(cC, iS), fun r' hr => by cases hr; exact hk⟩
  exact ⟨(fun ci => (Classical.choose (h ci)).1, fun ci => (Classical.choose (h ci)).2), fun ci r hr => Classical.choose_spec (h ci) r hr⟩
theorem arr_ok {s : State} {b : Nat} (hts : ∀ w ∈ lw_tbl, w.before #[Value.ref b] s = true) : ∃ cA : Nat → ClassId, ∀ (k : Nat) (q : ClassId × FieldType), (tyL cA)[k]? = some q → ArrOfT s q.1 q.2 ∧ va_RA s q.1 q.2 := by
  obtain ⟨c1, k1, m1, a1, b1, d1⟩ := Cond.arrayClass_spec (hts (.arrayClass .char) (by decide +kernel))
  obtain ⟨c2, k2, m2, a2, b2, d2⟩ := Cond.arrayClass_spec (hts (.arrayClass .int) (by decide +kernel))
  obtain ⟨c3, k3, m3, a3, b3, d3⟩ := Cond.arrayClass_spec (hts (.arrayClass .long) (by decide +kernel))
  obtain ⟨c4, k4, m4, a4, b4, d4⟩ := Cond.arrayClass_spec (hts (.arrayClass .boolean) (by decide +kernel))
  obtain ⟨m5, c5, k5, a5, -, b5, d5, e5⟩ := Cond.arrayOver_spec (hts (.arrayOver (.object RX0)) (by decide +kernel))
  obtain ⟨m6, c6, k6, a6, -, b6, d6, e6⟩ := arrayOverA_spec (hts (.arrayOver (.array .int)) (by decide +kernel))
  have ao : ∀ (c : ClassId) (k : Class) (m : ClassId) (ty : FieldType), s.vm.classes[c]? = some k → k.kind = .array m ty → ArrOfT s c ty := fun c k m ty hk hkd => fun n z => ⟨fun q h => (by cases h), k, hk, m, hkd⟩
  refine ⟨fun k => if k = 101 then c1 else if k = 102 then c2 else if k = 103 then c3 else if k = 104 then c4 else if k = 105 then c5 else c6, fun k q hq => ?_⟩
  match k, hq with
  | 0, hq => cases hq; exact ⟨ao _ _ _ _ b1 d1, a1⟩
  | 1, hq => cases hq; exact ⟨ao _ _ _ _ b2 d2, a2⟩
  | 2, hq => cases hq; exact ⟨ao _ _ _ _ b3 d3, a3⟩
  | 3, hq => cases hq; exact ⟨ao _ _ _ _ b4 d4, a4⟩
  | 4, hq => cases hq; exact ⟨ao _ _ _ _ b5 d5, ⟨k5, m5, b5, d5, a5, e5⟩⟩
  | 5, hq => cases hq; exact ⟨ao _ _ _ _ b6 d6, e6⟩
  | n + 6, hq => cases hq
