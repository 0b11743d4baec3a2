/-! ===== making: constructors over the abstract heap ===== -/
def cs (x : Cx) (c n : Nat) : Cx := match x with
  | (p, l, e, R, s, m, args, below, meth, k, fin, D, cA, A, ad, _, _) => (p, l, e, R, s, m, args, below, meth, k, fin, D, cA, A, ad, c, n)
def Al (x : Cx) (n0 : Nat) : Prop := match x with
  | (p, l, e, R, s, m, args, below, meth, k, fin, D, cA, A, ad, _, _) => (∃ base : Nat, (∀ k : Nat, k < SB → ad k = base + k) ∧ s.heap.size = base + n0) ∧ n0 + 2000 ≤ SB
/-- rows of rows and rows of objects: the tables' words, held by a state -/
def Ao (U : State) : Prop := va_AO RX0 U ∧ va_AOA .int U
theorem AOA_moved {t : FieldType} {u U : State} (hvm : u.vm.Alike U.vm) (h : va_AOA t u) : va_AOA t U := by
  obtain ⟨comp, c, k, h1, h2, h3, h4, h5⟩ := arrayOverA_spec h
  obtain ⟨k', hk', he⟩ := hvm.2.2 _ _ h3
  have hi : (U.vm.classes.findIdx? fun (x : Class) => match x.kind with | .array component _ => component == comp | _ => false) = some c := by
    have e1 := va_idx_bare U.vm comp
    have e2 := va_idx_bare u.vm comp
    first | rw [hvm.bare_eq] at e1 | rw [← hvm.bare_eq] at e1
    exact e1.symm.trans (e2.trans h2)
  have hkind : k'.kind = .array comp (.array t) := by rw [he]; exact h4
  have f1 : U.vm.findClass (FieldType.array t).toString = some comp := by rw [hvm.findClass]; exact h1
  have f2 : U.vm.findClass ("[" ++ (FieldType.array t).toString) = some c := by rw [hvm.findClass]; exact h5
  unfold va_AOA Cond.before Cond.holds
  simp only [Cond.value]
  rw [f1, Option.bind_some]
  refine (congrArg (fun o : Option Nat => (o.bind (fun c => (U.vm.classes[c]?).map fun (k : Class) => match k.kind with | .array _ ty => decide (ty = FieldType.array t) && decide (U.vm.findClass ("[" ++ (FieldType.array t).toString) = some c) | _ => false) == some true)) hi).trans ?_
  simp [hk', hkind, f2]
theorem Ao.moved {u U : State} (hvm : u.vm.Alike U.vm) (h : Ao u) : Ao U := ⟨va_AO.moved hvm h.1, AOA_moved hvm h.2⟩
def AoX (x : Cx) : Prop := match x with
  | (p, l, e, R, s, m, args, below, meth, k, fin, D, cA, A, ad, _, _) => Ao s
def Ini (x : Cx) : Prop := match x with
  | (p, l, e, R, s, m, args, below, meth, k, fin, D, cA, A, ad, _, _) => meth.name = "<init>"
def nw (h : HP) (kn : Nat × Nat) : HP := (h.1 ++ [kn], va_up h.2.1 h.1.length (fun _ => 0), va_up h.2.2.1 h.1.length (fun _ => 0), va_up h.2.2.2 h.1.length (fun _ => none))
/-- two rows of six in a row of rows -/
def nwM (h : HP) (n k : Nat) : HP := (h.1 ++ (106, n) :: List.replicate n (102, k), (fun a => if h.1.length ≤ a then (fun _ => 0) else h.2.1 a), (fun a => if h.1.length ≤ a then (fun _ => 0) else h.2.2.1 a), (fun a => if h.1.length ≤ a then (if a = h.1.length then (fun i => if i < n then some (h.1.length + 1 + i) else none) else fun _ => none) else h.2.2.2 a))
theorem nw_len {h : HP} {kn : Nat × Nat} : (nw h kn).1.length = h.1.length + 1 := by simp [nw]
theorem nwM_len {h : HP} {n k : Nat} : (nwM h n k).1.length = h.1.length + (1 + n) := by simp [nwM]; omega
theorem ws_len {cA : Nat → ClassId} {ad : Nat → Nat} {h : HP} : (ws cA ad h).length = h.1.length := by simp [ws]
theorem ws_app {cA : Nat → ClassId} {ad : Nat → Nat} {h h' : HP} {t : List (Nat × Nat)} (h1 : h'.1 = h.1 ++ t) (ho : ∀ b : Nat, b < h.1.length → h'.2.1 b = h.2.1 b ∧ h'.2.2.1 b = h.2.2.1 b ∧ h'.2.2.2 b = h.2.2.2 b) :
    ws cA ad h' = ws cA ad h ++ t.mapIdx (fun i kn => (ad (i + h.1.length), ent cA ad h' (i + h.1.length) kn)) := by
  unfold ws
  rw [h1, List.mapIdx_append]
  congr 1
  apply List.ext_getElem?
  intro i
  simp only [List.getElem?_mapIdx]
  cases hq : h.1[i]? with
  | none => rfl
  | some q =>
    obtain ⟨e1, e2, e3⟩ := ho i (List.getElem?_eq_some_iff.mp hq).1
    simp [ent_cong e1 e2 e3]
theorem ws_nw {cA : Nat → ClassId} {ad : Nat → Nat} {h : HP} {kn : Nat × Nat} : ws cA ad (nw h kn) = ws cA ad h ++ [(ad h.1.length, ent cA ad (nw h kn) h.1.length kn)] := by
  rw [ws_app (h := h) (h' := nw h kn) rfl (fun b hb => ⟨va_up_ne _ _ (by omega), va_up_ne _ _ (by omega), va_up_ne _ _ (by omega)⟩)]
  simp
/-- where the next cell comes -/
theorem sz_at {p : Program} {l : Launch} {e : Env} {R : Room} {s T : State} {m : MethodId} {args : Array Value} {below : List Frame} {meth : Method} {c : Code} {D : va_G} {cA : Nat → ClassId} {ad : Nat → Nat} {kc ks n0 : Nat} {locs : List Loc} {h : HP}
    (X : Stand p l e R s m args below meth c T locs kc ks) (hP : va_P D vwCl (ws cA ad h) T.heap) (al : (∃ base : Nat, (∀ k : Nat, k < SB → ad k = base + k) ∧ s.heap.size = base + n0) ∧ n0 + 2000 ≤ SB) (hl : h.1.length = n0 + kc) (hk : kc < 2000) : T.heap.size = ad h.1.length := by
  obtain ⟨⟨base, had, hsz⟩, hn⟩ := al
  have h1 : T.heap.size ≤ s.heap.size + kc := X.same.2.2.1
  have h0 : s.heap.size ≤ T.heap.size := X.same.2.1
  rw [had _ (by omega)]
  rcases Nat.eq_zero_or_pos kc with hz | hz
  · omega
  · have hlt : h.1.length - 1 < h.1.length := by omega
    have hw := ws_at (cA := cA) (ad := ad) (h := h) (a := h.1.length - 1) (List.getElem?_eq_getElem hlt)
    have h2 := (hP _ _ hw).lt
    have h3 : ad (h.1.length - 1) = base + (h.1.length - 1) := had _ (by omega)
    have h2' : ad (h.1.length - 1) < T.heap.size := h2
    omega
def dv : Nat → Value := fun t => match t with
  | 0 => .int 0
  | 1 => .long 0
  | _ => .null
theorem flds_nw {ad : Nat → Nat} {h : HP} {ci k : Nat} {j t : Nat} (ht : (sty ci)[j]? = some t) : vp_V (flds ad (nw h (ci, k)) h.1.length ci) j = dv t := by
  have e := flds_get (ad := ad) (h := nw h (ci, k)) (a := h.1.length) ht
  unfold vp_V
  rw [List.getD_eq_getElem?_getD, e]
  show fval ad (nw h (ci, k)) h.1.length j t = dv t
  unfold fval dv nw
  split <;> simp [va_up, va_rf]
section Alloc
variable {x : Cx} {cc : ByteArray} {own : String} {nL f pc : Nat} {L : List (Nat × Value)} {st : List Value} {h : HP} {c n c2 n2 n0 : Nat}
theorem wp_new (ok : Okx (cs x c n) cc own nL f) (ok2 : Okx (cs x c2 n2) cc own nL f) (al : Al x n0) (hl : h.1.length = n0 + c) (hk : Nat.blt c 2000 = true) {ci index k N : Nat} {C : String} {T : u_T} (ty : Nat → FieldType) (hc : vwCl[ci]? = some (C, T, N)) (h100 : Nat.blt ci 100 = true) (hw : ∀ w ∈ u_ws C T N, w ∈ gw) (hty : ∀ k, k < N → parseFieldDescriptor (T k).2.2.1 = some (ty k)) (hdf : ∀ j, j < N → (sty ci)[j]?.map dv = some (defaultValue (ty j)))
    (hcl : Cond.classLink own index C ∈ gw) (hin : Cond.instantiable C N ∈ gw) (hini : Cond.initialized C ∈ gw) (hc2 : c + 1 = c2) (hn2 : n + N = n2) (d : decode cc pc = .ok (.new index, 3)) (kk : wp (cs x c2 n2) (pc + 3) L (.ref h.1.length :: st) (nw h (ci, k))) : wp (cs x c n) pc L st h := by
  obtain ⟨p, l, e, R, s, m, args, below, meth, c0, fin, D, cA, A, ad, kc, ks⟩ := x
  obtain ⟨hx, hb, hown, hml, hts, hK, hA, hSt, hlk, hfr, hlo, hkc, hks⟩ := (show Okx (p, l, e, R, s, m, args, below, meth, c0, fin, D, cA, A, ad, c, n) cc own nL f from ok)
  obtain ⟨-, -, -, -, -, -, -, -, -, -, -, hkc2, hks2⟩ := (show Okx (p, l, e, R, s, m, args, below, meth, c0, fin, D, cA, A, ad, c2, n2) cc own nL f from ok2)
  have kk' : wp (p, l, e, R, s, m, args, below, meth, c0, fin, D, cA, A, ad, c2, n2) (pc + 3) L (.ref h.1.length :: st) (nw h (ci, k)) := kk
  show wp (p, l, e, R, s, m, args, below, meth, c0, fin, D, cA, A, ad, c, n) pc L st h
  intro H locs ls hP hD hS hl0 T0 hT X
  subst hc2
  subst hn2
  have hsz : H.size = ad h.1.length := by rw [← hT]; exact sz_at X (by rw [hT]; exact hP) al hl (by simpa [Nat.blt_eq] using hk)
  have hKn := hK.1 ci _ hc
  refine (W.newcK hx hb hown (hts _ hcl) (hts _ hin) (hts _ hini) (g := F0 m pc ls (st.map (tr ad))) rfl d hkc2 hks2 hKn.2.1 hsz fun H1 kC hkC e1 z1 o1 => ?_) T0 hT X
  have hk1 : ∀ (k : Nat) (x : Nat × va_E), (ws cA ad h)[k]? = some x → H1[x.1]? = H[x.1]? := fun k x hx => o1 x.1 (by rw [← hsz]; exact (hP k x hx).lt)
  have hAn : A (ad h.1.length) := hA _ (by rw [← hsz]; exact hS.1)
  have he : ent cA ad (nw h (ci, k)) h.1.length (ci, k) = .inr (ci, flds ad (nw h (ci, k)) h.1.length ci) := ent_obj (by simpa [Nat.blt_eq] using h100)
  refine kk' H1 locs ls ?_ ?_ ⟨Nat.le_trans hS.1 (by rw [z1]; omega), fun q h1 h2 => (o1 q (by rw [← hsz]; exact Nat.lt_of_lt_of_le h1 hS.1)).trans (hS.2.1 q h1 h2), hS.2.2⟩ hl0
  · rw [ws_nw]
    refine (hP.kept hk1).app (fun j q hq => ?_)
    have hz : j < 1 := (List.getElem?_eq_some_iff.mp hq).1
    rw [show j = 0 by omega] at hq
    cases hq
    rw [he]
    refine ⟨_, hc, (u_born ty (fun w hw0 => hts w hw0) hw hKn hkC e1 hty).to (fun j hj => ?_)⟩
    have hj2 := hdf j hj
    cases ht : (sty ci)[j]? with
    | none => rw [ht] at hj2; cases hj2
    | some t =>
      rw [ht] at hj2
      rw [flds_nw ht]
      exact (Option.some.inj hj2).symm
  · rw [ws_nw]
    exact hD.push hP hsz.symm hAn

theorem wp_newaX (ok : Okx (cs x c n) cc own nL f) (ok2 : Okx (cs x c2 n2) cc own nL f) (al : Al x n0) (hl : h.1.length = n0 + c) (hk : Nat.blt c 2000 = true) {atype : ArrayType} {kd t0 N : Nat} {v : Int32} {ty : FieldType} (hty : newarray.typeOf atype = ty) (ht : ∀ cA : Nat → ClassId, (tyL cA)[t0]? = some (cA kd, ty)) (hpr : ∀ (U : State) (c : ClassId), va_RA U c ty → U.vm.findClass ("[" ++ ty.toString) = some c) (hk1 : 100 ≤ kd)
    (hcell : ∀ (cA : Nat → ClassId) (ad : Nat → Nat), ∃ z : vp_A, aent cA ad (nw h (kd, N)) h.1.length kd N = .inl (cA kd, z) ∧ vp_cell (cA kd) z = arrV (cA kd) N (fun _ => defaultValue ty)) (hw : Cond.arrayClass ty ∈ gw) (hv : ¬ v < 0) (hN : v.toNatClampNeg = N) (hbytes : N * componentBytes ty ≤ 536870912) (hc2 : c + 1 = c2) (hn2 : n + N = n2) (d : decode cc pc = .ok (.newarray atype, 2)) (kk : wp (cs x c2 n2) (pc + 2) L (.ref h.1.length :: st) (nw h (kd, N))) : wp (cs x c n) pc L (.int v :: st) h := by
  obtain ⟨p, l, e, R, s, m, args, below, meth, c0, fin, D, cA, A, ad, kc, ks⟩ := x
  obtain ⟨hx, hb, hown, hml, hts, hK, hA, hSt, hlk, hfr, hlo, hkc, hks⟩ := (show Okx (p, l, e, R, s, m, args, below, meth, c0, fin, D, cA, A, ad, c, n) cc own nL f from ok)
  obtain ⟨-, -, -, -, -, -, -, -, -, -, -, hkc2, hks2⟩ := (show Okx (p, l, e, R, s, m, args, below, meth, c0, fin, D, cA, A, ad, c2, n2) cc own nL f from ok2)
  have kk' : wp (p, l, e, R, s, m, args, below, meth, c0, fin, D, cA, A, ad, c2, n2) (pc + 2) L (.ref h.1.length :: st) (nw h (kd, N)) := kk
  show wp (p, l, e, R, s, m, args, below, meth, c0, fin, D, cA, A, ad, c, n) pc L (.int v :: st) h
  intro H locs ls hP hD hS hl0 T0 hT X
  subst hc2
  subst hn2
  subst hty
  have hsz : H.size = ad h.1.length := by rw [← hT]; exact sz_at X (by rw [hT]; exact hP) al hl (by simpa [Nat.blt_eq] using hk)
  refine (va_newaK hx hb (hts _ hw) (g := F0 m pc ls (.int v :: st.map (tr ad))) rfl d rfl hv hN hbytes hkc2 hks2 hsz fun H1 cA' e1 z1 o1 hAr hNm => ?_) T0 hT X
  have hc' : cA' = cA kd := Option.some.inj (hNm.symm.trans (hpr s (cA kd) (hK.2 t0 _ (ht cA)).2))
  subst hc'
  have hk9 : ∀ (k : Nat) (x : Nat × va_E), (ws cA ad h)[k]? = some x → H1[x.1]? = H[x.1]? := fun k x hx => o1 x.1 (by rw [← hsz]; exact (hP k x hx).lt)
  have hAn : A (ad h.1.length) := hA _ (by rw [← hsz]; exact hS.1)
  obtain ⟨z, hz1, hz2⟩ := hcell cA ad
  have he : ent cA ad (nw h (kd, N)) h.1.length (kd, N) = .inl (cA kd, z) := by
    unfold ent
    rw [if_neg (by show ¬ kd < 100; omega)]
    exact hz1
  refine kk' H1 locs ls ?_ ?_ ⟨Nat.le_trans hS.1 (by rw [z1]; omega), fun q h1 h2 => (o1 q (by rw [← hsz]; exact Nat.lt_of_lt_of_le h1 hS.1)).trans (hS.2.1 q h1 h2), hS.2.2⟩ hl0
  · rw [ws_nw]
    refine (hP.kept hk9).app (fun j q hq => ?_)
    have hz : j < 1 := (List.getElem?_eq_some_iff.mp hq).1
    rw [show j = 0 by omega] at hq
    cases hq
    rw [he]
    show H1[ad h.1.length]? = some (vp_cell _ _)
    rw [hz2]
    exact e1
  · rw [ws_nw]
    exact hD.push hP hsz.symm hAn
theorem cell_I {kd N : Nat} {ty : FieldType} (hk : kd = 101 ∨ kd = 102 ∨ kd = 104) (ht : defaultValue ty = .int 0) (cA : Nat → ClassId) (ad : Nat → Nat) : ∃ z : vp_A, aent cA ad (nw h (kd, N)) h.1.length kd N = .inl (cA kd, z) ∧ vp_cell (cA kd) z = arrV (cA kd) N (fun _ => defaultValue ty) := by
  refine ⟨(N, .inl (fun _ => 0)), ?_, ?_⟩
  · rcases hk with rfl | rfl | rfl <;> simp [aent, nw, va_up]
  · rw [vp_cell_i, ht]
theorem cell_J {N : Nat} (cA : Nat → ClassId) (ad : Nat → Nat) : ∃ z : vp_A, aent cA ad (nw h (103, N)) h.1.length 103 N = .inl (cA 103, z) ∧ vp_cell (cA 103) z = arrV (cA 103) N (fun _ => defaultValue .long) := by
  refine ⟨(N, .inr (.inl (fun _ => 0))), ?_, ?_⟩
  · simp [aent, nw, va_up]
  · rw [vp_cell_l]; rfl
theorem wp_anew (ok : Okx (cs x c n) cc own nL f) (ok2 : Okx (cs x c2 n2) cc own nL f) (al : Al x n0) (hl : h.1.length = n0 + c) (hk : Nat.blt c 2000 = true) {index N : Nat} {v : Int32} (hcl : Cond.classLink own index RX0 ∈ gw) (ao : AoX x) (hv : ¬ v < 0) (hN : v.toNatClampNeg = N) (hbytes : N * 4 ≤ 536870912) (hc2 : c + 1 = c2) (hn2 : n + N = n2) (d : decode cc pc = .ok (.anewarray index, 3)) (kk : wp (cs x c2 n2) (pc + 3) L (.ref h.1.length :: st) (nw h (105, N))) : wp (cs x c n) pc L (.int v :: st) h := by
  obtain ⟨p, l, e, R, s, m, args, below, meth, c0, fin, D, cA, A, ad, kc, ks⟩ := x
  obtain ⟨hx, hb, hown, hml, hts, hK, hA, hSt, hlk, hfr, hlo, hkc, hks⟩ := (show Okx (p, l, e, R, s, m, args, below, meth, c0, fin, D, cA, A, ad, c, n) cc own nL f from ok)
  obtain ⟨-, -, -, -, -, -, -, -, -, -, -, hkc2, hks2⟩ := (show Okx (p, l, e, R, s, m, args, below, meth, c0, fin, D, cA, A, ad, c2, n2) cc own nL f from ok2)
  have kk' : wp (p, l, e, R, s, m, args, below, meth, c0, fin, D, cA, A, ad, c2, n2) (pc + 3) L (.ref h.1.length :: st) (nw h (105, N)) := kk
  show wp (p, l, e, R, s, m, args, below, meth, c0, fin, D, cA, A, ad, c, n) pc L (.int v :: st) h
  intro H locs ls hP hD hS hl0 T0 hT X
  subst hc2
  subst hN
  subst hn2
  have hsz : H.size = ad h.1.length := by rw [← hT]; exact sz_at X (by rw [hT]; exact hP) al hl (by simpa [Nat.blt_eq] using hk)
  refine (W.anew hx hb hown (hts _ hcl) (va_AO.use (show Ao s from ao).1) (g := F0 m pc ls (.int v :: st.map (tr ad))) rfl d rfl hv hbytes hkc2 hks2 fun cA' kA comp f1 f2 f3 f4 => ?_) T0 hT X
  have hc' : cA' = cA 105 := by
    obtain ⟨_, _, _, _, _, g4⟩ := (hK.2 4 _ rfl).2
    exact Option.some.inj (f1.symm.trans g4)
  subst hc'
  generalize hH1 : H.push ({ cls := cA 105, slots := Array.replicate v.toNatClampNeg .null, vm := .none } : Cell) = H1
  have z1 : H1.size = H.size + 1 := by rw [← hH1, Array.size_push]
  have e1 : H1[H.size]? = some (arrV (cA 105) v.toNatClampNeg (fun _ => .null)) := by rw [← hH1, Array.getElem?_push_size, ← arrV_new]
  have o1 : ∀ q : Nat, q < H.size → H1[q]? = H[q]? := fun q hq => by rw [← hH1, Array.getElem?_push, if_neg (Nat.ne_of_lt hq)]
  have hk9 : ∀ (k : Nat) (x : Nat × va_E), (ws cA ad h)[k]? = some x → H1[x.1]? = H[x.1]? := fun k x hx => o1 x.1 ((hP k x hx).lt)
  have hAn : A (ad h.1.length) := hA _ (by rw [← hsz]; exact hS.1)
  have he : ent cA ad (nw h (105, v.toNatClampNeg)) h.1.length (105, v.toNatClampNeg) = .inl (cA 105, v.toNatClampNeg, .inr (.inr (.inr (.inr (fun _ => none))))) := by
    simp [ent, aent, nw, va_up]
  rw [hsz] at e1 ⊢
  refine kk' H1 locs ls ?_ ?_ ⟨Nat.le_trans hS.1 (by rw [z1]; omega), fun q h1 h2 => (o1 q (Nat.lt_of_lt_of_le h1 hS.1)).trans (hS.2.1 q h1 h2), hS.2.2⟩ hl0
  · rw [ws_nw]
    refine (hP.kept hk9).app (fun j q hq => ?_)
    have hz : j < 1 := (List.getElem?_eq_some_iff.mp hq).1
    rw [show j = 0 by omega] at hq
    cases hq
    rw [he]
    show H1[ad h.1.length]? = some (vp_cell _ _)
    rw [vp_cell_q]
    exact e1
  · rw [ws_nw]
    exact hD.push hP hsz.symm hAn
theorem wp_objI (ok : Okx x cc own nL f) {index a : Nat} (hf : 1 ≤ f) (hlink : Cond.methodLink own index Lib.objectInit ∈ gw) (hinst : Cond.instanceMethod Lib.objectInit ∈ gw) (hcode : Cond.code Lib.objectInit ⟨#[0xb1]⟩ 1 none ∈ gw) (d : decode cc pc = .ok (.invokespecial index, 3)) (kk : wp x (pc + 3) L [] h) : wp x pc L [.ref a] h := by
  obtain ⟨p, l, e, R, s, m, args, below, meth, c0, fin, D, cA, A, ad, kc, ks⟩ := x
  obtain ⟨hx, hb, hown, hml, hts, hK, hA, hSt, hlk, hfr, hlo, hkc, hks⟩ := ok
  intro H locs ls hP hD hS hl
  exact W.objInit hx hb hown (hts _ hlink) (hts _ hinst) (hts _ hcode) rfl hl.1 rfl d (by omega) (by show 2 * 0 + 0 + 12 ≤ R.locals; omega) (kk H locs ls hP hD hS hl)
/-- a final field in a constructor -/
def FLf (own : String) (index ci k : Nat) : Prop := FL own index ci k 2 ∧ ∃ (C : String) (T : u_T) (N : Nat), vwCl[ci]? = some (C, T, N) ∧ (T k).2.2.2 = true ∧ (T k).1 = own
theorem wp_putRF (ok : Okx x cc own nL f) (ini : Ini x) {a b index ci k n : Nat} (hf : FLf own index ci k) (ha : h.1[a]? = some (ci, n)) (d : decode cc pc = .ok (.putfield index, 3)) (kk : wp x (pc + 3) L st (setR h a k (some b))) : wp x pc L (.ref b :: .ref a :: st) h := by
  obtain ⟨p, l, e, R, s, m, args, below, meth, c, fin, D, cA, A, ad, kc, ks⟩ := x
  obtain ⟨hx, hb, hown, hml, hts, hK, hA, hSt, hlk, hfr, hlo, hkc, hks⟩ := ok
  intro H locs ls hP hD hS hl
  obtain ⟨⟨C, T, N, ty0, ty, h100, hc, hw, hk, hT, hlink, ht, hty, hnm, hd, hp1, hp2⟩, C2, T2, N2, hc2, hfin, hdc⟩ := hf
  cases hc.symm.trans hc2
  have he := ws_at (cA := cA) (ad := ad) ha
  rw [ent_obj h100] at he
  refine va_putF hx hb hts hw ty0 hty hnm hown hK hP hD hS a he hc k hk (hts _ hlink) (fun z hz => by rw [hT] at hz; exact hz) hfin ini hdc hd (hp2 rfl (ad b)).1 (hp2 rfl (ad b)).2 (by rw [flds_len]; exact (List.getElem?_eq_some_iff.mp ht).1) d (fun H1 locs1 hP1 hD1 hS1 => ?_)
  have e1 : (ws cA ad h).set a (ad a, .inr (ci, (flds ad h a ci).set k (.ref (ad b)))) = ws cA ad (setR h a k (some b)) := ws_set rfl ha (fun b q hq => ent_setR hq q) (by rw [ent_obj h100, flds_setR ht])
  exact kk H1 locs1 ls (Eq.mp (congrArg (fun w => va_P D vwCl w H1) e1) hP1) (Eq.mp (congrArg (fun w => va_D A w) e1) hD1) hS1 hl
theorem wp_aast (ok : Okx x cc own nL f) {a b n k : Nat} {i : Int32} (ha : h.1[a]? = some (105, n)) (hb2 : h.1[b]? = some (0, k)) (hin : vp_in i n) (d : decode cc pc = .ok (.aastore, 1)) (kk : wp x (pc + 1) L st (setR h a i.toNatClampNeg (some b))) : wp x pc L (.ref b :: .int i :: .ref a :: st) h := by
  obtain ⟨p, l, e, R, s, m, args, below, meth, c, fin, D, cA, A, ad, kc, ks⟩ := x
  obtain ⟨hx, hb, hown, hml, hts, hK, hA, hSt, hlk, hfr, hlo, hkc, hks⟩ := ok
  intro H locs ls hP hD hS hl
  have he : (ws cA ad h)[a]? = some (ad a, aent cA ad h a 105 n) := ws_at (cA := cA) (ad := ad) ha
  have he2 := ws_at (cA := cA) (ad := ad) hb2
  rw [ent_obj (by omega)] at he2
  refine va_astq (r := (RX0, TX0, 7)) hx hb hK hP hD hS a 4 b 0 he rfl he2 rfl hin d (fun H1 locs1 hP1 hD1 hS1 => ?_)
  have e1 : (ws cA ad h).set a (ad a, .inl (cA 105, n, .inr (.inr (.inr (.inr (va_up (fun j => (h.2.2.2 a j).map ad) i.toNatClampNeg (some (ad b)))))))) = ws cA ad (setR h a i.toNatClampNeg (some b)) := ws_set rfl ha (fun b q hq => ent_setR hq q) (by
    have e3 : (fun j => ((setR h a i.toNatClampNeg (some b)).2.2.2 a j).map ad) = va_up (fun j => (h.2.2.2 a j).map ad) i.toNatClampNeg (some (ad b)) := by
      funext j
      by_cases hj : j = i.toNatClampNeg
      · subst hj; simp [setR, va_up]
      · simp [setR, va_up, hj]
    simp only [ent, aent]
    rw [e3]
    rfl)
  exact kk H1 locs1 ls (Eq.mp (congrArg (fun w => va_P D vwCl w H1) e1) hP1) (Eq.mp (congrArg (fun w => va_D A w) e1) hD1) hS1 hl
end Alloc
