/-! ===== at first ===== -/
abbrev H0 : HP := nw zX10_init_L (103, 1)
theorem H0_1 : H0.1 = SL := by decide +kernel
theorem S0_SL : SL = S0 := H0_1.symm
theorem H0_R : RT.all (fun e => H0.2.2.2 e.1 e.2.1 == some e.2.2) = true := by decide +kernel
theorem H0_r : H0.2.2.2 0 12 = some 170 ∧ H0.2.2.2 0 13 = some 173 ∧ H0.2.2.2 0 14 = some 176 ∧ H0.2.2.2 0 15 = some 182 := by decide +kernel
theorem H0_SH : SH false false H0 := ⟨H0_1, fun e he => beq_iff_eq.mp (List.all_eq_true.mp H0_R e he), H0_r.1, H0_r.2.1, H0_r.2.2.1, H0_r.2.2.2⟩
def z0L : List (Nat × Nat) := [(5, 2), (188, 3), (1, 1), (188, 12), (3, 1), (188, 1), (26, 1), (26, 2), (188, 25), (188, 4), (216, 0), (216, 1), (216, 2), (165, 3), (168, 0), (188, 39), (188, 21), (5, 4), (5, 5), (5, 6), (193, 25), (193, 26), (193, 27)]
theorem H0_z : z0L.all (fun e => H0.2.1 e.1 e.2 == n32 0) = true := by decide +kernel
theorem H0_v : H0.2.1 5 3 = n32 2 ∧ H0.2.1 193 24 = n32 2 ∧ H0.2.1 134 2 = -n32 1 ∧ H0.2.1 141 2 = -n32 1 ∧ H0.2.1 148 2 = -n32 1 ∧ H0.2.1 170 2 = n32 1 ∧ H0.2.1 188 5 = n32 1 ∧ H0.2.1 171 0 = -n32 1 ∧ H0.2.1 172 0 = n32 0 ∧ H0.2.1 190 0 = -n32 1 ∧ H0.2.1 191 0 = n32 0 ∧ H0.2.1 176 5 = n32 7 := by decide +kernel
theorem H0_s : (List.range 7).all (fun i => H0.2.1 177 i == n32 (L0.getD i 0)) = true := by decide +kernel
theorem H0_c : (List.range 2).all (fun k => (List.range 6).all (fun m => H0.2.1 (7 + k) m == n32 0 && H0.2.1 (10 + k) m == n32 0)) = true := by decide +kernel
theorem H0_m : (List.range 24).all (fun j => H0.2.1 193 j == n32 0) = true := by decide +kernel
theorem H0_zz {a j : Nat} (h : z0L.contains (a, j) = true) : H0.2.1 a j = n32 0 := beq_iff_eq.mp (List.all_eq_true.mp H0_z (a, j) (by simpa using h))
def r0 : Nat → Nat := fun j => if j = 24 then 2 else 0
theorem r0_0 {j : Nat} (h : j ≠ 24) : r0 j = 0 := if_neg h
theorem H0_cc {k m : Nat} (hk : k < 2) (hm : m < 6) : H0.2.1 (7 + k) m = n32 0 ∧ H0.2.1 (10 + k) m = n32 0 := by
  have h1 := List.all_eq_true.mp (List.all_eq_true.mp H0_c k (List.mem_range.mpr hk)) m (List.mem_range.mpr hm)
  rw [Bool.and_eq_true, beq_iff_eq, beq_iff_eq] at h1
  exact h1
theorem H0_CR : CR H0 5 r0 := by
  refine ⟨fun k m hk hm => ?_, fun k m hk hm => ?_, ?_, ?_, ?_, ?_⟩
  · rw [r0_0 (by omega)]
    exact (H0_cc hk hm).1
  · rw [r0_0 (by omega)]
    exact (H0_cc hk hm).2
  · exact H0_v.1
  · rw [r0_0 (by omega)]; exact H0_zz (by decide)
  · rw [r0_0 (by omega)]; exact H0_zz (by decide)
  · rw [r0_0 (by omega)]; exact H0_zz (by decide)
theorem H0_MR : MR H0 193 r0 := fun j hj => by
  by_cases q : j < 24
  · rw [r0_0 (by omega)]
    exact beq_iff_eq.mp (List.all_eq_true.mp H0_m j (List.mem_range.mpr q))
  · rcases (show j = 24 ∨ j = 25 ∨ j = 26 ∨ j = 27 by omega) with rfl | rfl | rfl | rfl
    · exact H0_v.2.1
    · rw [r0_0 (by omega)]; exact H0_zz (by decide)
    · rw [r0_0 (by omega)]; exact H0_zz (by decide)
    · rw [r0_0 (by omega)]; exact H0_zz (by decide)
theorem Inv_0 : Inv 0 H0 := by
  obtain ⟨v1, v2, v3, v4, v5, v6, v7, v8, v9, v10, v11, v12⟩ := H0_v
  refine ⟨false, false, 0, H0_SH, ⟨by omega, H0_zz (by decide), H0_zz (by decide)⟩, ⟨fun _ => 0, 0, by omega, fun i hi => absurd hi (Nat.not_lt_zero i), ⟨H0_zz (by decide), fun i hi => absurd hi (Nat.not_lt_zero i)⟩, ⟨H0_zz (by decide), fun i hi => absurd hi (Nat.not_lt_zero i)⟩⟩, ⟨[], ⟨by decide, H0_zz (by decide), fun i hi => absurd hi (Nat.not_lt_zero i)⟩, ⟨H0_zz (by decide), fun i hi => absurd hi (Nat.not_lt_zero i)⟩⟩, ⟨r0, H0_CR, H0_MR, ⟨fun j hj => by rw [r0_0 (by omega)]; omega, by decide, by decide, by decide, by decide⟩, fun k m hk h1 h2 => ⟨r0_0 (by omega), r0_0 (by omega)⟩⟩, ⟨fun _ => 1, fun m hm => absurd hm (Nat.not_lt_zero m), fun m hm => absurd hm (Nat.not_lt_zero m), fun m hm => absurd hm (Nat.not_lt_zero m)⟩, ⟨(1, (fun _ => 2), fun _ => 0), ⟨v6, fun i hi => ?_⟩, ⟨v7, fun i hi => ?_⟩, by show (1 : Nat) ≤ 1; omega, by show (1 : Nat) ≤ 8; omega, fun i hi => ⟨by show (2 : Nat) ≤ 2; omega, by show (0 : Nat) ≤ 9990; omega⟩⟩, ⟨[], ⟨v12, fun i hi => ?_⟩, ⟨H0_zz (by decide), fun i hi => absurd hi (Nat.not_lt_zero i)⟩, Or.inl rfl⟩, ⟨0, 0, ⟨by omega, by omega, H0_zz (by decide), H0_zz (by decide), H0_zz (by decide)⟩, fun i hi => absurd hi (Nat.not_lt_zero i)⟩, ⟨0, by omega, H0_zz (by decide), fun i hi => ?_⟩, ⟨0, (fun _ => 0), (fun _ => 0), by omega, fun i hi => absurd hi (Nat.not_lt_zero i), ⟨H0_zz (by decide), fun i hi => absurd hi (Nat.not_lt_zero i), H0_zz (by decide)⟩, ⟨H0_zz (by decide), fun i hi => absurd hi (Nat.not_lt_zero i)⟩⟩⟩
  · have i0 : i = 0 := by have : i < 1 := hi; omega
    subst i0
    exact ⟨v8, v9⟩
  · have i0 : i = 0 := by have : i < 1 := hi; omega
    subst i0
    exact ⟨v10, v11⟩
  · exact beq_iff_eq.mp (List.all_eq_true.mp H0_s i (List.mem_range.mpr hi))
  · rcases (show i = 0 ∨ i = 1 ∨ i = 2 by omega) with rfl | rfl | rfl
    · exact Or.inl ⟨H0_zz (by decide), v3⟩
    · exact Or.inl ⟨H0_zz (by decide), v4⟩
    · exact Or.inl ⟨H0_zz (by decide), v5⟩
