set_option maxRecDepth 100000 in
set_option maxHeartbeats 4000000 in
theorem k_X3_thrown (l : Launch) (D : va_G) (g : Nat → ClassId) (A : Nat → Prop) (xm : Nat → Nat) (V : VV)  : MC l yX3_thrown wsX3_thrown ({ frames := 0, cells := 0, slots := 0, locals := 0 } : Room) D g A xm [.ref (xm 0)] V (fun r V1 => V1 = V ∧ r = some (.int (nI (V 25 0)))) := by
  refine k_ofW [(0, .ref (xm 0))] (by decide) rfl (Nat.le_of_ble_eq_true rfl) rfl (by simp [Value.category]) ?_
  intro p e s m args below meth c C
  have i3 : ∀ w ∈ wsX30, w ∈ wsX3_thrown := by decide +kernel
  first | refine g_aload_n C dX3_thrown_0 rfl ?_ | refine g_aload_nq C _ dX3_thrown_0 rfl ?_
  refine mg_thrown C i3 (by decide +kernel) dX3_thrown_1 ?_
  exact g_iret C dX3_thrown_4 rfl (⟨V, rfl, rfl, rfl⟩)
set_option maxRecDepth 100000 in
set_option maxHeartbeats 4000000 in
theorem k_X3_isTransaction (l : Launch) (D : va_G) (g : Nat → ClassId) (A : Nat → Prop) (xm : Nat → Nat) (V : VV) {N : Nat} (hB : BdN V N) (hN : N ≤ 2 ^ 30) (x : Int32) : MC l yX3_isTransaction wsX3_isTransaction ({ frames := 0, cells := 0, slots := 0, locals := 0 } : Room) D g A xm [.ref (xm 0), .int x] V (fun r V1 => V1 = V ∧ ((∃ j : Nat, j < V 16 0 ∧ x = nI j ∧ r = some (.int (nI 1))) ∨ ((∀ j : Nat, j < V 16 0 → x ≠ nI j) ∧ r = some (.int (nI 0))))) := by
  refine k_ofW [(0, .ref (xm 0)), (1, .int x)] (by decide) rfl (Nat.le_of_ble_eq_true rfl) rfl (by simp [Value.category]) ?_
  intro p e s m args below meth c C
  have i3 : ∀ w ∈ wsX30, w ∈ wsX3_isTransaction := by decide +kernel
  refine g_iload_n C dX3_isTransaction_0 rfl ?_
  refine g_ifx_lt C 16 dX3_isTransaction_1 (by decide) (fun c1 => ?_) (fun c1 => ?_)
  · refine g_iconst C 0 dX3_isTransaction_16 (by decide) ?_
    exact g_zret C dX3_isTransaction_17 rfl (by first | exact nar_boolV (by omega) | decide +kernel) (⟨V, rfl, rfl, Or.inr ⟨fun j hj e => nI_pos (Nat.lt_trans hj (bd hB hN 16 0)) (e ▸ c1), rfl⟩⟩)
  · obtain ⟨j, hj, rfl⟩ := nI_of c1
    refine g_iload_n C dX3_isTransaction_4 rfl ?_
    first | refine g_aload_n C dX3_isTransaction_5 rfl ?_ | refine g_aload_nq C _ dX3_isTransaction_5 rfl ?_
    refine mg_count C i3 (by decide +kernel) dX3_isTransaction_6 ?_
    refine g_icmp_ge C 16 dX3_isTransaction_9 (by decide) (by omega) (bd hB hN _ _) (fun c9 => ?_) (fun c9 => ?_)
    · refine g_iconst C 0 dX3_isTransaction_16 (by decide) ?_
      exact g_zret C dX3_isTransaction_17 rfl (by first | exact nar_boolV (by omega) | decide +kernel) (⟨V, rfl, rfl, Or.inr ⟨fun i hi e => absurd ((nI_eq hj (Nat.lt_trans hi (bd hB hN 16 0))).mp e) (by omega), rfl⟩⟩)
    · refine g_iconst C 1 dX3_isTransaction_12 (by decide) ?_
      refine g_goto C 17 dX3_isTransaction_13 (by decide) ?_
      exact g_zret C dX3_isTransaction_17 rfl (by first | exact nar_boolV (by omega) | decide +kernel) (⟨V, rfl, rfl, Or.inl ⟨j, c9, rfl, rfl⟩⟩)

set_option maxRecDepth 100000 in
set_option maxHeartbeats 4000000 in
theorem k_X3_isLive (l : Launch) (D : va_G) (g : Nat → ClassId) (A : Nat → Prop) (xm : Nat → Nat) (V : VV) {N : Nat} (hB : BdN V N) (hN : N ≤ 2 ^ 30) (i : Nat) (hi : i < 60) : MC l yX3_isLive wsX3_isLive ({ frames := 0, cells := 0, slots := 0, locals := 0 } : Room) D g A xm [.ref (xm 0), .int (nI i)] V (fun r V1 => V1 = V ∧ ((V 8 i < 3 ∧ r = some (.int (nI 1))) ∨ (3 ≤ V 8 i ∧ r = some (.int (nI 0))))) := by
  refine k_ofW [(0, .ref (xm 0)), (1, .int (nI i))] (by decide) rfl (Nat.le_of_ble_eq_true rfl) rfl (by simp [Value.category]) ?_
  intro p e s m args below meth c C
  have i3 : ∀ w ∈ wsX30, w ∈ wsX3_isLive := by decide +kernel
  first | refine g_aload_n C dX3_isLive_0 rfl ?_ | refine g_aload_nq C _ dX3_isLive_0 rfl ?_
  refine mg_states C i3 (by decide +kernel) dX3_isLive_1 ?_
  refine g_iload_n C dX3_isLive_4 rfl ?_
  refine ml_states C dX3_isLive_5 (by omega) ?_
  refine g_iconst C 3 dX3_isLive_6 (by decide) ?_
  refine g_icmp_ge C 14 dX3_isLive_7 (by decide) (by first | exact bd hB hN _ _ | omega) (by first | exact bd hB hN _ _ | omega) (fun c7 => ?_) (fun c7 => ?_)
  · refine g_iconst C 0 dX3_isLive_14 (by decide) ?_
    exact g_zret C dX3_isLive_15 rfl (by first | exact nar_boolV (by omega) | decide +kernel) (⟨V, rfl, rfl, by first | exact Or.inl ⟨c7, rfl⟩ | exact Or.inr ⟨c7, rfl⟩⟩)
  · refine g_iconst C 1 dX3_isLive_10 (by decide) ?_
    refine g_goto C 15 dX3_isLive_11 (by decide) ?_
    exact g_zret C dX3_isLive_15 rfl (by first | exact nar_boolV (by omega) | decide +kernel) (⟨V, rfl, rfl, by first | exact Or.inl ⟨c7, rfl⟩ | exact Or.inr ⟨c7, rfl⟩⟩)
set_option maxRecDepth 100000 in
set_option maxHeartbeats 4000000 in
theorem k_X3_fails (l : Launch) (D : va_G) (g : Nat → ClassId) (A : Nat → Prop) (xm : Nat → Nat) (V : VV) (a b : Nat) (ha : a ≤ 1) (hb : b ≤ 1) : MC l yX3_fails wsX3_fails ({ frames := 0, cells := 0, slots := 0, locals := 0 } : Room) D g A xm [.ref (xm 0), .int (nI a), .int (nI b)] V (fun r V1 => (0 < a ∧ 0 < b ∧ V1 = u2 V 25 0 0 ∧ r = some (.int (nI 0))) ∨ (0 < a ∧ b = 0 ∧ V1 = u2 V 25 0 2 ∧ r = some (.int (nI 1))) ∨ (a = 0 ∧ V1 = u2 V 25 0 1 ∧ r = some (.int (nI 1)))) := by
  refine k_ofW [(0, .ref (xm 0)), (1, .int (nI a)), (2, .int (nI b))] (by decide) rfl (Nat.le_of_ble_eq_true rfl) rfl (by simp [Value.category]) ?_
  intro p e s m args below meth c C
  have i3 : ∀ w ∈ wsX30, w ∈ wsX3_fails := by decide +kernel
  first | refine g_aload_n C dX3_fails_0 rfl ?_ | refine g_aload_nq C _ dX3_fails_0 rfl ?_
  refine g_iload_n C dX3_fails_1 rfl ?_
  refine g_if_ne C 9 dX3_fails_2 (by decide) (by omega) (fun c2 => ?_) (fun c2 => ?_)
  · refine g_iload_n C dX3_fails_9 rfl ?_
    refine g_if_ne C 17 dX3_fails_10 (by decide) (by omega) (fun c10 => ?_) (fun c10 => ?_)
    · refine g_iconst C 0 dX3_fails_17 (by decide) ?_
      refine mp_thrown C i3 (by decide +kernel) dX3_fails_18 ?_
      first | refine g_aload_n C dX3_fails_21 rfl ?_ | refine g_aload_nq C _ dX3_fails_21 rfl ?_
      refine mg_thrown C i3 (by decide +kernel) dX3_fails_22 ?_
      refine g_if_eq C 32 dX3_fails_25 (by decide) (by rw [u2_same]; decide) (fun c25 => ?_) (fun c25 => ?_)
      · rw [u2_same] at c25
        refine g_iconst C 0 dX3_fails_32 (by decide) ?_
        exact g_zret C dX3_fails_33 rfl (by first | exact nar_boolV (by omega) | decide +kernel) (⟨_, rfl, by first | exact absurd c25 (by decide) | exact Or.inl ⟨c2, c10, rfl, rfl⟩ | exact Or.inr (Or.inl ⟨c2, c10, rfl, rfl⟩) | exact Or.inr (Or.inr ⟨c2, rfl, rfl⟩)⟩)
      · rw [u2_same] at c25
        refine g_iconst C 1 dX3_fails_28 (by decide) ?_
        refine g_goto C 33 dX3_fails_29 (by decide) ?_
        exact g_zret C dX3_fails_33 rfl (by first | exact nar_boolV (by omega) | decide +kernel) (⟨_, rfl, by first | exact absurd c25 (by decide) | exact Or.inl ⟨c2, c10, rfl, rfl⟩ | exact Or.inr (Or.inl ⟨c2, c10, rfl, rfl⟩) | exact Or.inr (Or.inr ⟨c2, rfl, rfl⟩)⟩)
    · refine g_iconst C 2 dX3_fails_13 (by decide) ?_
      refine g_goto C 18 dX3_fails_14 (by decide) ?_
      refine mp_thrown C i3 (by decide +kernel) dX3_fails_18 ?_
      first | refine g_aload_n C dX3_fails_21 rfl ?_ | refine g_aload_nq C _ dX3_fails_21 rfl ?_
      refine mg_thrown C i3 (by decide +kernel) dX3_fails_22 ?_
      refine g_if_eq C 32 dX3_fails_25 (by decide) (by rw [u2_same]; decide) (fun c25 => ?_) (fun c25 => ?_)
      · rw [u2_same] at c25
        refine g_iconst C 0 dX3_fails_32 (by decide) ?_
        exact g_zret C dX3_fails_33 rfl (by first | exact nar_boolV (by omega) | decide +kernel) (⟨_, rfl, by first | exact absurd c25 (by decide) | exact Or.inl ⟨c2, c10, rfl, rfl⟩ | exact Or.inr (Or.inl ⟨c2, c10, rfl, rfl⟩) | exact Or.inr (Or.inr ⟨c2, rfl, rfl⟩)⟩)
      · rw [u2_same] at c25
        refine g_iconst C 1 dX3_fails_28 (by decide) ?_
        refine g_goto C 33 dX3_fails_29 (by decide) ?_
        exact g_zret C dX3_fails_33 rfl (by first | exact nar_boolV (by omega) | decide +kernel) (⟨_, rfl, by first | exact absurd c25 (by decide) | exact Or.inl ⟨c2, c10, rfl, rfl⟩ | exact Or.inr (Or.inl ⟨c2, c10, rfl, rfl⟩) | exact Or.inr (Or.inr ⟨c2, rfl, rfl⟩)⟩)
  · refine g_iconst C 1 dX3_fails_5 (by decide) ?_
    refine g_goto C 18 dX3_fails_6 (by decide) ?_
    refine mp_thrown C i3 (by decide +kernel) dX3_fails_18 ?_
    first | refine g_aload_n C dX3_fails_21 rfl ?_ | refine g_aload_nq C _ dX3_fails_21 rfl ?_
    refine mg_thrown C i3 (by decide +kernel) dX3_fails_22 ?_
    refine g_if_eq C 32 dX3_fails_25 (by decide) (by rw [u2_same]; decide) (fun c25 => ?_) (fun c25 => ?_)
    · rw [u2_same] at c25
      refine g_iconst C 0 dX3_fails_32 (by decide) ?_
      exact g_zret C dX3_fails_33 rfl (by first | exact nar_boolV (by omega) | decide +kernel) (⟨_, rfl, by first | exact absurd c25 (by decide) | exact Or.inl ⟨c2, c10, rfl, rfl⟩ | exact Or.inr (Or.inl ⟨c2, c10, rfl, rfl⟩) | exact Or.inr (Or.inr ⟨c2, rfl, rfl⟩)⟩)
    · rw [u2_same] at c25
      refine g_iconst C 1 dX3_fails_28 (by decide) ?_
      refine g_goto C 33 dX3_fails_29 (by decide) ?_
      exact g_zret C dX3_fails_33 rfl (by first | exact nar_boolV (by omega) | decide +kernel) (⟨_, rfl, by first | exact absurd c25 (by decide) | exact Or.inl ⟨c2, c10, rfl, rfl⟩ | exact Or.inr (Or.inl ⟨c2, c10, rfl, rfl⟩) | exact Or.inr (Or.inr ⟨c2, rfl, rfl⟩)⟩)
set_option maxRecDepth 100000 in
set_option maxHeartbeats 4000000 in
theorem k_X3_canWrite (l : Launch) (D : va_G) (g : Nat → ClassId) (A : Nat → Prop) (xm : Nat → Nat) (V : VV) {N : Nat} (hB : BdN V N) (hN : N ≤ 2 ^ 30) (i : Nat) (hi : i < 60) : MC l yX3_canWrite wsX3_canWrite ({ frames := 0, cells := 0, slots := 0, locals := 0 } : Room) D g A xm [.ref (xm 0), .int (nI i)] V (fun r V1 => V1 = V ∧ ((V 8 i = 0 ∧ 0 < V 6 i ∧ r = some (.int (nI 1))) ∨ (¬ (V 8 i = 0 ∧ 0 < V 6 i) ∧ r = some (.int (nI 0))))) := by
  refine k_ofW [(0, .ref (xm 0)), (1, .int (nI i))] (by decide) rfl (Nat.le_of_ble_eq_true rfl) rfl (by simp [Value.category]) ?_
  intro p e s m args below meth c C
  have i3 : ∀ w ∈ wsX30, w ∈ wsX3_canWrite := by decide +kernel
  first | refine g_aload_n C dX3_canWrite_0 rfl ?_ | refine g_aload_nq C _ dX3_canWrite_0 rfl ?_
  refine mg_states C i3 (by decide +kernel) dX3_canWrite_1 ?_
  refine g_iload_n C dX3_canWrite_4 rfl ?_
  refine ml_states C dX3_canWrite_5 (by omega) ?_
  refine g_if_ne C 22 dX3_canWrite_6 (by decide) (by first | exact bd hB hN _ _ | omega) (fun c6 => ?_) (fun c6 => ?_)
  · refine g_iconst C 0 dX3_canWrite_22 (by decide) ?_
    exact g_zret C dX3_canWrite_23 rfl (by first | exact nar_boolV (by omega) | decide +kernel) (⟨V, rfl, rfl, by first | exact Or.inl ⟨c6, c15, rfl⟩ | exact Or.inr ⟨fun q => by have c6 : 0 < V 8 i := c6; omega, rfl⟩ | exact Or.inr ⟨fun q => by have c15 : V 6 i = 0 := c15; omega, rfl⟩⟩)
  · first | refine g_aload_n C dX3_canWrite_9 rfl ?_ | refine g_aload_nq C _ dX3_canWrite_9 rfl ?_
    refine mg_writers C i3 (by decide +kernel) dX3_canWrite_10 ?_
    refine g_iload_n C dX3_canWrite_13 rfl ?_
    refine ml_writers C dX3_canWrite_14 (by omega) ?_
    refine g_if_eq C 22 dX3_canWrite_15 (by decide) (by first | exact bd hB hN _ _ | omega) (fun c15 => ?_) (fun c15 => ?_)
    · refine g_iconst C 0 dX3_canWrite_22 (by decide) ?_
      exact g_zret C dX3_canWrite_23 rfl (by first | exact nar_boolV (by omega) | decide +kernel) (⟨V, rfl, rfl, by first | exact Or.inl ⟨c6, c15, rfl⟩ | exact Or.inr ⟨fun q => by have c6 : 0 < V 8 i := c6; omega, rfl⟩ | exact Or.inr ⟨fun q => by have c15 : V 6 i = 0 := c15; omega, rfl⟩⟩)
    · refine g_iconst C 1 dX3_canWrite_18 (by decide) ?_
      refine g_goto C 23 dX3_canWrite_19 (by decide) ?_
      exact g_zret C dX3_canWrite_23 rfl (by first | exact nar_boolV (by omega) | decide +kernel) (⟨V, rfl, rfl, by first | exact Or.inl ⟨c6, c15, rfl⟩ | exact Or.inr ⟨fun q => by have c6 : 0 < V 8 i := c6; omega, rfl⟩ | exact Or.inr ⟨fun q => by have c15 : V 6 i = 0 := c15; omega, rfl⟩⟩)
set_option maxRecDepth 100000 in
set_option maxHeartbeats 4000000 in
theorem k_X3_isTriple (l : Launch) (D : va_G) (g : Nat → ClassId) (A : Nat → Prop) (xm : Nat → Nat) (V : VV) (x : Int32) : MC l yX3_isTriple wsX3_isTriple ({ frames := 0, cells := 0, slots := 0, locals := 0 } : Room) D g A xm [.int x] V (fun r V1 => V1 = V ∧ ((∃ j : Nat, j < 200 ∧ x = nI j ∧ r = some (.int (nI 1))) ∨ ((∀ j : Nat, j < 200 → x ≠ nI j) ∧ r = some (.int (nI 0))))) := by
  refine k_ofW [(0, .int x)] (by decide) rfl (Nat.le_of_ble_eq_true rfl) rfl (by simp [Value.category]) ?_
  intro p e s m args below meth c C
  refine g_iload_n C dX3_isTriple_0 rfl ?_
  refine g_ifx_lt C 15 dX3_isTriple_1 (by decide) (fun c1 => ?_) (fun c1 => ?_)
  · refine g_iconst C 0 dX3_isTriple_15 (by decide) ?_
    exact g_zret C dX3_isTriple_16 rfl (by first | exact nar_boolV (by omega) | decide +kernel) (⟨V, rfl, rfl, Or.inr ⟨fun j hj e => nI_pos (Nat.lt_trans hj (by decide)) (e ▸ c1), rfl⟩⟩)
  · obtain ⟨j, hj, rfl⟩ := nI_of c1
    refine g_iload_n C dX3_isTriple_4 rfl ?_
    refine g_sipush C 200 dX3_isTriple_5 (by decide) ?_
    refine g_icmp_ge C 15 dX3_isTriple_8 (by decide) (by omega) (by decide) (fun c8 => ?_) (fun c8 => ?_)
    · refine g_iconst C 0 dX3_isTriple_15 (by decide) ?_
      exact g_zret C dX3_isTriple_16 rfl (by first | exact nar_boolV (by omega) | decide +kernel) (⟨V, rfl, rfl, Or.inr ⟨fun i hi e => absurd ((nI_eq hj (Nat.lt_trans hi (by decide))).mp e) (by omega), rfl⟩⟩)
    · refine g_iconst C 1 dX3_isTriple_11 (by decide) ?_
      refine g_goto C 16 dX3_isTriple_12 (by decide) ?_
      exact g_zret C dX3_isTriple_16 rfl (by first | exact nar_boolV (by omega) | decide +kernel) (⟨V, rfl, rfl, Or.inl ⟨j, c8, rfl, rfl⟩⟩)
