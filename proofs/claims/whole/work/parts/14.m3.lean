theorem tel_ex {V : VV} {N : Nat} {x : Int32} (hB : BdN V N) (hN : N ≤ 2 ^ 30) (h : tel V x) : ∃ j : Nat, j < 2 ^ 31 ∧ vLK V ≤ j ∧ j ≤ V 4 0 ∧ x = nI j := by
  have h0 : ¬ x < 0 := fun q => by
    have h2 := Int32.lt_iff_toInt_lt.mp q
    have h3 : (0 : Int32).toInt = 0 := rfl
    have := h.1
    omega
  obtain ⟨j, hj, rfl⟩ := nI_of h0
  have h1 := h.1
  have h2 := h.2
  rw [nI_toInt hj] at h1 h2
  exact ⟨j, hj, by omega, by omega, rfl⟩
set_option maxRecDepth 100000 in
set_option maxHeartbeats 1000000 in
theorem k_X3_start (l : Launch) (D : va_G) (g : Nat → ClassId) (A : Nat → Prop) (xm : Nat → Nat) (V : VV) {N : Nat} (hB : BdN V N) (hN : N ≤ 2 ^ 30) (b v : Nat) (hb : b ≤ 1) (hC : V 16 0 < 60) : MC l yX3_start wsX3_start ({ frames := 0, cells := 0, slots := 0, locals := 0 } : Room) D g A xm [.ref (xm 0), .int (nI b), .int (nI v)] V (fun r V1 => V1 = vStart V b v ∧ r = some (.int (nI (V 16 0)))) := by
  refine k_ofW [(0, .ref (xm 0)), (1, .int (nI b)), (2, .int (nI v))] (by decide) rfl (Nat.le_of_ble_eq_true rfl) rfl (by simp [Value.category]) ?_
  intro p e s m args below meth c C
  have i3 : ∀ w ∈ wsX30, w ∈ wsX3_start := by decide +kernel
  have hC : V 16 0 < 60 := hC
  first | refine g_aload_n C dX3_start_0 rfl ?_ | refine g_aload_nq C _ dX3_start_0 rfl ?_
  refine mg_writers C i3 (by decide +kernel) dX3_start_1 ?_
  first | refine g_aload_n C dX3_start_4 rfl ?_ | refine g_aload_nq C _ dX3_start_4 rfl ?_
  refine mg_count C i3 (by decide +kernel) dX3_start_5 ?_
  refine g_iload_n C dX3_start_8 rfl ?_
  refine ms_writers C (by omega) dX3_start_9 hC ?_
  first | refine g_aload_n C dX3_start_10 rfl ?_ | refine g_aload_nq C _ dX3_start_10 rfl ?_
  refine mg_sees C i3 (by decide +kernel) dX3_start_11 ?_
  first | refine g_aload_n C dX3_start_14 rfl ?_ | refine g_aload_nq C _ dX3_start_14 rfl ?_
  refine mg_count C i3 (by decide +kernel) dX3_start_15 ?_
  refine g_iload_n C dX3_start_18 rfl ?_
  refine ms_sees C dX3_start_19 hC ?_
  first | refine g_aload_n C dX3_start_20 rfl ?_ | refine g_aload_nq C _ dX3_start_20 rfl ?_
  refine mg_states C i3 (by decide +kernel) dX3_start_21 ?_
  first | refine g_aload_n C dX3_start_24 rfl ?_ | refine g_aload_nq C _ dX3_start_24 rfl ?_
  refine mg_count C i3 (by decide +kernel) dX3_start_25 ?_
  refine g_iconst C 0 dX3_start_28 (by decide) ?_
  refine ms_states C dX3_start_29 hC ?_
  first | refine g_aload_n C dX3_start_30 rfl ?_ | refine g_aload_nq C _ dX3_start_30 rfl ?_
  refine mg_waitsFor C i3 (by decide +kernel) dX3_start_31 ?_
  first | refine g_aload_n C dX3_start_34 rfl ?_ | refine g_aload_nq C _ dX3_start_34 rfl ?_
  refine mg_count C i3 (by decide +kernel) dX3_start_35 ?_
  refine g_iconstm C dX3_start_38 ?_
  refine ms_waitsFor C 0 (by decide) dX3_start_39 hC ?_
  first | refine g_aload_n C dX3_start_40 rfl ?_ | refine g_aload_nq C _ dX3_start_40 rfl ?_
  refine g_dup C dX3_start_41 (by first | rfl | exact vcat_rf _) ?_
  refine mg_count C i3 (by decide +kernel) dX3_start_42 ?_
  refine g_iconst C 1 dX3_start_45 (by decide) ?_
  first | refine g_iadd C dX3_start_46 ?_ | refine g_iaddx C dX3_start_46 ?_
  refine mp_count C i3 (by decide +kernel) dX3_start_47 ?_
  first | refine g_aload_n C dX3_start_50 rfl ?_ | refine g_aload_nq C _ dX3_start_50 rfl ?_
  refine mg_count C i3 (by decide +kernel) dX3_start_51 ?_
  refine g_iconst C 1 dX3_start_54 (by decide) ?_
  first | refine g_isub C dX3_start_55 (by show 1 ≤ V 16 0 + 1; omega) ?_ | refine g_isubx C dX3_start_55 ?_
  exact g_iret C dX3_start_56 rfl (⟨_, rfl, rfl, by show some (Value.int (nI (V 16 0 + 1 - 1))) = _; rw [Nat.add_sub_cancel]⟩)
set_option maxRecDepth 100000 in
set_option maxHeartbeats 1000000 in
theorem k_X3_begin (l : Launch) (D : va_G) (g : Nat → ClassId) (A : Nat → Prop) (xm : Nat → Nat) (V : VV) {N : Nat} (hB : BdN V N) (hN : N ≤ 2 ^ 30) (hC : V 16 0 ≤ 60) : MC l yX3_begin wsX3_begin ({ frames := 1, cells := 0, slots := 0, locals := 22 } : Room) D g A xm [.ref (xm 0)] V (fun r V1 => (V 16 0 < 60 ∧ V1 = vStart (u2 V 25 0 0) 1 (V 4 0) ∧ r = some (.int (nI (V 16 0)))) ∨ (60 ≤ V 16 0 ∧ V1 = u2 V 25 0 1 ∧ r = some (.int (nI 0)))) := by
  refine k_ofW [(0, .ref (xm 0))] (by decide) rfl (Nat.le_of_ble_eq_true rfl) rfl (by simp [Value.category]) ?_
  intro p e s m args below meth c C
  have i3 : ∀ w ∈ wsX30, w ∈ wsX3_begin := by decide +kernel
  have hN0 : 0 < N := Nat.lt_of_le_of_lt (Nat.zero_le _) (hB 0 0)
  first | refine g_aload_n C dX3_begin_0 rfl ?_ | refine g_aload_nq C _ dX3_begin_0 rfl ?_
  first | refine g_aload_n C dX3_begin_1 rfl ?_ | refine g_aload_nq C _ dX3_begin_1 rfl ?_
  refine mg_count C i3 (by decide +kernel) dX3_begin_2 ?_
  refine g_bipush C 60 dX3_begin_5 (by decide) ?_
  refine g_icmp_ge C 14 dX3_begin_7 (by decide) (bd hB hN _ _) (by decide) (fun c7 => ?_) (fun c7 => ?_)
  · refine g_iconst C 1 dX3_begin_14 (by decide) ?_
    refine mp_thrown C i3 (by decide +kernel) dX3_begin_15 ?_
    first | refine g_aload_n C dX3_begin_18 rfl ?_ | refine g_aload_nq C _ dX3_begin_18 rfl ?_
    refine mg_thrown C i3 (by decide +kernel) dX3_begin_19 ?_
    refine g_if_ne C 37 dX3_begin_22 (by decide) (by rw [u2_same]; decide) (fun c22 => ?_) (fun c22 => ?_)
    · refine g_iconst C 0 dX3_begin_37 (by decide) ?_
      exact g_iret C dX3_begin_38 rfl (⟨_, rfl, Or.inr ⟨c7, rfl, rfl⟩⟩)
    · rw [u2_same] at c22
      exact absurd c22 (by decide)
  · refine g_iconst C 0 dX3_begin_10 (by decide) ?_
    refine g_goto C 15 dX3_begin_11 (by decide) ?_
    refine mp_thrown C i3 (by decide +kernel) dX3_begin_15 ?_
    first | refine g_aload_n C dX3_begin_18 rfl ?_ | refine g_aload_nq C _ dX3_begin_18 rfl ?_
    refine mg_thrown C i3 (by decide +kernel) dX3_begin_19 ?_
    refine g_if_ne C 37 dX3_begin_22 (by decide) (by rw [u2_same]; decide) (fun c22 => ?_) (fun c22 => ?_)
    · rw [u2_same] at c22
      exact absurd c22 (by decide)
    · first | refine g_aload_n C dX3_begin_25 rfl ?_ | refine g_aload_nq C _ dX3_begin_25 rfl ?_
      refine g_iconst C 1 dX3_begin_26 (by decide) ?_
      first | refine g_aload_n C dX3_begin_27 rfl ?_ | refine g_aload_nq C _ dX3_begin_27 rfl ?_
      refine mg_latest C i3 (by decide +kernel) dX3_begin_28 ?_
      refine g_callM C (k_X3_start l D g A xm _ (hB.up (k := 25) (i := 0) (v := 0) hN0) hN 1 (V 4 0) (by decide) c7) gX3_begin_X3_start dX3_begin_31 (n := 2) rfl rfl rfl (by decide +kernel) ⟨Nat.le_of_ble_eq_true rfl, Nat.le_of_ble_eq_true rfl⟩ rfl rfl (Nat.le_of_ble_eq_true rfl) ⟨Nat.le_refl _, Nat.le_refl _⟩ (fun r V1 hq => ?_)
      obtain ⟨rfl, rfl⟩ := hq
      refine g_goto C 38 dX3_begin_34 (by decide) ?_
      exact g_iret C dX3_begin_38 rfl (⟨_, rfl, Or.inl ⟨c7, rfl, rfl⟩⟩)
set_option maxRecDepth 100000 in
set_option maxHeartbeats 1000000 in
theorem k_X3_look (l : Launch) (D : va_G) (g : Nat → ClassId) (A : Nat → Prop) (xm : Nat → Nat) (V : VV) {N : Nat} (hB : BdN V N) (hN : N ≤ 2 ^ 30) (hC : V 16 0 ≤ 60) (x : Int32) : MC l yX3_look wsX3_look ({ frames := 3, cells := 0, slots := 0, locals := 64 } : Room) D g A xm [.ref (xm 0), .int x] V (fun r V1 => (tel V x ∧ V 16 0 < 60 ∧ V1 = vStart (u2 V 25 0 0) 0 (ix x) ∧ r = some (.int (nI (V 16 0)))) ∨ (tel V x ∧ 60 ≤ V 16 0 ∧ V1 = u2 V 25 0 2 ∧ r = some (.int (nI 0))) ∨ (¬ tel V x ∧ V1 = u2 V 25 0 1 ∧ r = some (.int (nI 0)))) := by
  refine k_ofW [(0, .ref (xm 0)), (1, .int x)] (by decide) rfl (Nat.le_of_ble_eq_true rfl) rfl (by simp [Value.category]) ?_
  intro p e s m args below meth c C
  have i3 : ∀ w ∈ wsX30, w ∈ wsX3_look := by decide +kernel
  have hN0 : 0 < N := Nat.lt_of_le_of_lt (Nat.zero_le _) (hB 0 0)
  first | refine g_aload_n C dX3_look_0 rfl ?_ | refine g_aload_nq C _ dX3_look_0 rfl ?_
  first | refine g_aload_n C dX3_look_1 rfl ?_ | refine g_aload_nq C _ dX3_look_1 rfl ?_
  refine g_iload_n C dX3_look_2 rfl ?_
  refine g_callM C (k_X3_isTellable l D g A xm _ hB hN hC x) gX3_look_X3_isTellable dX3_look_3 (n := 1) rfl rfl rfl (by decide +kernel) ⟨Nat.le_of_ble_eq_true rfl, Nat.le_of_ble_eq_true rfl⟩ rfl rfl (Nat.le_of_ble_eq_true rfl) ⟨Nat.le_refl _, Nat.le_refl _⟩ (fun r V1 hq => ?_)
  obtain ⟨e9, hq⟩ := hq
  rw [e9]
  rcases hq with ⟨h3, rfl⟩ | ⟨h3, rfl⟩
  · first | refine g_aload_n C dX3_look_6 rfl ?_ | refine g_aload_nq C _ dX3_look_6 rfl ?_
    refine mg_count C i3 (by decide +kernel) dX3_look_7 ?_
    refine g_bipush C 60 dX3_look_10 (by decide) ?_
    refine g_icmp_ge C 19 dX3_look_12 (by decide) (bd hB hN _ _) (by decide) (fun c12 => ?_) (fun c12 => ?_)
    · refine g_iconst C 0 dX3_look_19 (by decide) ?_
      refine g_callM C (k_X3_fails l D g A xm _ 1 0 (by decide) (by decide)) gX3_look_X3_fails dX3_look_20 (n := 2) rfl rfl rfl (by decide +kernel) ⟨Nat.le_of_ble_eq_true rfl, Nat.le_of_ble_eq_true rfl⟩ rfl rfl (Nat.le_of_ble_eq_true rfl) ⟨Nat.le_refl _, Nat.le_refl _⟩ (fun r V1 hq => ?_)
      obtain ⟨rfl, rfl⟩ : V1 = u2 (V) 25 0 2 ∧ r = some (.int (nI 1)) := by
        rcases hq with ⟨h7, h8, h1, h2⟩ | ⟨h7, h9, h1, h2⟩ | ⟨h9, h1, h2⟩
        · exact absurd h8 (by decide)
        · exact ⟨h1, h2⟩
        · exact absurd h9 (by decide)
      refine g_if_eq C 30 dX3_look_23 (by decide) (by decide) (fun c23 => absurd c23 (by decide)) (fun c23 => ?_)
      refine g_iconst C 0 dX3_look_26 (by decide) ?_
      refine g_goto C 36 dX3_look_27 (by decide) ?_
      exact g_iret C dX3_look_36 rfl (⟨_, rfl, Or.inr (Or.inl ⟨h3, c12, rfl, rfl⟩)⟩)
    · refine g_iconst C 1 dX3_look_15 (by decide) ?_
      refine g_goto C 20 dX3_look_16 (by decide) ?_
      refine g_callM C (k_X3_fails l D g A xm _ 1 1 (by decide) (by decide)) gX3_look_X3_fails dX3_look_20 (n := 2) rfl rfl rfl (by decide +kernel) ⟨Nat.le_of_ble_eq_true rfl, Nat.le_of_ble_eq_true rfl⟩ rfl rfl (Nat.le_of_ble_eq_true rfl) ⟨Nat.le_refl _, Nat.le_refl _⟩ (fun r V1 hq => ?_)
      obtain ⟨rfl, rfl⟩ : V1 = u2 (V) 25 0 0 ∧ r = some (.int (nI 0)) := by
        rcases hq with ⟨h7, h8, h1, h2⟩ | ⟨h7, h9, h1, h2⟩ | ⟨h9, h1, h2⟩
        · exact ⟨h1, h2⟩
        · exact absurd h9 (by decide)
        · exact absurd h9 (by decide)
      refine g_if_eq C 30 dX3_look_23 (by decide) (by decide) (fun c23 => ?_) (fun c23 => absurd c23 (by decide))
      obtain ⟨j, hj, hj1, hj2, rfl⟩ := tel_ex hB hN h3
      first | refine g_aload_n C dX3_look_30 rfl ?_ | refine g_aload_nq C _ dX3_look_30 rfl ?_
      refine g_iconst C 0 dX3_look_31 (by decide) ?_
      refine g_iload_n C dX3_look_32 rfl ?_
      refine g_callM C (k_X3_start l D g A xm _ (hB.up (k := 25) (i := 0) (v := 0) hN0) hN 0 j (by decide) c12) gX3_look_X3_start dX3_look_33 (n := 2) rfl rfl rfl (by decide +kernel) ⟨Nat.le_of_ble_eq_true rfl, Nat.le_of_ble_eq_true rfl⟩ rfl rfl (Nat.le_of_ble_eq_true rfl) ⟨Nat.le_refl _, Nat.le_refl _⟩ (fun r V1 hq => ?_)
      obtain ⟨rfl, rfl⟩ := hq
      exact g_iret C dX3_look_36 rfl (⟨_, rfl, Or.inl ⟨h3, c12, by rw [ix_nI hj], rfl⟩⟩)
  · first | refine g_aload_n C dX3_look_6 rfl ?_ | refine g_aload_nq C _ dX3_look_6 rfl ?_
    refine mg_count C i3 (by decide +kernel) dX3_look_7 ?_
    refine g_bipush C 60 dX3_look_10 (by decide) ?_
    refine g_icmp_ge C 19 dX3_look_12 (by decide) (bd hB hN _ _) (by decide) (fun c12 => ?_) (fun c12 => ?_)
    · refine g_iconst C 0 dX3_look_19 (by decide) ?_
      refine g_callM C (k_X3_fails l D g A xm _ 0 0 (by decide) (by decide)) gX3_look_X3_fails dX3_look_20 (n := 2) rfl rfl rfl (by decide +kernel) ⟨Nat.le_of_ble_eq_true rfl, Nat.le_of_ble_eq_true rfl⟩ rfl rfl (Nat.le_of_ble_eq_true rfl) ⟨Nat.le_refl _, Nat.le_refl _⟩ (fun r V1 hq => ?_)
      obtain ⟨rfl, rfl⟩ : V1 = u2 (V) 25 0 1 ∧ r = some (.int (nI 1)) := by
        rcases hq with ⟨h7, h8, h1, h2⟩ | ⟨h7, h9, h1, h2⟩ | ⟨h9, h1, h2⟩
        · exact absurd h7 (by decide)
        · exact absurd h7 (by decide)
        · exact ⟨h1, h2⟩
      refine g_if_eq C 30 dX3_look_23 (by decide) (by decide) (fun c23 => absurd c23 (by decide)) (fun c23 => ?_)
      refine g_iconst C 0 dX3_look_26 (by decide) ?_
      refine g_goto C 36 dX3_look_27 (by decide) ?_
      exact g_iret C dX3_look_36 rfl (⟨_, rfl, Or.inr (Or.inr ⟨h3, rfl, rfl⟩)⟩)
    · refine g_iconst C 1 dX3_look_15 (by decide) ?_
      refine g_goto C 20 dX3_look_16 (by decide) ?_
      refine g_callM C (k_X3_fails l D g A xm _ 0 1 (by decide) (by decide)) gX3_look_X3_fails dX3_look_20 (n := 2) rfl rfl rfl (by decide +kernel) ⟨Nat.le_of_ble_eq_true rfl, Nat.le_of_ble_eq_true rfl⟩ rfl rfl (Nat.le_of_ble_eq_true rfl) ⟨Nat.le_refl _, Nat.le_refl _⟩ (fun r V1 hq => ?_)
      obtain ⟨rfl, rfl⟩ : V1 = u2 (V) 25 0 1 ∧ r = some (.int (nI 1)) := by
        rcases hq with ⟨h7, h8, h1, h2⟩ | ⟨h7, h9, h1, h2⟩ | ⟨h9, h1, h2⟩
        · exact absurd h7 (by decide)
        · exact absurd h7 (by decide)
        · exact ⟨h1, h2⟩
      refine g_if_eq C 30 dX3_look_23 (by decide) (by decide) (fun c23 => absurd c23 (by decide)) (fun c23 => ?_)
      refine g_iconst C 0 dX3_look_26 (by decide) ?_
      refine g_goto C 36 dX3_look_27 (by decide) ?_
      exact g_iret C dX3_look_36 rfl (⟨_, rfl, Or.inr (Or.inr ⟨h3, rfl, rfl⟩)⟩)
set_option maxRecDepth 100000 in
set_option maxHeartbeats 1000000 in
theorem k_X3_state (l : Launch) (D : va_G) (g : Nat → ClassId) (A : Nat → Prop) (xm : Nat → Nat) (V : VV) {N : Nat} (hB : BdN V N) (hN : N ≤ 2 ^ 30) (hC : V 16 0 ≤ 60) (x : Int32) : MC l yX3_state wsX3_state ({ frames := 1, cells := 0, slots := 0, locals := 22 } : Room) D g A xm [.ref (xm 0), .int x] V (fun r V1 => (inR x (V 16 0) ∧ V1 = u2 V 25 0 0 ∧ r = some (.int (nI (V 8 (ix x))))) ∨ (¬ inR x (V 16 0) ∧ V1 = u2 V 25 0 1 ∧ r = some (.int (nI 0)))) := by
  refine k_ofW [(0, .ref (xm 0)), (1, .int x)] (by decide) rfl (Nat.le_of_ble_eq_true rfl) rfl (by simp [Value.category]) ?_
  intro p e s m args below meth c C
  have i3 : ∀ w ∈ wsX30, w ∈ wsX3_state := by decide +kernel
  first | refine g_aload_n C dX3_state_0 rfl ?_ | refine g_aload_nq C _ dX3_state_0 rfl ?_
  first | refine g_aload_n C dX3_state_1 rfl ?_ | refine g_aload_nq C _ dX3_state_1 rfl ?_
  refine g_iload_n C dX3_state_2 rfl ?_
  refine g_callM C (k_X3_isTransaction l D g A xm _ hB hN x) gX3_state_X3_isTransaction dX3_state_3 (n := 1) rfl rfl rfl (by decide +kernel) ⟨Nat.le_of_ble_eq_true rfl, Nat.le_of_ble_eq_true rfl⟩ rfl rfl (Nat.le_of_ble_eq_true rfl) ⟨Nat.le_refl _, Nat.le_refl _⟩ (fun r V1 hq => ?_)
  obtain ⟨e9, hq⟩ := hq
  rw [e9]
  rcases hq with ⟨h3, rfl⟩ | ⟨h3, rfl⟩
  · refine g_iconst C 1 dX3_state_6 (by decide) ?_
    refine g_callM C (k_X3_fails l D g A xm _ 1 1 (by decide) (by decide)) gX3_state_X3_fails dX3_state_7 (n := 2) rfl rfl rfl (by decide +kernel) ⟨Nat.le_of_ble_eq_true rfl, Nat.le_of_ble_eq_true rfl⟩ rfl rfl (Nat.le_of_ble_eq_true rfl) ⟨Nat.le_refl _, Nat.le_refl _⟩ (fun r V1 hq => ?_)
    obtain ⟨rfl, rfl⟩ : V1 = u2 (V) 25 0 0 ∧ r = some (.int (nI 0)) := by
      rcases hq with ⟨h7, h8, h1, h2⟩ | ⟨h7, h9, h1, h2⟩ | ⟨h9, h1, h2⟩
      · exact ⟨h1, h2⟩
      · exact absurd h9 (by decide)
      · exact absurd h9 (by decide)
    refine g_if_eq C 17 dX3_state_10 (by decide) (by decide) (fun c10 => ?_) (fun c10 => absurd c10 (by decide))
    obtain ⟨j, hj1, hj, rfl⟩ := inR_ex h3
    first | refine g_aload_n C dX3_state_17 rfl ?_ | refine g_aload_nq C _ dX3_state_17 rfl ?_
    refine mg_states C i3 (by decide +kernel) dX3_state_18 ?_
    refine g_iload_n C dX3_state_21 rfl ?_
    refine ml_states C dX3_state_22 (by omega) ?_
    exact g_iret C dX3_state_23 rfl (⟨_, rfl, Or.inl ⟨h3, rfl, by rw [ix_nI hj]; rfl⟩⟩)
  · refine g_iconst C 1 dX3_state_6 (by decide) ?_
    refine g_callM C (k_X3_fails l D g A xm _ 0 1 (by decide) (by decide)) gX3_state_X3_fails dX3_state_7 (n := 2) rfl rfl rfl (by decide +kernel) ⟨Nat.le_of_ble_eq_true rfl, Nat.le_of_ble_eq_true rfl⟩ rfl rfl (Nat.le_of_ble_eq_true rfl) ⟨Nat.le_refl _, Nat.le_refl _⟩ (fun r V1 hq => ?_)
    obtain ⟨rfl, rfl⟩ : V1 = u2 (V) 25 0 1 ∧ r = some (.int (nI 1)) := by
      rcases hq with ⟨h7, h8, h1, h2⟩ | ⟨h7, h9, h1, h2⟩ | ⟨h9, h1, h2⟩
      · exact absurd h7 (by decide)
      · exact absurd h7 (by decide)
      · exact ⟨h1, h2⟩
    refine g_if_eq C 17 dX3_state_10 (by decide) (by decide) (fun c10 => absurd c10 (by decide)) (fun c10 => ?_)
    refine g_iconst C 0 dX3_state_13 (by decide) ?_
    refine g_goto C 23 dX3_state_14 (by decide) ?_
    exact g_iret C dX3_state_23 rfl (⟨_, rfl, Or.inr ⟨h3, rfl, rfl⟩⟩)
set_option maxRecDepth 100000 in
set_option maxHeartbeats 1000000 in
theorem k_X3_waits (l : Launch) (D : va_G) (g : Nat → ClassId) (A : Nat → Prop) (xm : Nat → Nat) (V : VV) {N : Nat} (hB : BdN V N) (hN : N ≤ 2 ^ 30) (hC : V 16 0 ≤ 60) (x : Int32) : MC l yX3_waits wsX3_waits ({ frames := 1, cells := 0, slots := 0, locals := 22 } : Room) D g A xm [.ref (xm 0), .int x] V (fun r V1 => (inR x (V 16 0) ∧ V1 = u2 V 25 0 0 ∧ r = some (.int (if V 8 (ix x) = 1 then nI (V 11 (ix x)) - 1 else -1))) ∨ (¬ inR x (V 16 0) ∧ V1 = u2 V 25 0 1 ∧ r = some (.int (nI 0)))) := by
  refine k_ofW [(0, .ref (xm 0)), (1, .int x)] (by decide) rfl (Nat.le_of_ble_eq_true rfl) rfl (by simp [Value.category]) ?_
  intro p e s m args below meth c C
  have i3 : ∀ w ∈ wsX30, w ∈ wsX3_waits := by decide +kernel
  first | refine g_aload_n C dX3_waits_0 rfl ?_ | refine g_aload_nq C _ dX3_waits_0 rfl ?_
  first | refine g_aload_n C dX3_waits_1 rfl ?_ | refine g_aload_nq C _ dX3_waits_1 rfl ?_
  refine g_iload_n C dX3_waits_2 rfl ?_
  refine g_callM C (k_X3_isTransaction l D g A xm _ hB hN x) gX3_waits_X3_isTransaction dX3_waits_3 (n := 1) rfl rfl rfl (by decide +kernel) ⟨Nat.le_of_ble_eq_true rfl, Nat.le_of_ble_eq_true rfl⟩ rfl rfl (Nat.le_of_ble_eq_true rfl) ⟨Nat.le_refl _, Nat.le_refl _⟩ (fun r V1 hq => ?_)
  obtain ⟨e9, hq⟩ := hq
  rw [e9]
  rcases hq with ⟨h3, rfl⟩ | ⟨h3, rfl⟩
  · refine g_iconst C 1 dX3_waits_6 (by decide) ?_
    refine g_callM C (k_X3_fails l D g A xm _ 1 1 (by decide) (by decide)) gX3_waits_X3_fails dX3_waits_7 (n := 2) rfl rfl rfl (by decide +kernel) ⟨Nat.le_of_ble_eq_true rfl, Nat.le_of_ble_eq_true rfl⟩ rfl rfl (Nat.le_of_ble_eq_true rfl) ⟨Nat.le_refl _, Nat.le_refl _⟩ (fun r V1 hq => ?_)
    obtain ⟨rfl, rfl⟩ : V1 = u2 (V) 25 0 0 ∧ r = some (.int (nI 0)) := by
      rcases hq with ⟨h7, h8, h1, h2⟩ | ⟨h7, h9, h1, h2⟩ | ⟨h9, h1, h2⟩
      · exact ⟨h1, h2⟩
      · exact absurd h9 (by decide)
      · exact absurd h9 (by decide)
    refine g_if_eq C 15 dX3_waits_10 (by decide) (by decide) (fun c10 => ?_) (fun c10 => absurd c10 (by decide))
    obtain ⟨j, hj1, hj, rfl⟩ := inR_ex h3
    first | refine g_aload_n C dX3_waits_15 rfl ?_ | refine g_aload_nq C _ dX3_waits_15 rfl ?_
    refine mg_states C i3 (by decide +kernel) dX3_waits_16 ?_
    refine g_iload_n C dX3_waits_19 rfl ?_
    refine ml_states C dX3_waits_20 (by omega) ?_
    refine g_iconst C 1 dX3_waits_21 (by decide) ?_
    refine g_icmp_ne C 34 dX3_waits_22 (by decide) (bd hB hN _ _) (by decide) (fun c22 => ?_) (fun c22 => ?_)
    · refine g_iconstm C dX3_waits_34 ?_
      exact g_iret C dX3_waits_35 rfl (⟨_, rfl, Or.inl ⟨h3, rfl, by rw [ix_nI hj, if_neg (show ¬ V 8 j = 1 from c22)]⟩⟩)
    · first | refine g_aload_n C dX3_waits_25 rfl ?_ | refine g_aload_nq C _ dX3_waits_25 rfl ?_
      refine mg_waitsFor C i3 (by decide +kernel) dX3_waits_26 ?_
      refine g_iload_n C dX3_waits_29 rfl ?_
      refine ml_waitsFor C dX3_waits_30 (by omega) ?_
      refine g_goto C 35 dX3_waits_31 (by decide) ?_
      exact g_iret C dX3_waits_35 rfl (⟨_, rfl, Or.inl ⟨h3, rfl, by rw [ix_nI hj, if_pos (show V 8 j = 1 from c22)]; rfl⟩⟩)
  · refine g_iconst C 1 dX3_waits_6 (by decide) ?_
    refine g_callM C (k_X3_fails l D g A xm _ 0 1 (by decide) (by decide)) gX3_waits_X3_fails dX3_waits_7 (n := 2) rfl rfl rfl (by decide +kernel) ⟨Nat.le_of_ble_eq_true rfl, Nat.le_of_ble_eq_true rfl⟩ rfl rfl (Nat.le_of_ble_eq_true rfl) ⟨Nat.le_refl _, Nat.le_refl _⟩ (fun r V1 hq => ?_)
    obtain ⟨rfl, rfl⟩ : V1 = u2 (V) 25 0 1 ∧ r = some (.int (nI 1)) := by
      rcases hq with ⟨h7, h8, h1, h2⟩ | ⟨h7, h9, h1, h2⟩ | ⟨h9, h1, h2⟩
      · exact absurd h7 (by decide)
      · exact absurd h7 (by decide)
      · exact ⟨h1, h2⟩
    refine g_if_eq C 15 dX3_waits_10 (by decide) (by decide) (fun c10 => absurd c10 (by decide)) (fun c10 => ?_)
    refine g_iconst C 0 dX3_waits_13 (by decide) ?_
    exact g_iret C dX3_waits_14 rfl (⟨_, rfl, Or.inr ⟨h3, rfl, rfl⟩⟩)
set_option maxRecDepth 100000 in
set_option maxHeartbeats 1000000 in
theorem k_X3_ring (l : Launch) (D : va_G) (g : Nat → ClassId) (A : Nat → Prop) (xm : Nat → Nat) (V : VV) {N : Nat} (hB : BdN V N) (hN : N ≤ 2 ^ 30) (hG : V 22 0 ≤ 60) (x : Int32) : MC l yX3_ring wsX3_ring ({ frames := 0, cells := 0, slots := 0, locals := 0 } : Room) D g A xm [.ref (xm 0), .int x] V (fun r V1 => V1 = u2 V 25 0 0 ∧ r = some (.int (if inR x (V 22 0) then nI (V 21 (ix x)) else -1))) := by
  refine k_ofW [(0, .ref (xm 0)), (1, .int x)] (by decide) rfl (Nat.le_of_ble_eq_true rfl) rfl (by simp [Value.category]) ?_
  intro p e s m args below meth c C
  have i3 : ∀ w ∈ wsX30, w ∈ wsX3_ring := by decide +kernel
  have hG : V 22 0 ≤ 60 := hG
  first | refine g_aload_n C dX3_ring_0 rfl ?_ | refine g_aload_nq C _ dX3_ring_0 rfl ?_
  refine g_iconst C 0 dX3_ring_1 (by decide) ?_
  refine mp_thrown C i3 (by decide +kernel) dX3_ring_2 ?_
  refine g_iload_n C dX3_ring_5 rfl ?_
  refine g_ifx_lt C 26 dX3_ring_6 (by decide) (fun c6 => ?_) (fun c6 => ?_)
  · refine g_iconstm C dX3_ring_26 ?_
    exact g_iret C dX3_ring_27 rfl (⟨_, rfl, rfl, by rw [if_neg (inR_neg c6)]⟩)
  · obtain ⟨j, hj, rfl⟩ := nI_of c6
    refine g_iload_n C dX3_ring_9 rfl ?_
    first | refine g_aload_n C dX3_ring_10 rfl ?_ | refine g_aload_nq C _ dX3_ring_10 rfl ?_
    refine mg_ringSize C i3 (by decide +kernel) dX3_ring_11 ?_
    refine g_icmp_ge C 26 dX3_ring_14 (by decide) hj (bd hB hN _ _) (fun c14 => ?_) (fun c14 => ?_)
    · refine g_iconstm C dX3_ring_26 ?_
      exact g_iret C dX3_ring_27 rfl (⟨_, rfl, rfl, by rw [if_neg (show ¬ inR (nI j) (V 22 0) from fun q => absurd ((inR_nI hj).mp q) (Nat.not_lt.mpr c14))]⟩)
    · have c14 : j < V 22 0 := c14
      first | refine g_aload_n C dX3_ring_17 rfl ?_ | refine g_aload_nq C _ dX3_ring_17 rfl ?_
      refine mg_ring C i3 (by decide +kernel) dX3_ring_18 ?_
      refine g_iload_n C dX3_ring_21 rfl ?_
      refine ml_ring C dX3_ring_22 (by omega) ?_
      refine g_goto C 27 dX3_ring_23 (by decide) ?_
      exact g_iret C dX3_ring_27 rfl (⟨_, rfl, rfl, by rw [if_pos (show inR (nI j) (V 22 0) from (inR_nI hj).mpr c14), ix_nI hj]; rfl⟩)
