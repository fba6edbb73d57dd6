theorem vRow_25 (V : VV) (c t v : Nat) : ∀ n, vRow (u2 V 25 0 c) t v n = vRow V t v n
  | 0 => rfl
  | n + 1 => by
    unfold vRow
    rw [vRow_25 V c t v n]
    rfl
theorem vThere_25 (V : VV) (c t v : Nat) : vThere (u2 V 25 0 c) t v ↔ vThere V t v := by
  unfold vThere
  rw [vRow_25 V c t v]
  exact Iff.rfl
/-- what a transaction reads -/
def vRead (V : VV) (t k : Nat) : Prop := V 10 (200 * t + k) = 2 ∨ (V 10 (200 * t + k) = 0 ∧ vThere V k (V 7 t))
def vPop (m : Nat) : Nat → Nat
  | 0 => 0
  | g + 1 => vPop m g + vBit m g
theorem nt_or : ∀ m, m < 16 → ∀ g, g < 4 → nI m ||| (nI 1 <<< (nI g &&& 31)) = nI (m ||| 2 ^ g) := by decide +kernel
theorem nt_or16 : ∀ m, m < 16 → ∀ g, g < 4 → m ||| 2 ^ g < 16 := by decide +kernel
theorem nt_bit : ∀ m, m < 16 → ∀ g, g < 4 → (nI m >>> (nI g &&& 31)) &&& nI 1 = nI (vBit m g) := by decide +kernel
set_option maxRecDepth 100000 in
set_option maxHeartbeats 1000000 in
theorem k_X3_told (l : Launch) (D : va_G) (g : Nat → ClassId) (A : Nat → Prop) (xm : Nat → Nat) (V : VV) {N : Nat} (hB : BdN V N) (hN : N ≤ 2 ^ 30) (hC : V 16 0 ≤ 60) (hR : V 3 0 ≤ 13000) (x y : Int32) : MC l yX3_told wsX3_told ({ frames := 3, cells := 0, slots := 0, locals := 64 } : Room) D g A xm [.ref (xm 0), .int x, .int y] V (fun r V1 => (tel V x ∧ inR y 200 ∧ V1 = u2 V 25 0 0 ∧ ((vThere V (ix y) (ix x) ∧ r = some (.int (nI 1))) ∨ (¬ vThere V (ix y) (ix x) ∧ r = some (.int (nI 0))))) ∨ (¬ (tel V x ∧ inR y 200) ∧ V1 = u2 V 25 0 1 ∧ r = some (.int (nI 0)))) := by
  refine k_ofW [(0, .ref (xm 0)), (1, .int x), (2, .int y)] (by decide) rfl (Nat.le_of_ble_eq_true rfl) rfl (by simp [Value.category]) ?_
  intro p e s m args below meth c C
  have i3 : ∀ w ∈ wsX30, w ∈ wsX3_told := by decide +kernel
  have hN0 : 0 < N := Nat.lt_of_le_of_lt (Nat.zero_le _) (hB 0 0)
  first | refine g_aload_n C dX3_told_0 rfl ?_ | refine g_aload_nq C _ dX3_told_0 rfl ?_
  first | refine g_aload_n C dX3_told_1 rfl ?_ | refine g_aload_nq C _ dX3_told_1 rfl ?_
  refine g_iload_n C dX3_told_2 rfl ?_
  refine g_callM C (k_X3_isTellable l D g A xm _ hB hN hC x) gX3_told_X3_isTellable dX3_told_3 (n := 1) rfl rfl rfl (by decide +kernel) ⟨Nat.le_of_ble_eq_true rfl, Nat.le_of_ble_eq_true rfl⟩ rfl rfl (Nat.le_of_ble_eq_true rfl) ⟨Nat.le_refl _, Nat.le_refl _⟩ (fun r V1 hq => ?_)
  obtain ⟨e9, hq⟩ := hq
  rw [e9]
  rcases hq with ⟨h3, rfl⟩ | ⟨h3, rfl⟩
  · refine g_if_eq C 20 dX3_told_6 (by decide) (by decide) (fun c6 => absurd c6 (by decide)) (fun c6 => ?_)
    refine g_iload_n C dX3_told_9 rfl ?_
    refine g_callMS C (k_X3_isTriple l D g A xm _ y) gX3_told_X3_isTriple dX3_told_10 (n := 1) rfl rfl rfl (by decide +kernel) ⟨Nat.le_of_ble_eq_true rfl, Nat.le_of_ble_eq_true rfl⟩ rfl rfl (Nat.le_of_ble_eq_true rfl) ⟨Nat.le_refl _, Nat.le_refl _⟩ (fun r V1 hq => ?_)
    obtain ⟨e9, hq⟩ := hq
    rw [e9]
    rcases hq with ⟨h10, rfl⟩ | ⟨h10, rfl⟩
    · refine g_if_eq C 20 dX3_told_13 (by decide) (by decide) (fun c13 => absurd c13 (by decide)) (fun c13 => ?_)
      refine g_iconst C 1 dX3_told_16 (by decide) ?_
      refine g_goto C 21 dX3_told_17 (by decide) ?_
      refine g_iconst C 1 dX3_told_21 (by decide) ?_
      refine g_callM C (k_X3_fails l D g A xm _ 1 1 (by decide) (by decide)) gX3_told_X3_fails dX3_told_22 (n := 2) rfl rfl rfl (by decide +kernel) ⟨Nat.le_of_ble_eq_true rfl, Nat.le_of_ble_eq_true rfl⟩ rfl rfl (Nat.le_of_ble_eq_true rfl) ⟨Nat.le_refl _, Nat.le_refl _⟩ (fun r V1 hq => ?_)
      obtain ⟨rfl, rfl⟩ : V1 = u2 (V) 25 0 0 ∧ r = some (.int (nI 0)) := by
        rcases hq with ⟨h7, h8, h1, h2⟩ | ⟨h7, h9, h1, h2⟩ | ⟨h9, h1, h2⟩
        · exact ⟨h1, h2⟩
        · exact absurd h9 (by decide)
        · exact absurd h9 (by decide)
      refine g_if_ne C 41 dX3_told_25 (by decide) (by decide) (fun c25 => absurd c25 (by decide)) (fun c25 => ?_)
      obtain ⟨j, hj, hj1, hj2, rfl⟩ := tel_ex hB hN h3
      obtain ⟨k, hk1, hk, rfl⟩ := inR_ex h10
      have hb4 := hB 4 0
      first | refine g_aload_n C dX3_told_28 rfl ?_ | refine g_aload_nq C _ dX3_told_28 rfl ?_
      refine g_iload_n C dX3_told_29 rfl ?_
      refine g_iload_n C dX3_told_30 rfl ?_
      refine g_callM C (k_X3_isThere l D g A xm _ (hB.up (k := 25) (i := 0) (v := 0) hN0) hN k j (by omega) (by omega) hR) gX3_told_X3_isThere dX3_told_31 (n := 2) rfl rfl rfl (by decide +kernel) ⟨Nat.le_of_ble_eq_true rfl, Nat.le_of_ble_eq_true rfl⟩ rfl rfl (Nat.le_of_ble_eq_true rfl) ⟨Nat.le_refl _, Nat.le_refl _⟩ (fun r V1 hq => ?_)
      obtain ⟨e9, hq⟩ := hq
      rw [e9]
      rcases hq with ⟨h31, rfl⟩ | ⟨h31, rfl⟩
      · refine g_if_eq C 41 dX3_told_34 (by decide) (by decide) (fun c34 => absurd c34 (by decide)) (fun c34 => ?_)
        refine g_iconst C 1 dX3_told_37 (by decide) ?_
        refine g_goto C 42 dX3_told_38 (by decide) ?_
        exact g_zret C dX3_told_42 rfl (by first | exact nar_boolV (by omega) | decide +kernel) (⟨_, rfl, Or.inl ⟨h3, h10, rfl, Or.inl ⟨by rw [ix_nI hj, ix_nI hk]; exact (vThere_25 V 0 k j).mp h31, rfl⟩⟩⟩)
      · refine g_if_eq C 41 dX3_told_34 (by decide) (by decide) (fun c34 => ?_) (fun c34 => absurd c34 (by decide))
        refine g_iconst C 0 dX3_told_41 (by decide) ?_
        exact g_zret C dX3_told_42 rfl (by first | exact nar_boolV (by omega) | decide +kernel) (⟨_, rfl, Or.inl ⟨h3, h10, rfl, Or.inr ⟨by rw [ix_nI hj, ix_nI hk]; exact fun q => h31 ((vThere_25 V 0 k j).mpr q), rfl⟩⟩⟩)
    · refine g_if_eq C 20 dX3_told_13 (by decide) (by decide) (fun c13 => ?_) (fun c13 => absurd c13 (by decide))
      refine g_iconst C 0 dX3_told_20 (by decide) ?_
      refine g_iconst C 1 dX3_told_21 (by decide) ?_
      refine g_callM C (k_X3_fails l D g A xm _ 0 1 (by decide) (by decide)) gX3_told_X3_fails dX3_told_22 (n := 2) rfl rfl rfl (by decide +kernel) ⟨Nat.le_of_ble_eq_true rfl, Nat.le_of_ble_eq_true rfl⟩ rfl rfl (Nat.le_of_ble_eq_true rfl) ⟨Nat.le_refl _, Nat.le_refl _⟩ (fun r V1 hq => ?_)
      obtain ⟨rfl, rfl⟩ : V1 = u2 (V) 25 0 1 ∧ r = some (.int (nI 1)) := by
        rcases hq with ⟨h7, h8, h1, h2⟩ | ⟨h7, h9, h1, h2⟩ | ⟨h9, h1, h2⟩
        · exact absurd h7 (by decide)
        · exact absurd h7 (by decide)
        · exact ⟨h1, h2⟩
      refine g_if_ne C 41 dX3_told_25 (by decide) (by decide) (fun c25 => ?_) (fun c25 => absurd c25 (by decide))
      refine g_iconst C 0 dX3_told_41 (by decide) ?_
      exact g_zret C dX3_told_42 rfl (by first | exact nar_boolV (by omega) | decide +kernel) (⟨_, rfl, Or.inr ⟨fun q => h10 q.2, rfl, rfl⟩⟩)
  · refine g_if_eq C 20 dX3_told_6 (by decide) (by decide) (fun c6 => ?_) (fun c6 => absurd c6 (by decide))
    refine g_iconst C 0 dX3_told_20 (by decide) ?_
    refine g_iconst C 1 dX3_told_21 (by decide) ?_
    refine g_callM C (k_X3_fails l D g A xm _ 0 1 (by decide) (by decide)) gX3_told_X3_fails dX3_told_22 (n := 2) rfl rfl rfl (by decide +kernel) ⟨Nat.le_of_ble_eq_true rfl, Nat.le_of_ble_eq_true rfl⟩ rfl rfl (Nat.le_of_ble_eq_true rfl) ⟨Nat.le_refl _, Nat.le_refl _⟩ (fun r V1 hq => ?_)
    obtain ⟨rfl, rfl⟩ : V1 = u2 (V) 25 0 1 ∧ r = some (.int (nI 1)) := by
      rcases hq with ⟨h7, h8, h1, h2⟩ | ⟨h7, h9, h1, h2⟩ | ⟨h9, h1, h2⟩
      · exact absurd h7 (by decide)
      · exact absurd h7 (by decide)
      · exact ⟨h1, h2⟩
    refine g_if_ne C 41 dX3_told_25 (by decide) (by decide) (fun c25 => ?_) (fun c25 => absurd c25 (by decide))
    refine g_iconst C 0 dX3_told_41 (by decide) ?_
    exact g_zret C dX3_told_42 rfl (by first | exact nar_boolV (by omega) | decide +kernel) (⟨_, rfl, Or.inr ⟨fun q => h3 q.1, rfl, rfl⟩⟩)
set_option maxRecDepth 100000 in
set_option maxHeartbeats 1000000 in
theorem k_X3_pin (l : Launch) (D : va_G) (g : Nat → ClassId) (A : Nat → Prop) (xm : Nat → Nat) (V : VV) {N : Nat} (hB : BdN V N) (hN : N ≤ 2 ^ 30) (hC : V 16 0 ≤ 60) (hL : V 4 0 ≤ 60) (x : Int32) : MC l yX3_pin wsX3_pin ({ frames := 3, cells := 0, slots := 0, locals := 64 } : Room) D g A xm [.ref (xm 0), .int x] V (fun r V1 => (tel V x ∧ V1 = u2 (u2 V 25 0 0) 5 (ix x) (V 5 (ix x) + 1) ∧ r = some (.int (nI (V 5 (ix x) + 1)))) ∨ (¬ tel V x ∧ V1 = u2 V 25 0 1 ∧ r = some (.int (nI 0)))) := by
  refine k_ofW [(0, .ref (xm 0)), (1, .int x)] (by decide) rfl (Nat.le_of_ble_eq_true rfl) rfl (by simp [Value.category]) ?_
  intro p e s m args below meth c C
  have i3 : ∀ w ∈ wsX30, w ∈ wsX3_pin := by decide +kernel
  first | refine g_aload_n C dX3_pin_0 rfl ?_ | refine g_aload_nq C _ dX3_pin_0 rfl ?_
  first | refine g_aload_n C dX3_pin_1 rfl ?_ | refine g_aload_nq C _ dX3_pin_1 rfl ?_
  refine g_iload_n C dX3_pin_2 rfl ?_
  refine g_callM C (k_X3_isTellable l D g A xm _ hB hN hC x) gX3_pin_X3_isTellable dX3_pin_3 (n := 1) rfl rfl rfl (by decide +kernel) ⟨Nat.le_of_ble_eq_true rfl, Nat.le_of_ble_eq_true rfl⟩ rfl rfl (Nat.le_of_ble_eq_true rfl) ⟨Nat.le_refl _, Nat.le_refl _⟩ (fun r V1 hq => ?_)
  obtain ⟨e9, hq⟩ := hq
  rw [e9]
  rcases hq with ⟨h3, rfl⟩ | ⟨h3, rfl⟩
  · refine g_iconst C 1 dX3_pin_6 (by decide) ?_
    refine g_callM C (k_X3_fails l D g A xm _ 1 1 (by decide) (by decide)) gX3_pin_X3_fails dX3_pin_7 (n := 2) rfl rfl rfl (by decide +kernel) ⟨Nat.le_of_ble_eq_true rfl, Nat.le_of_ble_eq_true rfl⟩ rfl rfl (Nat.le_of_ble_eq_true rfl) ⟨Nat.le_refl _, Nat.le_refl _⟩ (fun r V1 hq => ?_)
    obtain ⟨rfl, rfl⟩ : V1 = u2 (V) 25 0 0 ∧ r = some (.int (nI 0)) := by
      rcases hq with ⟨h7, h8, h1, h2⟩ | ⟨h7, h9, h1, h2⟩ | ⟨h9, h1, h2⟩
      · exact ⟨h1, h2⟩
      · exact absurd h9 (by decide)
      · exact absurd h9 (by decide)
    refine g_if_eq C 15 dX3_pin_10 (by decide) (by decide) (fun c10 => ?_) (fun c10 => absurd c10 (by decide))
    obtain ⟨j, hj, hj1, hj2, rfl⟩ := tel_ex hB hN h3
    first | refine g_aload_n C dX3_pin_15 rfl ?_ | refine g_aload_nq C _ dX3_pin_15 rfl ?_
    refine mg_pins C i3 (by decide +kernel) dX3_pin_16 ?_
    refine g_iload_n C dX3_pin_19 rfl ?_
    refine g_dup2 C dX3_pin_20 (by first | rfl | exact vcat_rf _) (by first | rfl | exact vcat_rf _) ?_
    refine ml_pins C dX3_pin_21 (by omega) ?_
    refine g_iconst C 1 dX3_pin_22 (by decide) ?_
    first | refine g_iadd C dX3_pin_23 ?_ | refine g_iaddx C dX3_pin_23 ?_
    refine ms_pins C dX3_pin_24 (by omega) ?_
    first | refine g_aload_n C dX3_pin_25 rfl ?_ | refine g_aload_nq C _ dX3_pin_25 rfl ?_
    refine mg_pins C i3 (by decide +kernel) dX3_pin_26 ?_
    refine g_iload_n C dX3_pin_29 rfl ?_
    refine ml_pins C dX3_pin_30 (by omega) ?_
    exact g_iret C dX3_pin_31 rfl (⟨_, rfl, Or.inl ⟨h3, by rw [ix_nI hj]; rfl, by rw [ix_nI hj, u2_same]; rfl⟩⟩)
  · refine g_iconst C 1 dX3_pin_6 (by decide) ?_
    refine g_callM C (k_X3_fails l D g A xm _ 0 1 (by decide) (by decide)) gX3_pin_X3_fails dX3_pin_7 (n := 2) rfl rfl rfl (by decide +kernel) ⟨Nat.le_of_ble_eq_true rfl, Nat.le_of_ble_eq_true rfl⟩ rfl rfl (Nat.le_of_ble_eq_true rfl) ⟨Nat.le_refl _, Nat.le_refl _⟩ (fun r V1 hq => ?_)
    obtain ⟨rfl, rfl⟩ : V1 = u2 (V) 25 0 1 ∧ r = some (.int (nI 1)) := by
      rcases hq with ⟨h7, h8, h1, h2⟩ | ⟨h7, h9, h1, h2⟩ | ⟨h9, h1, h2⟩
      · exact absurd h7 (by decide)
      · exact absurd h7 (by decide)
      · exact ⟨h1, h2⟩
    refine g_if_eq C 15 dX3_pin_10 (by decide) (by decide) (fun c10 => absurd c10 (by decide)) (fun c10 => ?_)
    refine g_iconst C 0 dX3_pin_13 (by decide) ?_
    exact g_iret C dX3_pin_14 rfl (⟨_, rfl, Or.inr ⟨h3, rfl, rfl⟩⟩)
set_option maxRecDepth 100000 in
set_option maxHeartbeats 1000000 in
theorem k_X3_unpin (l : Launch) (D : va_G) (g : Nat → ClassId) (A : Nat → Prop) (xm : Nat → Nat) (V : VV) {N : Nat} (hB : BdN V N) (hN : N ≤ 2 ^ 30) (x : Int32) : MC l yX3_unpin wsX3_unpin ({ frames := 1, cells := 0, slots := 0, locals := 22 } : Room) D g A xm [.ref (xm 0), .int x] V (fun r V1 => (inR x 64 ∧ 0 < V 5 (ix x) ∧ V1 = u2 (u2 V 25 0 0) 5 (ix x) (V 5 (ix x) - 1) ∧ r = some (.int (nI (V 5 (ix x) - 1)))) ∨ (¬ (inR x 64 ∧ 0 < V 5 (ix x)) ∧ V1 = u2 V 25 0 1 ∧ r = some (.int (nI 0)))) := by
  refine k_ofW [(0, .ref (xm 0)), (1, .int x)] (by decide) rfl (Nat.le_of_ble_eq_true rfl) rfl (by simp [Value.category]) ?_
  intro p e s m args below meth c C
  have i3 : ∀ w ∈ wsX30, w ∈ wsX3_unpin := by decide +kernel
  first | refine g_aload_n C dX3_unpin_0 rfl ?_ | refine g_aload_nq C _ dX3_unpin_0 rfl ?_
  refine g_iload_n C dX3_unpin_1 rfl ?_
  refine g_ifx_lt C 24 dX3_unpin_2 (by decide) (fun c2 => ?_) (fun c2 => ?_)
  · refine g_iconst C 0 dX3_unpin_24 (by decide) ?_
    refine g_iconst C 1 dX3_unpin_25 (by decide) ?_
    refine g_callM C (k_X3_fails l D g A xm _ 0 1 (by decide) (by decide)) gX3_unpin_X3_fails dX3_unpin_26 (n := 2) rfl rfl rfl (by decide +kernel) ⟨Nat.le_of_ble_eq_true rfl, Nat.le_of_ble_eq_true rfl⟩ rfl rfl (Nat.le_of_ble_eq_true rfl) ⟨Nat.le_refl _, Nat.le_refl _⟩ (fun r V1 hq => ?_)
    obtain ⟨rfl, rfl⟩ : V1 = u2 (V) 25 0 1 ∧ r = some (.int (nI 1)) := by
      rcases hq with ⟨h7, h8, h1, h2⟩ | ⟨h7, h9, h1, h2⟩ | ⟨h9, h1, h2⟩
      · exact absurd h7 (by decide)
      · exact absurd h7 (by decide)
      · exact ⟨h1, h2⟩
    refine g_if_eq C 34 dX3_unpin_29 (by decide) (by decide) (fun c29 => absurd c29 (by decide)) (fun c29 => ?_)
    refine g_iconst C 0 dX3_unpin_32 (by decide) ?_
    exact g_iret C dX3_unpin_33 rfl (⟨_, rfl, Or.inr ⟨fun q => inR_neg c2 q.1, rfl, rfl⟩⟩)
  · obtain ⟨j, hj, rfl⟩ := nI_of c2
    refine g_iload_n C dX3_unpin_5 rfl ?_
    refine g_bipush C 64 dX3_unpin_6 (by decide) ?_
    refine g_icmp_ge C 24 dX3_unpin_8 (by decide) hj (by decide) (fun c8 => ?_) (fun c8 => ?_)
    · refine g_iconst C 0 dX3_unpin_24 (by decide) ?_
      refine g_iconst C 1 dX3_unpin_25 (by decide) ?_
      refine g_callM C (k_X3_fails l D g A xm _ 0 1 (by decide) (by decide)) gX3_unpin_X3_fails dX3_unpin_26 (n := 2) rfl rfl rfl (by decide +kernel) ⟨Nat.le_of_ble_eq_true rfl, Nat.le_of_ble_eq_true rfl⟩ rfl rfl (Nat.le_of_ble_eq_true rfl) ⟨Nat.le_refl _, Nat.le_refl _⟩ (fun r V1 hq => ?_)
      obtain ⟨rfl, rfl⟩ : V1 = u2 (V) 25 0 1 ∧ r = some (.int (nI 1)) := by
        rcases hq with ⟨h7, h8, h1, h2⟩ | ⟨h7, h9, h1, h2⟩ | ⟨h9, h1, h2⟩
        · exact absurd h7 (by decide)
        · exact absurd h7 (by decide)
        · exact ⟨h1, h2⟩
      refine g_if_eq C 34 dX3_unpin_29 (by decide) (by decide) (fun c29 => absurd c29 (by decide)) (fun c29 => ?_)
      refine g_iconst C 0 dX3_unpin_32 (by decide) ?_
      exact g_iret C dX3_unpin_33 rfl (⟨_, rfl, Or.inr ⟨fun q => absurd ((inR_nI hj).mp q.1) (Nat.not_lt.mpr c8), rfl, rfl⟩⟩)
    · first | refine g_aload_n C dX3_unpin_11 rfl ?_ | refine g_aload_nq C _ dX3_unpin_11 rfl ?_
      refine mg_pins C i3 (by decide +kernel) dX3_unpin_12 ?_
      refine g_iload_n C dX3_unpin_15 rfl ?_
      refine ml_pins C dX3_unpin_16 (by omega) ?_
      refine g_if_le C 24 dX3_unpin_17 (by decide) (by first | exact bd hB hN _ _ | omega) (fun c17 => ?_) (fun c17 => ?_)
      · refine g_iconst C 0 dX3_unpin_24 (by decide) ?_
        refine g_iconst C 1 dX3_unpin_25 (by decide) ?_
        refine g_callM C (k_X3_fails l D g A xm _ 0 1 (by decide) (by decide)) gX3_unpin_X3_fails dX3_unpin_26 (n := 2) rfl rfl rfl (by decide +kernel) ⟨Nat.le_of_ble_eq_true rfl, Nat.le_of_ble_eq_true rfl⟩ rfl rfl (Nat.le_of_ble_eq_true rfl) ⟨Nat.le_refl _, Nat.le_refl _⟩ (fun r V1 hq => ?_)
        obtain ⟨rfl, rfl⟩ : V1 = u2 (V) 25 0 1 ∧ r = some (.int (nI 1)) := by
          rcases hq with ⟨h7, h8, h1, h2⟩ | ⟨h7, h9, h1, h2⟩ | ⟨h9, h1, h2⟩
          · exact absurd h7 (by decide)
          · exact absurd h7 (by decide)
          · exact ⟨h1, h2⟩
        refine g_if_eq C 34 dX3_unpin_29 (by decide) (by decide) (fun c29 => absurd c29 (by decide)) (fun c29 => ?_)
        refine g_iconst C 0 dX3_unpin_32 (by decide) ?_
        exact g_iret C dX3_unpin_33 rfl (⟨_, rfl, Or.inr ⟨fun q => by have q2 := q.2; rw [ix_nI hj] at q2; omega, rfl, rfl⟩⟩)
      · refine g_iconst C 1 dX3_unpin_20 (by decide) ?_
        refine g_goto C 25 dX3_unpin_21 (by decide) ?_
        refine g_iconst C 1 dX3_unpin_25 (by decide) ?_
        refine g_callM C (k_X3_fails l D g A xm _ 1 1 (by decide) (by decide)) gX3_unpin_X3_fails dX3_unpin_26 (n := 2) rfl rfl rfl (by decide +kernel) ⟨Nat.le_of_ble_eq_true rfl, Nat.le_of_ble_eq_true rfl⟩ rfl rfl (Nat.le_of_ble_eq_true rfl) ⟨Nat.le_refl _, Nat.le_refl _⟩ (fun r V1 hq => ?_)
        obtain ⟨rfl, rfl⟩ : V1 = u2 (V) 25 0 0 ∧ r = some (.int (nI 0)) := by
          rcases hq with ⟨h7, h8, h1, h2⟩ | ⟨h7, h9, h1, h2⟩ | ⟨h9, h1, h2⟩
          · exact ⟨h1, h2⟩
          · exact absurd h9 (by decide)
          · exact absurd h9 (by decide)
        refine g_if_eq C 34 dX3_unpin_29 (by decide) (by decide) (fun c29 => ?_) (fun c29 => absurd c29 (by decide))
        first | refine g_aload_n C dX3_unpin_34 rfl ?_ | refine g_aload_nq C _ dX3_unpin_34 rfl ?_
        refine mg_pins C i3 (by decide +kernel) dX3_unpin_35 ?_
        refine g_iload_n C dX3_unpin_38 rfl ?_
        refine g_dup2 C dX3_unpin_39 (by first | rfl | exact vcat_rf _) (by first | rfl | exact vcat_rf _) ?_
        refine ml_pins C dX3_unpin_40 (by omega) ?_
        refine g_iconst C 1 dX3_unpin_41 (by decide) ?_
        first | refine g_isub C dX3_unpin_42 c17 ?_ | refine g_isubx C dX3_unpin_42 ?_
        refine ms_pins C dX3_unpin_43 (by omega) ?_
        first | refine g_aload_n C dX3_unpin_44 rfl ?_ | refine g_aload_nq C _ dX3_unpin_44 rfl ?_
        refine mg_pins C i3 (by decide +kernel) dX3_unpin_45 ?_
        refine g_iload_n C dX3_unpin_48 rfl ?_
        refine ml_pins C dX3_unpin_49 (by omega) ?_
        exact g_iret C dX3_unpin_50 rfl (⟨_, rfl, Or.inl ⟨(inR_nI hj).mpr c8, by rw [ix_nI hj]; exact c17, by rw [ix_nI hj]; rfl, by rw [ix_nI hj, u2_same]; rfl⟩⟩)
set_option maxRecDepth 100000 in
set_option maxHeartbeats 1000000 in
theorem k_X3_read (l : Launch) (D : va_G) (g : Nat → ClassId) (A : Nat → Prop) (xm : Nat → Nat) (V : VV) {N : Nat} (hB : BdN V N) (hN : N ≤ 2 ^ 30) (hC : V 16 0 ≤ 60) (hR : V 3 0 ≤ 13000) (x y : Int32) : MC l yX3_read wsX3_read ({ frames := 2, cells := 0, slots := 0, locals := 47 } : Room) D g A xm [.ref (xm 0), .int x, .int y] V (fun r V1 => (inR x (V 16 0) ∧ inR y 200 ∧ V 8 (ix x) < 3 ∧ V1 = u2 V 25 0 0 ∧ ((vRead V (ix x) (ix y) ∧ r = some (.int (nI 1))) ∨ (¬ vRead V (ix x) (ix y) ∧ r = some (.int (nI 0))))) ∨ (inR x (V 16 0) ∧ inR y 200 ∧ 3 ≤ V 8 (ix x) ∧ V1 = u2 V 25 0 2 ∧ r = some (.int (nI 0))) ∨ (¬ (inR x (V 16 0) ∧ inR y 200) ∧ V1 = u2 V 25 0 1 ∧ r = some (.int (nI 0)))) := by
  refine k_ofW [(0, .ref (xm 0)), (1, .int x), (2, .int y)] (by decide) rfl (Nat.le_of_ble_eq_true rfl) rfl (by simp [Value.category]) ?_
  intro p e s m args below meth c C
  have i3 : ∀ w ∈ wsX30, w ∈ wsX3_read := by decide +kernel
  have hN0 : 0 < N := Nat.lt_of_le_of_lt (Nat.zero_le _) (hB 0 0)
  first | refine g_aload_n C dX3_read_0 rfl ?_ | refine g_aload_nq C _ dX3_read_0 rfl ?_
  refine g_iload_n C dX3_read_1 rfl ?_
  refine g_callM C (k_X3_isTransaction l D g A xm _ hB hN x) gX3_read_X3_isTransaction dX3_read_2 (n := 1) rfl rfl rfl (by decide +kernel) ⟨Nat.le_of_ble_eq_true rfl, Nat.le_of_ble_eq_true rfl⟩ rfl rfl (Nat.le_of_ble_eq_true rfl) ⟨Nat.le_refl _, Nat.le_refl _⟩ (fun r V1 hq => ?_)
  obtain ⟨e9, hq⟩ := hq
  rw [e9]
  rcases hq with ⟨h2, rfl⟩ | ⟨h2, rfl⟩
  · refine g_if_eq C 19 dX3_read_5 (by decide) (by decide) (fun c5 => absurd c5 (by decide)) (fun c5 => ?_)
    refine g_iload_n C dX3_read_8 rfl ?_
    refine g_callMS C (k_X3_isTriple l D g A xm _ y) gX3_read_X3_isTriple dX3_read_9 (n := 1) rfl rfl rfl (by decide +kernel) ⟨Nat.le_of_ble_eq_true rfl, Nat.le_of_ble_eq_true rfl⟩ rfl rfl (Nat.le_of_ble_eq_true rfl) ⟨Nat.le_refl _, Nat.le_refl _⟩ (fun r V1 hq => ?_)
    obtain ⟨e9, hq⟩ := hq
    rw [e9]
    rcases hq with ⟨h9, rfl⟩ | ⟨h9, rfl⟩
    · refine g_if_eq C 19 dX3_read_12 (by decide) (by decide) (fun c12 => absurd c12 (by decide)) (fun c12 => ?_)
      refine g_iconst C 1 dX3_read_15 (by decide) ?_
      refine g_goto C 20 dX3_read_16 (by decide) ?_
      refine g_istore_n C dX3_read_20 (by decide) ?_
      first | refine g_aload_n C dX3_read_21 rfl ?_ | refine g_aload_nq C _ dX3_read_21 rfl ?_
      refine g_iload_n C dX3_read_22 rfl ?_
      refine g_iload_n C dX3_read_23 rfl ?_
      refine g_if_eq C 39 dX3_read_24 (by decide) (by decide) (fun c24 => absurd c24 (by decide)) (fun c24 => ?_)
      obtain ⟨j, hj1, hj, rfl⟩ := inR_ex h2
      obtain ⟨k, hk1, hk, rfl⟩ := inR_ex h9
      first | refine g_aload_n C dX3_read_27 rfl ?_ | refine g_aload_nq C _ dX3_read_27 rfl ?_
      refine g_iload_n C dX3_read_28 rfl ?_
      refine g_callM C (k_X3_isLive l D g A xm _ hB hN j (by omega)) gX3_read_X3_isLive dX3_read_29 (n := 1) rfl rfl rfl (by decide +kernel) ⟨Nat.le_of_ble_eq_true rfl, Nat.le_of_ble_eq_true rfl⟩ rfl rfl (Nat.le_of_ble_eq_true rfl) ⟨Nat.le_refl _, Nat.le_refl _⟩ (fun r V1 hq => ?_)
      obtain ⟨e9, hq⟩ := hq
      rw [e9]
      rcases hq with ⟨h29, rfl⟩ | ⟨h29, rfl⟩
      · refine g_if_eq C 39 dX3_read_32 (by decide) (by decide) (fun c32 => absurd c32 (by decide)) (fun c32 => ?_)
        refine g_iconst C 1 dX3_read_35 (by decide) ?_
        refine g_goto C 40 dX3_read_36 (by decide) ?_
        refine g_callM C (k_X3_fails l D g A xm _ 1 1 (by decide) (by decide)) gX3_read_X3_fails dX3_read_40 (n := 2) rfl rfl rfl (by decide +kernel) ⟨Nat.le_of_ble_eq_true rfl, Nat.le_of_ble_eq_true rfl⟩ rfl rfl (Nat.le_of_ble_eq_true rfl) ⟨Nat.le_refl _, Nat.le_refl _⟩ (fun r V1 hq => ?_)
        obtain ⟨rfl, rfl⟩ : V1 = u2 (V) 25 0 0 ∧ r = some (.int (nI 0)) := by
          rcases hq with ⟨h7, h8, h1, h2⟩ | ⟨h7, h9, h1, h2⟩ | ⟨h9, h1, h2⟩
          · exact ⟨h1, h2⟩
          · exact absurd h9 (by decide)
          · exact absurd h9 (by decide)
        refine g_if_eq C 48 dX3_read_43 (by decide) (by decide) (fun c43 => ?_) (fun c43 => absurd c43 (by decide))
        first | refine g_aload_n C dX3_read_48 rfl ?_ | refine g_aload_nq C _ dX3_read_48 rfl ?_
        refine mg_wrote C i3 (by decide +kernel) dX3_read_49 ?_
        refine g_sipush C 200 dX3_read_52 (by decide) ?_
        refine g_iload_n C dX3_read_55 rfl ?_
        refine g_imul C dX3_read_56 ?_
        refine g_iload_n C dX3_read_57 rfl ?_
        first | refine g_iadd C dX3_read_58 ?_ | refine g_iaddx C dX3_read_58 ?_
        refine ml_wrote C dX3_read_59 (by omega) ?_
        refine g_istore C dX3_read_60 (by decide) ?_
        refine g_iload C dX3_read_62 rfl ?_
        refine g_if_le C 81 dX3_read_64 (by decide) (bd hB hN _ _) (fun c64 => ?_) (fun c64 => ?_)
        · first | refine g_aload_n C dX3_read_81 rfl ?_ | refine g_aload_nq C _ dX3_read_81 rfl ?_
          refine g_iload_n C dX3_read_82 rfl ?_
          first | refine g_aload_n C dX3_read_83 rfl ?_ | refine g_aload_nq C _ dX3_read_83 rfl ?_
          refine mg_sees C i3 (by decide +kernel) dX3_read_84 ?_
          refine g_iload_n C dX3_read_87 rfl ?_
          refine ml_sees C dX3_read_88 (by omega) ?_
          refine g_callM C (k_X3_isThere l D g A xm _ (hB.up (k := 25) (i := 0) (v := 0) hN0) hN k (V 7 j) (by omega) (Nat.lt_of_lt_of_le (hB 7 j) hN) hR) gX3_read_X3_isThere dX3_read_89 (n := 2) rfl rfl rfl (by decide +kernel) ⟨Nat.le_of_ble_eq_true rfl, Nat.le_of_ble_eq_true rfl⟩ rfl rfl (Nat.le_of_ble_eq_true rfl) ⟨Nat.le_refl _, Nat.le_refl _⟩ (fun r V1 hq => ?_)
          obtain ⟨e9, hq⟩ := hq
          rw [e9]
          rcases hq with ⟨h89, rfl⟩ | ⟨h89, rfl⟩
          · exact g_zret C dX3_read_92 rfl (by first | exact nar_boolV (by omega) | decide +kernel) (⟨_, rfl, Or.inl ⟨h2, h9, by rw [ix_nI hj]; exact h29, rfl, by rw [ix_nI hj, ix_nI hk]; exact Or.inl ⟨Or.inr ⟨c64, (vThere_25 V 0 k _).mp h89⟩, rfl⟩⟩⟩)
          · exact g_zret C dX3_read_92 rfl (by first | exact nar_boolV (by omega) | decide +kernel) (⟨_, rfl, Or.inl ⟨h2, h9, by rw [ix_nI hj]; exact h29, rfl, by rw [ix_nI hj, ix_nI hk]; exact Or.inr ⟨fun q => q.elim (fun z => by have c64 : V 10 (200 * j + k) = 0 := c64; omega) (fun z => h89 ((vThere_25 V 0 k _).mpr z.2)), rfl⟩⟩⟩)
        · refine g_iload C dX3_read_67 rfl ?_
          refine g_iconst C 2 dX3_read_69 (by decide) ?_
          refine g_icmp_ne C 77 dX3_read_70 (by decide) (bd hB hN _ _) (by decide) (fun c70 => ?_) (fun c70 => ?_)
          · refine g_iconst C 0 dX3_read_77 (by decide) ?_
            refine g_goto C 92 dX3_read_78 (by decide) ?_
            exact g_zret C dX3_read_92 rfl (by first | exact nar_boolV (by omega) | decide +kernel) (⟨_, rfl, Or.inl ⟨h2, h9, by rw [ix_nI hj]; exact h29, rfl, by rw [ix_nI hj, ix_nI hk]; exact Or.inr ⟨fun q => q.elim c70 (fun z => by have z1 := z.1; have c64 : 0 < V 10 (200 * j + k) := c64; omega), rfl⟩⟩⟩)
          · refine g_iconst C 1 dX3_read_73 (by decide) ?_
            refine g_goto C 92 dX3_read_74 (by decide) ?_
            exact g_zret C dX3_read_92 rfl (by first | exact nar_boolV (by omega) | decide +kernel) (⟨_, rfl, Or.inl ⟨h2, h9, by rw [ix_nI hj]; exact h29, rfl, by rw [ix_nI hj, ix_nI hk]; exact Or.inl ⟨Or.inl c70, rfl⟩⟩⟩)
      · refine g_if_eq C 39 dX3_read_32 (by decide) (by decide) (fun c32 => ?_) (fun c32 => absurd c32 (by decide))
        refine g_iconst C 0 dX3_read_39 (by decide) ?_
        refine g_callM C (k_X3_fails l D g A xm _ 1 0 (by decide) (by decide)) gX3_read_X3_fails dX3_read_40 (n := 2) rfl rfl rfl (by decide +kernel) ⟨Nat.le_of_ble_eq_true rfl, Nat.le_of_ble_eq_true rfl⟩ rfl rfl (Nat.le_of_ble_eq_true rfl) ⟨Nat.le_refl _, Nat.le_refl _⟩ (fun r V1 hq => ?_)
        obtain ⟨rfl, rfl⟩ : V1 = u2 (V) 25 0 2 ∧ r = some (.int (nI 1)) := by
          rcases hq with ⟨h7, h8, h1, h2⟩ | ⟨h7, h9, h1, h2⟩ | ⟨h9, h1, h2⟩
          · exact absurd h8 (by decide)
          · exact ⟨h1, h2⟩
          · exact absurd h9 (by decide)
        refine g_if_eq C 48 dX3_read_43 (by decide) (by decide) (fun c43 => absurd c43 (by decide)) (fun c43 => ?_)
        refine g_iconst C 0 dX3_read_46 (by decide) ?_
        exact g_zret C dX3_read_47 rfl (by first | exact nar_boolV (by omega) | decide +kernel) (⟨_, rfl, Or.inr (Or.inl ⟨h2, h9, by rw [ix_nI hj]; exact h29, rfl, rfl⟩)⟩)
    · refine g_if_eq C 19 dX3_read_12 (by decide) (by decide) (fun c12 => ?_) (fun c12 => absurd c12 (by decide))
      refine g_iconst C 0 dX3_read_19 (by decide) ?_
      refine g_istore_n C dX3_read_20 (by decide) ?_
      first | refine g_aload_n C dX3_read_21 rfl ?_ | refine g_aload_nq C _ dX3_read_21 rfl ?_
      refine g_iload_n C dX3_read_22 rfl ?_
      refine g_iload_n C dX3_read_23 rfl ?_
      refine g_if_eq C 39 dX3_read_24 (by decide) (by decide) (fun c24 => ?_) (fun c24 => absurd c24 (by decide))
      refine g_iconst C 0 dX3_read_39 (by decide) ?_
      refine g_callM C (k_X3_fails l D g A xm _ 0 0 (by decide) (by decide)) gX3_read_X3_fails dX3_read_40 (n := 2) rfl rfl rfl (by decide +kernel) ⟨Nat.le_of_ble_eq_true rfl, Nat.le_of_ble_eq_true rfl⟩ rfl rfl (Nat.le_of_ble_eq_true rfl) ⟨Nat.le_refl _, Nat.le_refl _⟩ (fun r V1 hq => ?_)
      obtain ⟨rfl, rfl⟩ : V1 = u2 (V) 25 0 1 ∧ r = some (.int (nI 1)) := by
        rcases hq with ⟨h7, h8, h1, h2⟩ | ⟨h7, h9, h1, h2⟩ | ⟨h9, h1, h2⟩
        · exact absurd h7 (by decide)
        · exact absurd h7 (by decide)
        · exact ⟨h1, h2⟩
      refine g_if_eq C 48 dX3_read_43 (by decide) (by decide) (fun c43 => absurd c43 (by decide)) (fun c43 => ?_)
      refine g_iconst C 0 dX3_read_46 (by decide) ?_
      exact g_zret C dX3_read_47 rfl (by first | exact nar_boolV (by omega) | decide +kernel) (⟨_, rfl, Or.inr (Or.inr ⟨fun q => h9 q.2, rfl, rfl⟩)⟩)
  · refine g_if_eq C 19 dX3_read_5 (by decide) (by decide) (fun c5 => ?_) (fun c5 => absurd c5 (by decide))
    refine g_iconst C 0 dX3_read_19 (by decide) ?_
    refine g_istore_n C dX3_read_20 (by decide) ?_
    first | refine g_aload_n C dX3_read_21 rfl ?_ | refine g_aload_nq C _ dX3_read_21 rfl ?_
    refine g_iload_n C dX3_read_22 rfl ?_
    refine g_iload_n C dX3_read_23 rfl ?_
    refine g_if_eq C 39 dX3_read_24 (by decide) (by decide) (fun c24 => ?_) (fun c24 => absurd c24 (by decide))
    refine g_iconst C 0 dX3_read_39 (by decide) ?_
    refine g_callM C (k_X3_fails l D g A xm _ 0 0 (by decide) (by decide)) gX3_read_X3_fails dX3_read_40 (n := 2) rfl rfl rfl (by decide +kernel) ⟨Nat.le_of_ble_eq_true rfl, Nat.le_of_ble_eq_true rfl⟩ rfl rfl (Nat.le_of_ble_eq_true rfl) ⟨Nat.le_refl _, Nat.le_refl _⟩ (fun r V1 hq => ?_)
    obtain ⟨rfl, rfl⟩ : V1 = u2 (V) 25 0 1 ∧ r = some (.int (nI 1)) := by
      rcases hq with ⟨h7, h8, h1, h2⟩ | ⟨h7, h9, h1, h2⟩ | ⟨h9, h1, h2⟩
      · exact absurd h7 (by decide)
      · exact absurd h7 (by decide)
      · exact ⟨h1, h2⟩
    refine g_if_eq C 48 dX3_read_43 (by decide) (by decide) (fun c43 => absurd c43 (by decide)) (fun c43 => ?_)
    refine g_iconst C 0 dX3_read_46 (by decide) ?_
    exact g_zret C dX3_read_47 rfl (by first | exact nar_boolV (by omega) | decide +kernel) (⟨_, rfl, Or.inr (Or.inr ⟨fun q => h2 q.1, rfl, rfl⟩)⟩)
set_option maxRecDepth 100000 in
set_option maxHeartbeats 1000000 in
theorem k_X3_conflicts (l : Launch) (D : va_G) (g : Nat → ClassId) (A : Nat → Prop) (xm : Nat → Nat) (V : VV) {N : Nat} (hB : BdN V N) (hN : N ≤ 2 ^ 30) (x y : Int32) : MC l yX3_conflicts wsX3_conflicts ({ frames := 1, cells := 0, slots := 0, locals := 22 } : Room) D g A xm [.ref (xm 0), .int x, .int y] V (fun r V1 => (x = nI 0 ∧ inR y 200 ∧ V1 = u2 V 25 0 0 ∧ r = some (.int (nI (V 23 (ix y))))) ∨ (x = nI 1 ∧ inR y 4 ∧ V1 = u2 V 25 0 0 ∧ r = some (.int (nI (V 24 (ix y))))) ∨ (¬ (x = nI 0 ∧ inR y 200) ∧ ¬ (x = nI 1 ∧ inR y 4) ∧ V1 = u2 V 25 0 1 ∧ r = some (.int (nI 0)))) := by
  refine k_ofW [(0, .ref (xm 0)), (1, .int x), (2, .int y)] (by decide) rfl (Nat.le_of_ble_eq_true rfl) rfl (by simp [Value.category]) ?_
  intro p e s m args below meth c C
  have i3 : ∀ w ∈ wsX30, w ∈ wsX3_conflicts := by decide +kernel
  first | refine g_aload_n C dX3_conflicts_0 rfl ?_ | refine g_aload_nq C _ dX3_conflicts_0 rfl ?_
  refine g_iload_n C dX3_conflicts_1 rfl ?_
  refine g_ifx_eq C 10 dX3_conflicts_2 (by decide) (fun c2 => ?_) (fun c2 => ?_)
  · refine g_iload_n C dX3_conflicts_10 rfl ?_
    refine g_ifx_lt C 33 dX3_conflicts_11 (by decide) (fun c11 => ?_) (fun c11 => ?_)
    · refine g_iconst C 0 dX3_conflicts_33 (by decide) ?_
      refine g_iconst C 1 dX3_conflicts_34 (by decide) ?_
      refine g_callM C (k_X3_fails l D g A xm _ 0 1 (by decide) (by decide)) gX3_conflicts_X3_fails dX3_conflicts_35 (n := 2) rfl rfl rfl (by decide +kernel) ⟨Nat.le_of_ble_eq_true rfl, Nat.le_of_ble_eq_true rfl⟩ rfl rfl (Nat.le_of_ble_eq_true rfl) ⟨Nat.le_refl _, Nat.le_refl _⟩ (fun r V1 hq => ?_)
      obtain ⟨rfl, rfl⟩ : V1 = u2 (V) 25 0 1 ∧ r = some (.int (nI 1)) := by
        rcases hq with ⟨h7, h8, h1, h2⟩ | ⟨h7, h9, h1, h2⟩ | ⟨h9, h1, h2⟩
        · exact absurd h7 (by decide)
        · exact absurd h7 (by decide)
        · exact ⟨h1, h2⟩
      refine g_if_eq C 43 dX3_conflicts_38 (by decide) (by decide) (fun c38 => absurd c38 (by decide)) (fun c38 => ?_)
      refine g_iconst C 0 dX3_conflicts_41 (by decide) ?_
      exact g_iret C dX3_conflicts_42 rfl (⟨_, rfl, Or.inr (Or.inr ⟨fun q => inR_neg c11 q.2, fun q => inR_neg c11 q.2, rfl, rfl⟩)⟩)
    · obtain ⟨j, hj, rfl⟩ := nI_of c11
      refine g_iload_n C dX3_conflicts_14 rfl ?_
      refine g_iload_n C dX3_conflicts_15 rfl ?_
      refine g_ifx_ne C 25 dX3_conflicts_16 (by decide) (fun c16 => ?_) (fun c16 => ?_)
      · exact absurd c2 c16
      · refine g_sipush C 200 dX3_conflicts_19 (by decide) ?_
        refine g_goto C 26 dX3_conflicts_22 (by decide) ?_
        refine g_icmp_ge C 33 dX3_conflicts_26 (by decide) hj (by decide) (fun c26 => ?_) (fun c26 => ?_)
        · refine g_iconst C 0 dX3_conflicts_33 (by decide) ?_
          refine g_iconst C 1 dX3_conflicts_34 (by decide) ?_
          refine g_callM C (k_X3_fails l D g A xm _ 0 1 (by decide) (by decide)) gX3_conflicts_X3_fails dX3_conflicts_35 (n := 2) rfl rfl rfl (by decide +kernel) ⟨Nat.le_of_ble_eq_true rfl, Nat.le_of_ble_eq_true rfl⟩ rfl rfl (Nat.le_of_ble_eq_true rfl) ⟨Nat.le_refl _, Nat.le_refl _⟩ (fun r V1 hq => ?_)
          obtain ⟨rfl, rfl⟩ : V1 = u2 (V) 25 0 1 ∧ r = some (.int (nI 1)) := by
            rcases hq with ⟨h7, h8, h1, h2⟩ | ⟨h7, h9, h1, h2⟩ | ⟨h9, h1, h2⟩
            · exact absurd h7 (by decide)
            · exact absurd h7 (by decide)
            · exact ⟨h1, h2⟩
          refine g_if_eq C 43 dX3_conflicts_38 (by decide) (by decide) (fun c38 => absurd c38 (by decide)) (fun c38 => ?_)
          refine g_iconst C 0 dX3_conflicts_41 (by decide) ?_
          exact g_iret C dX3_conflicts_42 rfl (⟨_, rfl, Or.inr (Or.inr ⟨fun q => absurd ((inR_nI hj).mp q.2) (Nat.not_lt.mpr c26), fun q => by have := q.1; rw [c2] at this; exact absurd this (by decide), rfl, rfl⟩)⟩)
        · refine g_iconst C 1 dX3_conflicts_29 (by decide) ?_
          refine g_goto C 34 dX3_conflicts_30 (by decide) ?_
          refine g_iconst C 1 dX3_conflicts_34 (by decide) ?_
          refine g_callM C (k_X3_fails l D g A xm _ 1 1 (by decide) (by decide)) gX3_conflicts_X3_fails dX3_conflicts_35 (n := 2) rfl rfl rfl (by decide +kernel) ⟨Nat.le_of_ble_eq_true rfl, Nat.le_of_ble_eq_true rfl⟩ rfl rfl (Nat.le_of_ble_eq_true rfl) ⟨Nat.le_refl _, Nat.le_refl _⟩ (fun r V1 hq => ?_)
          obtain ⟨rfl, rfl⟩ : V1 = u2 (V) 25 0 0 ∧ r = some (.int (nI 0)) := by
            rcases hq with ⟨h7, h8, h1, h2⟩ | ⟨h7, h9, h1, h2⟩ | ⟨h9, h1, h2⟩
            · exact ⟨h1, h2⟩
            · exact absurd h9 (by decide)
            · exact absurd h9 (by decide)
          refine g_if_eq C 43 dX3_conflicts_38 (by decide) (by decide) (fun c38 => ?_) (fun c38 => absurd c38 (by decide))
          refine g_iload_n C dX3_conflicts_43 rfl ?_
          refine g_ifx_ne C 56 dX3_conflicts_44 (by decide) (fun c44 => ?_) (fun c44 => ?_)
          · exact absurd c2 c44
          · first | refine g_aload_n C dX3_conflicts_47 rfl ?_ | refine g_aload_nq C _ dX3_conflicts_47 rfl ?_
            refine mg_failures C i3 (by decide +kernel) dX3_conflicts_48 ?_
            refine g_iload_n C dX3_conflicts_51 rfl ?_
            refine ml_failures C dX3_conflicts_52 (by omega) ?_
            refine g_goto C 62 dX3_conflicts_53 (by decide) ?_
            exact g_iret C dX3_conflicts_62 rfl (⟨_, rfl, Or.inl ⟨c2, (inR_nI hj).mpr c26, rfl, by rw [ix_nI hj]; rfl⟩⟩)
  · refine g_iload_n C dX3_conflicts_5 rfl ?_
    refine g_iconst C 1 dX3_conflicts_6 (by decide) ?_
    refine g_icmpx_ne C 33 dX3_conflicts_7 (by decide) (fun c7 => ?_) (fun c7 => ?_)
    · refine g_iconst C 0 dX3_conflicts_33 (by decide) ?_
      refine g_iconst C 1 dX3_conflicts_34 (by decide) ?_
      refine g_callM C (k_X3_fails l D g A xm _ 0 1 (by decide) (by decide)) gX3_conflicts_X3_fails dX3_conflicts_35 (n := 2) rfl rfl rfl (by decide +kernel) ⟨Nat.le_of_ble_eq_true rfl, Nat.le_of_ble_eq_true rfl⟩ rfl rfl (Nat.le_of_ble_eq_true rfl) ⟨Nat.le_refl _, Nat.le_refl _⟩ (fun r V1 hq => ?_)
      obtain ⟨rfl, rfl⟩ : V1 = u2 (V) 25 0 1 ∧ r = some (.int (nI 1)) := by
        rcases hq with ⟨h7, h8, h1, h2⟩ | ⟨h7, h9, h1, h2⟩ | ⟨h9, h1, h2⟩
        · exact absurd h7 (by decide)
        · exact absurd h7 (by decide)
        · exact ⟨h1, h2⟩
      refine g_if_eq C 43 dX3_conflicts_38 (by decide) (by decide) (fun c38 => absurd c38 (by decide)) (fun c38 => ?_)
      refine g_iconst C 0 dX3_conflicts_41 (by decide) ?_
      exact g_iret C dX3_conflicts_42 rfl (⟨_, rfl, Or.inr (Or.inr ⟨fun q => c2 q.1, fun q => c7 q.1, rfl, rfl⟩)⟩)
    · refine g_iload_n C dX3_conflicts_10 rfl ?_
      refine g_ifx_lt C 33 dX3_conflicts_11 (by decide) (fun c11 => ?_) (fun c11 => ?_)
      · refine g_iconst C 0 dX3_conflicts_33 (by decide) ?_
        refine g_iconst C 1 dX3_conflicts_34 (by decide) ?_
        refine g_callM C (k_X3_fails l D g A xm _ 0 1 (by decide) (by decide)) gX3_conflicts_X3_fails dX3_conflicts_35 (n := 2) rfl rfl rfl (by decide +kernel) ⟨Nat.le_of_ble_eq_true rfl, Nat.le_of_ble_eq_true rfl⟩ rfl rfl (Nat.le_of_ble_eq_true rfl) ⟨Nat.le_refl _, Nat.le_refl _⟩ (fun r V1 hq => ?_)
        obtain ⟨rfl, rfl⟩ : V1 = u2 (V) 25 0 1 ∧ r = some (.int (nI 1)) := by
          rcases hq with ⟨h7, h8, h1, h2⟩ | ⟨h7, h9, h1, h2⟩ | ⟨h9, h1, h2⟩
          · exact absurd h7 (by decide)
          · exact absurd h7 (by decide)
          · exact ⟨h1, h2⟩
        refine g_if_eq C 43 dX3_conflicts_38 (by decide) (by decide) (fun c38 => absurd c38 (by decide)) (fun c38 => ?_)
        refine g_iconst C 0 dX3_conflicts_41 (by decide) ?_
        exact g_iret C dX3_conflicts_42 rfl (⟨_, rfl, Or.inr (Or.inr ⟨fun q => inR_neg c11 q.2, fun q => inR_neg c11 q.2, rfl, rfl⟩)⟩)
      · obtain ⟨j, hj, rfl⟩ := nI_of c11
        refine g_iload_n C dX3_conflicts_14 rfl ?_
        refine g_iload_n C dX3_conflicts_15 rfl ?_
        refine g_ifx_ne C 25 dX3_conflicts_16 (by decide) (fun c16 => ?_) (fun c16 => ?_)
        · refine g_iconst C 4 dX3_conflicts_25 (by decide) ?_
          refine g_icmp_ge C 33 dX3_conflicts_26 (by decide) hj (by decide) (fun c26 => ?_) (fun c26 => ?_)
          · refine g_iconst C 0 dX3_conflicts_33 (by decide) ?_
            refine g_iconst C 1 dX3_conflicts_34 (by decide) ?_
            refine g_callM C (k_X3_fails l D g A xm _ 0 1 (by decide) (by decide)) gX3_conflicts_X3_fails dX3_conflicts_35 (n := 2) rfl rfl rfl (by decide +kernel) ⟨Nat.le_of_ble_eq_true rfl, Nat.le_of_ble_eq_true rfl⟩ rfl rfl (Nat.le_of_ble_eq_true rfl) ⟨Nat.le_refl _, Nat.le_refl _⟩ (fun r V1 hq => ?_)
            obtain ⟨rfl, rfl⟩ : V1 = u2 (V) 25 0 1 ∧ r = some (.int (nI 1)) := by
              rcases hq with ⟨h7, h8, h1, h2⟩ | ⟨h7, h9, h1, h2⟩ | ⟨h9, h1, h2⟩
              · exact absurd h7 (by decide)
              · exact absurd h7 (by decide)
              · exact ⟨h1, h2⟩
            refine g_if_eq C 43 dX3_conflicts_38 (by decide) (by decide) (fun c38 => absurd c38 (by decide)) (fun c38 => ?_)
            refine g_iconst C 0 dX3_conflicts_41 (by decide) ?_
            exact g_iret C dX3_conflicts_42 rfl (⟨_, rfl, Or.inr (Or.inr ⟨fun q => c2 q.1, fun q => absurd ((inR_nI hj).mp q.2) (Nat.not_lt.mpr c26), rfl, rfl⟩)⟩)
          · refine g_iconst C 1 dX3_conflicts_29 (by decide) ?_
            refine g_goto C 34 dX3_conflicts_30 (by decide) ?_
            refine g_iconst C 1 dX3_conflicts_34 (by decide) ?_
            refine g_callM C (k_X3_fails l D g A xm _ 1 1 (by decide) (by decide)) gX3_conflicts_X3_fails dX3_conflicts_35 (n := 2) rfl rfl rfl (by decide +kernel) ⟨Nat.le_of_ble_eq_true rfl, Nat.le_of_ble_eq_true rfl⟩ rfl rfl (Nat.le_of_ble_eq_true rfl) ⟨Nat.le_refl _, Nat.le_refl _⟩ (fun r V1 hq => ?_)
            obtain ⟨rfl, rfl⟩ : V1 = u2 (V) 25 0 0 ∧ r = some (.int (nI 0)) := by
              rcases hq with ⟨h7, h8, h1, h2⟩ | ⟨h7, h9, h1, h2⟩ | ⟨h9, h1, h2⟩
              · exact ⟨h1, h2⟩
              · exact absurd h9 (by decide)
              · exact absurd h9 (by decide)
            refine g_if_eq C 43 dX3_conflicts_38 (by decide) (by decide) (fun c38 => ?_) (fun c38 => absurd c38 (by decide))
            refine g_iload_n C dX3_conflicts_43 rfl ?_
            refine g_ifx_ne C 56 dX3_conflicts_44 (by decide) (fun c44 => ?_) (fun c44 => ?_)
            · first | refine g_aload_n C dX3_conflicts_56 rfl ?_ | refine g_aload_nq C _ dX3_conflicts_56 rfl ?_
              refine mg_refusals C i3 (by decide +kernel) dX3_conflicts_57 ?_
              refine g_iload_n C dX3_conflicts_60 rfl ?_
              refine ml_refusals C dX3_conflicts_61 (by omega) ?_
              exact g_iret C dX3_conflicts_62 rfl (⟨_, rfl, Or.inr (Or.inl ⟨c7, (inR_nI hj).mpr c26, rfl, by rw [ix_nI hj]; rfl⟩)⟩)
            · exact absurd c44 c2
        · exact absurd c16 c2
set_option maxRecDepth 100000 in
set_option maxHeartbeats 1000000 in
theorem k_X3_note (l : Launch) (D : va_G) (g : Nat → ClassId) (A : Nat → Prop) (xm : Nat → Nat) (V : VV) {N : Nat} (hB : BdN V N) (hN : N ≤ 2 ^ 30) (hC : V 16 0 ≤ 60) (hM : ∀ j, V 9 j < 16) (x y : Int32) : MC l yX3_note wsX3_note ({ frames := 1, cells := 0, slots := 0, locals := 22 } : Room) D g A xm [.ref (xm 0), .int x, .int y] V (fun r V1 => (inR x (V 16 0) ∧ inR y 4 ∧ (V 8 (ix x) = 0 ∧ 0 < V 6 (ix x)) ∧ V1 = u2 (u2 V 25 0 0) 9 (ix x) (V 9 (ix x) ||| 2 ^ (ix y)) ∧ r = some (.int (nI (vPop (V 9 (ix x) ||| 2 ^ (ix y)) 4)))) ∨ (inR x (V 16 0) ∧ inR y 4 ∧ ¬ (V 8 (ix x) = 0 ∧ 0 < V 6 (ix x)) ∧ V1 = u2 V 25 0 2 ∧ r = some (.int (nI 0))) ∨ (¬ (inR x (V 16 0) ∧ inR y 4) ∧ V1 = u2 V 25 0 1 ∧ r = some (.int (nI 0)))) := by
  refine k_ofW [(0, .ref (xm 0)), (1, .int x), (2, .int y)] (by decide) rfl (Nat.le_of_ble_eq_true rfl) rfl (by simp [Value.category]) ?_
  intro p e s m args below meth c C
  have i3 : ∀ w ∈ wsX30, w ∈ wsX3_note := by decide +kernel
  have loop : ∀ (W : VV) (j k mm : Nat) (hj : j < 60) (hmm : mm < 16) (hw : W 9 j = mm) (hQ : ((fun r V1 => (inR x (V 16 0) ∧ inR y 4 ∧ (V 8 (ix x) = 0 ∧ 0 < V 6 (ix x)) ∧ V1 = u2 (u2 V 25 0 0) 9 (ix x) (V 9 (ix x) ||| 2 ^ (ix y)) ∧ r = some (.int (nI (vPop (V 9 (ix x) ||| 2 ^ (ix y)) 4)))) ∨ (inR x (V 16 0) ∧ inR y 4 ∧ ¬ (V 8 (ix x) = 0 ∧ 0 < V 6 (ix x)) ∧ V1 = u2 V 25 0 2 ∧ r = some (.int (nI 0))) ∨ (¬ (inR x (V 16 0) ∧ inR y 4) ∧ V1 = u2 V 25 0 1 ∧ r = some (.int (nI 0)))) : Option Value → VV → Prop) (some (.int (nI (vPop mm 4)))) W) (n i : Nat), 4 - i = n → i ≤ 4 → GG p l e ({ frames := 1, cells := 0, slots := 0, locals := 22 } : Room) s m args below meth c (mQ below D g A xm args s (fun r V1 => (inR x (V 16 0) ∧ inR y 4 ∧ (V 8 (ix x) = 0 ∧ 0 < V 6 (ix x)) ∧ V1 = u2 (u2 V 25 0 0) 9 (ix x) (V 9 (ix x) ||| 2 ^ (ix y)) ∧ r = some (.int (nI (vPop (V 9 (ix x) ||| 2 ^ (ix y)) 4)))) ∨ (inR x (V 16 0) ∧ inR y 4 ∧ ¬ (V 8 (ix x) = 0 ∧ 0 < V 6 (ix x)) ∧ V1 = u2 V 25 0 2 ∧ r = some (.int (nI 0))) ∨ (¬ (inR x (V 16 0) ∧ inR y 4) ∧ V1 = u2 V 25 0 1 ∧ r = some (.int (nI 0))))) 6 D A s.heap (mW g xm (W)) 0 0 68 [(0, .ref (xm 0)), (1, .int (nI j)), (2, .int (nI k)), (3, .int (nI 1)), (4, .int (nI (vPop mm i))), (5, .int (nI i))] [] := by
    intro W j k mm hj hmm hw hQ n
    induction n using Nat.strongRecOn with
    | _ n ih =>
      intro i hn hi
      refine g_iload C dX3_note_68 rfl ?_
      refine g_iconst C 4 dX3_note_70 (by decide) ?_
      refine g_icmp_ge C 96 dX3_note_71 (by decide) (by omega) (by decide) (fun c71 => ?_) (fun c71 => ?_)
      · refine g_iload C dX3_note_96 rfl ?_
        exact g_iret C dX3_note_98 rfl (⟨W, rfl, (show i = 4 by omega) ▸ hQ⟩)
      · refine g_iload C dX3_note_74 rfl ?_
        first | refine g_aload_n C dX3_note_76 rfl ?_ | refine g_aload_nq C _ dX3_note_76 rfl ?_
        refine mg_notes C i3 (by decide +kernel) dX3_note_77 ?_
        refine g_iload_n C dX3_note_80 rfl ?_
        refine ml_notes C dX3_note_81 (by omega) ?_
        rw [hw]
        refine g_iload C dX3_note_82 rfl ?_
        refine g_ishr C dX3_note_84 ?_
        refine g_iconst C 1 dX3_note_85 (by decide) ?_
        refine g_iand C dX3_note_86 ?_
        refine g_top C (nt_bit mm hmm i (by omega)) ?_
        first | refine g_iadd C dX3_note_87 ?_ | refine g_iaddx C dX3_note_87 ?_
        refine g_istore C dX3_note_88 (by decide) ?_
        refine g_iinc C dX3_note_90 rfl (by decide) ?_
        refine g_goto C 68 dX3_note_93 (by decide) ?_
        exact ih _ (by omega) (i + 1) rfl (by omega)
  first | refine g_aload_n C dX3_note_0 rfl ?_ | refine g_aload_nq C _ dX3_note_0 rfl ?_
  refine g_iload_n C dX3_note_1 rfl ?_
  refine g_callM C (k_X3_isTransaction l D g A xm _ hB hN x) gX3_note_X3_isTransaction dX3_note_2 (n := 1) rfl rfl rfl (by decide +kernel) ⟨Nat.le_of_ble_eq_true rfl, Nat.le_of_ble_eq_true rfl⟩ rfl rfl (Nat.le_of_ble_eq_true rfl) ⟨Nat.le_refl _, Nat.le_refl _⟩ (fun r V1 hq => ?_)
  obtain ⟨e9, hq⟩ := hq
  rw [e9]
  rcases hq with ⟨h2, rfl⟩ | ⟨h2, rfl⟩
  · refine g_if_eq C 21 dX3_note_5 (by decide) (by decide) (fun c5 => absurd c5 (by decide)) (fun c5 => ?_)
    refine g_iload_n C dX3_note_8 rfl ?_
    refine g_ifx_lt C 21 dX3_note_9 (by decide) (fun c9 => ?_) (fun c9 => ?_)
    · refine g_iconst C 0 dX3_note_21 (by decide) ?_
      refine g_istore_n C dX3_note_22 (by decide) ?_
      first | refine g_aload_n C dX3_note_23 rfl ?_ | refine g_aload_nq C _ dX3_note_23 rfl ?_
      refine g_iload_n C dX3_note_24 rfl ?_
      refine g_iload_n C dX3_note_25 rfl ?_
      refine g_if_eq C 41 dX3_note_26 (by decide) (by decide) (fun c26 => ?_) (fun c26 => absurd c26 (by decide))
      refine g_iconst C 0 dX3_note_41 (by decide) ?_
      refine g_callM C (k_X3_fails l D g A xm _ 0 0 (by decide) (by decide)) gX3_note_X3_fails dX3_note_42 (n := 2) rfl rfl rfl (by decide +kernel) ⟨Nat.le_of_ble_eq_true rfl, Nat.le_of_ble_eq_true rfl⟩ rfl rfl (Nat.le_of_ble_eq_true rfl) ⟨Nat.le_refl _, Nat.le_refl _⟩ (fun r V1 hq => ?_)
      obtain ⟨rfl, rfl⟩ : V1 = u2 (V) 25 0 1 ∧ r = some (.int (nI 1)) := by
        rcases hq with ⟨h7, h8, h1, h2⟩ | ⟨h7, h9, h1, h2⟩ | ⟨h9, h1, h2⟩
        · exact absurd h7 (by decide)
        · exact absurd h7 (by decide)
        · exact ⟨h1, h2⟩
      refine g_if_eq C 50 dX3_note_45 (by decide) (by decide) (fun c45 => absurd c45 (by decide)) (fun c45 => ?_)
      refine g_iconst C 0 dX3_note_48 (by decide) ?_
      exact g_iret C dX3_note_49 rfl (⟨_, rfl, Or.inr (Or.inr ⟨fun q => inR_neg c9 q.2, rfl, rfl⟩)⟩)
    · obtain ⟨k, hk, rfl⟩ := nI_of c9
      refine g_iload_n C dX3_note_12 rfl ?_
      refine g_iconst C 4 dX3_note_13 (by decide) ?_
      refine g_icmp_ge C 21 dX3_note_14 (by decide) hk (by decide) (fun c14 => ?_) (fun c14 => ?_)
      · refine g_iconst C 0 dX3_note_21 (by decide) ?_
        refine g_istore_n C dX3_note_22 (by decide) ?_
        first | refine g_aload_n C dX3_note_23 rfl ?_ | refine g_aload_nq C _ dX3_note_23 rfl ?_
        refine g_iload_n C dX3_note_24 rfl ?_
        refine g_iload_n C dX3_note_25 rfl ?_
        refine g_if_eq C 41 dX3_note_26 (by decide) (by decide) (fun c26 => ?_) (fun c26 => absurd c26 (by decide))
        refine g_iconst C 0 dX3_note_41 (by decide) ?_
        refine g_callM C (k_X3_fails l D g A xm _ 0 0 (by decide) (by decide)) gX3_note_X3_fails dX3_note_42 (n := 2) rfl rfl rfl (by decide +kernel) ⟨Nat.le_of_ble_eq_true rfl, Nat.le_of_ble_eq_true rfl⟩ rfl rfl (Nat.le_of_ble_eq_true rfl) ⟨Nat.le_refl _, Nat.le_refl _⟩ (fun r V1 hq => ?_)
        obtain ⟨rfl, rfl⟩ : V1 = u2 (V) 25 0 1 ∧ r = some (.int (nI 1)) := by
          rcases hq with ⟨h7, h8, h1, h2⟩ | ⟨h7, h9, h1, h2⟩ | ⟨h9, h1, h2⟩
          · exact absurd h7 (by decide)
          · exact absurd h7 (by decide)
          · exact ⟨h1, h2⟩
        refine g_if_eq C 50 dX3_note_45 (by decide) (by decide) (fun c45 => absurd c45 (by decide)) (fun c45 => ?_)
        refine g_iconst C 0 dX3_note_48 (by decide) ?_
        exact g_iret C dX3_note_49 rfl (⟨_, rfl, Or.inr (Or.inr ⟨fun q => absurd ((inR_nI hk).mp q.2) (Nat.not_lt.mpr c14), rfl, rfl⟩)⟩)
      · refine g_iconst C 1 dX3_note_17 (by decide) ?_
        refine g_goto C 22 dX3_note_18 (by decide) ?_
        refine g_istore_n C dX3_note_22 (by decide) ?_
        first | refine g_aload_n C dX3_note_23 rfl ?_ | refine g_aload_nq C _ dX3_note_23 rfl ?_
        refine g_iload_n C dX3_note_24 rfl ?_
        refine g_iload_n C dX3_note_25 rfl ?_
        refine g_if_eq C 41 dX3_note_26 (by decide) (by decide) (fun c26 => absurd c26 (by decide)) (fun c26 => ?_)
        obtain ⟨j, hj1, hj, rfl⟩ := inR_ex h2
        first | refine g_aload_n C dX3_note_29 rfl ?_ | refine g_aload_nq C _ dX3_note_29 rfl ?_
        refine g_iload_n C dX3_note_30 rfl ?_
        refine g_callM C (k_X3_canWrite l D g A xm _ hB hN j (by omega)) gX3_note_X3_canWrite dX3_note_31 (n := 1) rfl rfl rfl (by decide +kernel) ⟨Nat.le_of_ble_eq_true rfl, Nat.le_of_ble_eq_true rfl⟩ rfl rfl (Nat.le_of_ble_eq_true rfl) ⟨Nat.le_refl _, Nat.le_refl _⟩ (fun r V1 hq => ?_)
        obtain ⟨e9, hq⟩ := hq
        rw [e9]
        rcases hq with ⟨h31, h31b, rfl⟩ | ⟨h31, rfl⟩
        · refine g_if_eq C 41 dX3_note_34 (by decide) (by decide) (fun c34 => absurd c34 (by decide)) (fun c34 => ?_)
          refine g_iconst C 1 dX3_note_37 (by decide) ?_
          refine g_goto C 42 dX3_note_38 (by decide) ?_
          refine g_callM C (k_X3_fails l D g A xm _ 1 1 (by decide) (by decide)) gX3_note_X3_fails dX3_note_42 (n := 2) rfl rfl rfl (by decide +kernel) ⟨Nat.le_of_ble_eq_true rfl, Nat.le_of_ble_eq_true rfl⟩ rfl rfl (Nat.le_of_ble_eq_true rfl) ⟨Nat.le_refl _, Nat.le_refl _⟩ (fun r V1 hq => ?_)
          obtain ⟨rfl, rfl⟩ : V1 = u2 (V) 25 0 0 ∧ r = some (.int (nI 0)) := by
            rcases hq with ⟨h7, h8, h1, h2⟩ | ⟨h7, h9, h1, h2⟩ | ⟨h9, h1, h2⟩
            · exact ⟨h1, h2⟩
            · exact absurd h9 (by decide)
            · exact absurd h9 (by decide)
          refine g_if_eq C 50 dX3_note_45 (by decide) (by decide) (fun c45 => ?_) (fun c45 => absurd c45 (by decide))
          first | refine g_aload_n C dX3_note_50 rfl ?_ | refine g_aload_nq C _ dX3_note_50 rfl ?_
          refine mg_notes C i3 (by decide +kernel) dX3_note_51 ?_
          refine g_iload_n C dX3_note_54 rfl ?_
          refine g_dup2 C dX3_note_55 (by first | rfl | exact vcat_rf _) (by first | rfl | exact vcat_rf _) ?_
          refine ml_notes C dX3_note_56 (by omega) ?_
          refine g_iconst C 1 dX3_note_57 (by decide) ?_
          refine g_iload_n C dX3_note_58 rfl ?_
          refine g_ishl C dX3_note_59 ?_
          refine g_ior C dX3_note_60 ?_
          refine g_top C (nt_or _ (hM j) k c14) ?_
          refine ms_notes C dX3_note_61 (by omega) ?_
          refine g_iconst C 0 dX3_note_62 (by decide) ?_
          refine g_istore C dX3_note_63 (by decide) ?_
          refine g_iconst C 0 dX3_note_65 (by decide) ?_
          refine g_istore C dX3_note_66 (by decide) ?_
          exact loop _ j k (V 9 j ||| 2 ^ k) (by omega) (nt_or16 _ (hM j) k c14) (u2_same _ _ _ _) (Or.inl ⟨h2, (inR_nI hk).mpr c14, by rw [ix_nI hj]; exact ⟨h31, h31b⟩, by rw [ix_nI hj, ix_nI hk], by rw [ix_nI hj, ix_nI hk]⟩) _ 0 rfl (by omega)
        · refine g_if_eq C 41 dX3_note_34 (by decide) (by decide) (fun c34 => ?_) (fun c34 => absurd c34 (by decide))
          refine g_iconst C 0 dX3_note_41 (by decide) ?_
          refine g_callM C (k_X3_fails l D g A xm _ 1 0 (by decide) (by decide)) gX3_note_X3_fails dX3_note_42 (n := 2) rfl rfl rfl (by decide +kernel) ⟨Nat.le_of_ble_eq_true rfl, Nat.le_of_ble_eq_true rfl⟩ rfl rfl (Nat.le_of_ble_eq_true rfl) ⟨Nat.le_refl _, Nat.le_refl _⟩ (fun r V1 hq => ?_)
          obtain ⟨rfl, rfl⟩ : V1 = u2 (V) 25 0 2 ∧ r = some (.int (nI 1)) := by
            rcases hq with ⟨h7, h8, h1, h2⟩ | ⟨h7, h9, h1, h2⟩ | ⟨h9, h1, h2⟩
            · exact absurd h8 (by decide)
            · exact ⟨h1, h2⟩
            · exact absurd h9 (by decide)
          refine g_if_eq C 50 dX3_note_45 (by decide) (by decide) (fun c45 => absurd c45 (by decide)) (fun c45 => ?_)
          refine g_iconst C 0 dX3_note_48 (by decide) ?_
          exact g_iret C dX3_note_49 rfl (⟨_, rfl, Or.inr (Or.inl ⟨h2, (inR_nI hk).mpr c14, by rw [ix_nI hj]; exact h31, rfl, rfl⟩)⟩)
  · refine g_if_eq C 21 dX3_note_5 (by decide) (by decide) (fun c5 => ?_) (fun c5 => absurd c5 (by decide))
    refine g_iconst C 0 dX3_note_21 (by decide) ?_
    refine g_istore_n C dX3_note_22 (by decide) ?_
    first | refine g_aload_n C dX3_note_23 rfl ?_ | refine g_aload_nq C _ dX3_note_23 rfl ?_
    refine g_iload_n C dX3_note_24 rfl ?_
    refine g_iload_n C dX3_note_25 rfl ?_
    refine g_if_eq C 41 dX3_note_26 (by decide) (by decide) (fun c26 => ?_) (fun c26 => absurd c26 (by decide))
    refine g_iconst C 0 dX3_note_41 (by decide) ?_
    refine g_callM C (k_X3_fails l D g A xm _ 0 0 (by decide) (by decide)) gX3_note_X3_fails dX3_note_42 (n := 2) rfl rfl rfl (by decide +kernel) ⟨Nat.le_of_ble_eq_true rfl, Nat.le_of_ble_eq_true rfl⟩ rfl rfl (Nat.le_of_ble_eq_true rfl) ⟨Nat.le_refl _, Nat.le_refl _⟩ (fun r V1 hq => ?_)
    obtain ⟨rfl, rfl⟩ : V1 = u2 (V) 25 0 1 ∧ r = some (.int (nI 1)) := by
      rcases hq with ⟨h7, h8, h1, h2⟩ | ⟨h7, h9, h1, h2⟩ | ⟨h9, h1, h2⟩
      · exact absurd h7 (by decide)
      · exact absurd h7 (by decide)
      · exact ⟨h1, h2⟩
    refine g_if_eq C 50 dX3_note_45 (by decide) (by decide) (fun c45 => absurd c45 (by decide)) (fun c45 => ?_)
    refine g_iconst C 0 dX3_note_48 (by decide) ?_
    exact g_iret C dX3_note_49 rfl (⟨_, rfl, Or.inr (Or.inr ⟨fun q => h2 q.1, rfl, rfl⟩)⟩)
