set_option maxRecDepth 100000 in
set_option maxHeartbeats 1000000 in
theorem k_X3_put (l : Launch) (D : va_G) (g : Nat → ClassId) (A : Nat → Prop) (xm : Nat → Nat) (V : VV) {N : Nat} (hB : BdN V N) (hN : N ≤ 2 ^ 30) (hN2 : 20000 ≤ N) (hI : Iv V) (hN4 : N + 4000 ≤ 2 ^ 30) (x y : Int32) (b : Nat) (hb : b ≤ 1) : MC l yX3_put wsX3_put ({ frames := 5, cells := 0, slots := 0, locals := 118 } : Room) D g A xm [.ref (xm 0), .int x, .int y, .int (nI b)] V (fun r V1 => (inR x (V 16 0) ∧ inR y 200 ∧ (V 8 (ix x) = 0 ∧ 0 < V 6 (ix x)) ∧ V1 = vGoA (vWr (u2 V 25 0 0) (ix x) (ix y) b) ∧ r = some (.int (putAns (V1 8 (ix x))))) ∨ (inR x (V 16 0) ∧ inR y 200 ∧ ¬ (V 8 (ix x) = 0 ∧ 0 < V 6 (ix x)) ∧ V1 = u2 V 25 0 2 ∧ r = some (.int (nI 0))) ∨ (¬ (inR x (V 16 0) ∧ inR y 200) ∧ V1 = u2 V 25 0 1 ∧ r = some (.int (nI 0)))) := by
  refine k_ofW [(0, .ref (xm 0)), (1, .int x), (2, .int y), (3, .int (nI b))] (by decide) rfl (Nat.le_of_ble_eq_true rfl) rfl (by simp [Value.category]) ?_
  intro p e s m args below meth c C
  have i3 : ∀ w ∈ wsX30, w ∈ wsX3_put := by decide +kernel
  have hC := hI.1
  have hq := hI.q
  have hr := hI.rows
  first | refine g_aload_n C dX3_put_0 rfl ?_ | refine g_aload_nq C _ dX3_put_0 rfl ?_
  refine g_iload_n C dX3_put_1 rfl ?_
  refine g_callM C (k_X3_isTransaction l D g A xm _ hB hN x) gX3_put_X3_isTransaction dX3_put_2 (n := 1) rfl rfl rfl (by decide +kernel) ⟨Nat.le_of_ble_eq_true rfl, Nat.le_of_ble_eq_true rfl⟩ rfl rfl (Nat.le_of_ble_eq_true rfl) ⟨Nat.le_refl _, Nat.le_refl _⟩ (fun r V1 hq => ?_)
  obtain ⟨e9, hq⟩ := hq
  rw [e9]
  rcases hq with ⟨h2, rfl⟩ | ⟨h2, rfl⟩
  · refine g_if_eq C 19 dX3_put_5 (by decide) (by decide) (fun c5 => absurd c5 (by decide)) (fun c5 => ?_)
    refine g_iload_n C dX3_put_8 rfl ?_
    refine g_callMS C (k_X3_isTriple l D g A xm _ y) gX3_put_X3_isTriple dX3_put_9 (n := 1) rfl rfl rfl (by decide +kernel) ⟨Nat.le_of_ble_eq_true rfl, Nat.le_of_ble_eq_true rfl⟩ rfl rfl (Nat.le_of_ble_eq_true rfl) ⟨Nat.le_refl _, Nat.le_refl _⟩ (fun r V1 hq => ?_)
    obtain ⟨e9, hq⟩ := hq
    rw [e9]
    rcases hq with ⟨h9, rfl⟩ | ⟨h9, rfl⟩
    · refine g_if_eq C 19 dX3_put_12 (by decide) (by decide) (fun c12 => absurd c12 (by decide)) (fun c12 => ?_)
      refine g_iconst C 1 dX3_put_15 (by decide) ?_
      refine g_goto C 20 dX3_put_16 (by decide) ?_
      refine g_istore C dX3_put_20 (by decide) ?_
      first | refine g_aload_n C dX3_put_22 rfl ?_ | refine g_aload_nq C _ dX3_put_22 rfl ?_
      refine g_iload C dX3_put_23 rfl ?_
      refine g_iload C dX3_put_25 rfl ?_
      refine g_if_eq C 42 dX3_put_27 (by decide) (by decide) (fun c27 => absurd c27 (by decide)) (fun c27 => ?_)
      obtain ⟨j, hj1, hj, rfl⟩ := inR_ex h2
      obtain ⟨k, hk1, hk, rfl⟩ := inR_ex h9
      first | refine g_aload_n C dX3_put_30 rfl ?_ | refine g_aload_nq C _ dX3_put_30 rfl ?_
      refine g_iload_n C dX3_put_31 rfl ?_
      refine g_callM C (k_X3_canWrite l D g A xm _ hB hN j (by omega)) gX3_put_X3_canWrite dX3_put_32 (n := 1) rfl rfl rfl (by decide +kernel) ⟨Nat.le_of_ble_eq_true rfl, Nat.le_of_ble_eq_true rfl⟩ rfl rfl (Nat.le_of_ble_eq_true rfl) ⟨Nat.le_refl _, Nat.le_refl _⟩ (fun r V1 hq => ?_)
      obtain ⟨e9, hq⟩ := hq
      rw [e9]
      rcases hq with ⟨h32, h32b, rfl⟩ | ⟨h32, rfl⟩
      · refine g_if_eq C 42 dX3_put_35 (by decide) (by decide) (fun c35 => absurd c35 (by decide)) (fun c35 => ?_)
        refine g_iconst C 1 dX3_put_38 (by decide) ?_
        refine g_goto C 43 dX3_put_39 (by decide) ?_
        refine g_callM C (k_X3_fails l D g A xm _ 1 1 (by decide) (by decide)) gX3_put_X3_fails dX3_put_43 (n := 2) rfl rfl rfl (by decide +kernel) ⟨Nat.le_of_ble_eq_true rfl, Nat.le_of_ble_eq_true rfl⟩ rfl rfl (Nat.le_of_ble_eq_true rfl) ⟨Nat.le_refl _, Nat.le_refl _⟩ (fun r V1 hq => ?_)
        obtain ⟨rfl, rfl⟩ : V1 = u2 (V) 25 0 0 ∧ r = some (.int (nI 0)) := by
          rcases hq with ⟨h7, h8, h1, h2⟩ | ⟨h7, h9, h1, h2⟩ | ⟨h9, h1, h2⟩
          · exact ⟨h1, h2⟩
          · exact absurd h9 (by decide)
          · exact absurd h9 (by decide)
        refine g_if_eq C 51 dX3_put_46 (by decide) (by decide) (fun c46 => ?_) (fun c46 => absurd c46 (by decide))
        have hI0 : Iv (u2 V 25 0 0) := hI
        have hI1 := hI0.wrV (t := j) (k := k) (b := b) hj1 (show V 8 j < 3 by omega) hk1 hb
        have hB1 := BdN.wrV (t := j) (k := k) (b := b) (hB.up (k := 25) (i := 0) (v := 0) (by omega)) hC (by show V 20 0 + 60 ≤ 4000; omega) hN2 (by omega) hk1 hb
        have hB2 := BdN.goA hI1 hB1 (by omega)
        first | refine g_aload_n C dX3_put_51 rfl ?_ | refine g_aload_nq C _ dX3_put_51 rfl ?_
        refine g_iload_n C dX3_put_52 rfl ?_
        refine g_iload_n C dX3_put_53 rfl ?_
        refine g_iload_n C dX3_put_54 rfl ?_
        refine g_callM C (k_X3_write l D g A xm _ (hB.up (k := 25) (i := 0) (v := 0) (by omega)) hN hN2 hC (by show V 20 0 + 60 ≤ 4000; omega) hI.2.1 hI.2.2.1 (by show V 3 0 ≤ 13000; omega) (by omega) j k b hj1 hk1 hb) gX3_put_X3_write dX3_put_55 (n := 3) rfl rfl rfl (by decide +kernel) ⟨Nat.le_of_ble_eq_true rfl, Nat.le_of_ble_eq_true rfl⟩ rfl rfl (Nat.le_of_ble_eq_true rfl) ⟨Nat.le_refl _, Nat.le_refl _⟩ (fun r V1 hq => ?_)
        obtain ⟨rfl, rfl⟩ := hq
        first | refine g_aload_n C dX3_put_58 rfl ?_ | refine g_aload_nq C _ dX3_put_58 rfl ?_
        refine g_callM C (k_X3_goOn l D g A xm _ hB1 (by omega) (by omega) hI1 (by omega)) gX3_put_X3_goOn dX3_put_59 (n := 0) rfl rfl rfl (by decide +kernel) ⟨Nat.le_of_ble_eq_true rfl, Nat.le_of_ble_eq_true rfl⟩ rfl rfl (Nat.le_of_ble_eq_true rfl) ⟨Nat.le_refl _, Nat.le_refl _⟩ (fun r V1 hq => ?_)
        obtain ⟨rfl, rfl⟩ := hq
        first | refine g_aload_n C dX3_put_62 rfl ?_ | refine g_aload_nq C _ dX3_put_62 rfl ?_
        refine mg_states C i3 (by decide +kernel) dX3_put_63 ?_
        refine g_iload_n C dX3_put_66 rfl ?_
        refine ml_states C dX3_put_67 (by omega) ?_
        refine g_istore C dX3_put_68 (by decide) ?_
        refine g_iload C dX3_put_70 rfl ?_
        refine g_if_ne C 79 dX3_put_72 (by decide) (bd hB2 (by omega) _ _) (fun c72 => ?_) (fun c72 => ?_)
        · refine g_iload C dX3_put_79 rfl ?_
          refine g_iconst C 1 dX3_put_81 (by decide) ?_
          refine g_icmp_ne C 89 dX3_put_82 (by decide) (bd hB2 (by omega) _ _) (by decide) (fun c82 => ?_) (fun c82 => ?_)
          · refine g_iload C dX3_put_89 rfl ?_
            refine g_iconst C 2 dX3_put_91 (by decide) ?_
            refine g_icmp_ne C 99 dX3_put_92 (by decide) (bd hB2 (by omega) _ _) (by decide) (fun c92 => ?_) (fun c92 => ?_)
            · refine g_bipushx C dX3_put_99 rfl ?_
              exact g_iret C dX3_put_101 rfl (⟨_, rfl, Or.inl ⟨h2, h9, by rw [ix_nI hj]; exact ⟨h32, h32b⟩, by rw [ix_nI hj, ix_nI hk], by rw [ix_nI hj]; unfold putAns; rw [if_neg (by omega), if_neg c82, if_neg c92] <;> rfl⟩⟩)
            · refine g_iconstm C dX3_put_95 ?_
              refine g_goto C 101 dX3_put_96 (by decide) ?_
              exact g_iret C dX3_put_101 rfl (⟨_, rfl, Or.inl ⟨h2, h9, by rw [ix_nI hj]; exact ⟨h32, h32b⟩, by rw [ix_nI hj, ix_nI hk], by rw [ix_nI hj]; unfold putAns; rw [if_neg (by omega), if_neg (by omega), if_pos c92] <;> rfl⟩⟩)
          · refine g_iconst C 0 dX3_put_85 (by decide) ?_
            refine g_goto C 101 dX3_put_86 (by decide) ?_
            exact g_iret C dX3_put_101 rfl (⟨_, rfl, Or.inl ⟨h2, h9, by rw [ix_nI hj]; exact ⟨h32, h32b⟩, by rw [ix_nI hj, ix_nI hk], by rw [ix_nI hj]; unfold putAns; rw [if_neg (by omega), if_pos c82] <;> rfl⟩⟩)
        · refine g_iconst C 1 dX3_put_75 (by decide) ?_
          refine g_goto C 101 dX3_put_76 (by decide) ?_
          exact g_iret C dX3_put_101 rfl (⟨_, rfl, Or.inl ⟨h2, h9, by rw [ix_nI hj]; exact ⟨h32, h32b⟩, by rw [ix_nI hj, ix_nI hk], by rw [ix_nI hj]; unfold putAns; rw [if_pos c72] <;> rfl⟩⟩)
      · refine g_if_eq C 42 dX3_put_35 (by decide) (by decide) (fun c35 => ?_) (fun c35 => absurd c35 (by decide))
        refine g_iconst C 0 dX3_put_42 (by decide) ?_
        refine g_callM C (k_X3_fails l D g A xm _ 1 0 (by decide) (by decide)) gX3_put_X3_fails dX3_put_43 (n := 2) rfl rfl rfl (by decide +kernel) ⟨Nat.le_of_ble_eq_true rfl, Nat.le_of_ble_eq_true rfl⟩ rfl rfl (Nat.le_of_ble_eq_true rfl) ⟨Nat.le_refl _, Nat.le_refl _⟩ (fun r V1 hq => ?_)
        obtain ⟨rfl, rfl⟩ : V1 = u2 (V) 25 0 2 ∧ r = some (.int (nI 1)) := by
          rcases hq with ⟨h7, h8, h1, h2⟩ | ⟨h7, h9, h1, h2⟩ | ⟨h9, h1, h2⟩
          · exact absurd h8 (by decide)
          · exact ⟨h1, h2⟩
          · exact absurd h9 (by decide)
        refine g_if_eq C 51 dX3_put_46 (by decide) (by decide) (fun c46 => absurd c46 (by decide)) (fun c46 => ?_)
        refine g_iconst C 0 dX3_put_49 (by decide) ?_
        exact g_iret C dX3_put_50 rfl (⟨_, rfl, Or.inr (Or.inl ⟨h2, h9, by rw [ix_nI hj]; exact h32, rfl, rfl⟩)⟩)
    · refine g_if_eq C 19 dX3_put_12 (by decide) (by decide) (fun c12 => ?_) (fun c12 => absurd c12 (by decide))
      refine g_iconst C 0 dX3_put_19 (by decide) ?_
      refine g_istore C dX3_put_20 (by decide) ?_
      first | refine g_aload_n C dX3_put_22 rfl ?_ | refine g_aload_nq C _ dX3_put_22 rfl ?_
      refine g_iload C dX3_put_23 rfl ?_
      refine g_iload C dX3_put_25 rfl ?_
      refine g_if_eq C 42 dX3_put_27 (by decide) (by decide) (fun c27 => ?_) (fun c27 => absurd c27 (by decide))
      refine g_iconst C 0 dX3_put_42 (by decide) ?_
      refine g_callM C (k_X3_fails l D g A xm _ 0 0 (by decide) (by decide)) gX3_put_X3_fails dX3_put_43 (n := 2) rfl rfl rfl (by decide +kernel) ⟨Nat.le_of_ble_eq_true rfl, Nat.le_of_ble_eq_true rfl⟩ rfl rfl (Nat.le_of_ble_eq_true rfl) ⟨Nat.le_refl _, Nat.le_refl _⟩ (fun r V1 hq => ?_)
      obtain ⟨rfl, rfl⟩ : V1 = u2 (V) 25 0 1 ∧ r = some (.int (nI 1)) := by
        rcases hq with ⟨h7, h8, h1, h2⟩ | ⟨h7, h9, h1, h2⟩ | ⟨h9, h1, h2⟩
        · exact absurd h7 (by decide)
        · exact absurd h7 (by decide)
        · exact ⟨h1, h2⟩
      refine g_if_eq C 51 dX3_put_46 (by decide) (by decide) (fun c46 => absurd c46 (by decide)) (fun c46 => ?_)
      refine g_iconst C 0 dX3_put_49 (by decide) ?_
      exact g_iret C dX3_put_50 rfl (⟨_, rfl, Or.inr (Or.inr ⟨fun q => h9 q.2, rfl, rfl⟩)⟩)
  · refine g_if_eq C 19 dX3_put_5 (by decide) (by decide) (fun c5 => ?_) (fun c5 => absurd c5 (by decide))
    refine g_iconst C 0 dX3_put_19 (by decide) ?_
    refine g_istore C dX3_put_20 (by decide) ?_
    first | refine g_aload_n C dX3_put_22 rfl ?_ | refine g_aload_nq C _ dX3_put_22 rfl ?_
    refine g_iload C dX3_put_23 rfl ?_
    refine g_iload C dX3_put_25 rfl ?_
    refine g_if_eq C 42 dX3_put_27 (by decide) (by decide) (fun c27 => ?_) (fun c27 => absurd c27 (by decide))
    refine g_iconst C 0 dX3_put_42 (by decide) ?_
    refine g_callM C (k_X3_fails l D g A xm _ 0 0 (by decide) (by decide)) gX3_put_X3_fails dX3_put_43 (n := 2) rfl rfl rfl (by decide +kernel) ⟨Nat.le_of_ble_eq_true rfl, Nat.le_of_ble_eq_true rfl⟩ rfl rfl (Nat.le_of_ble_eq_true rfl) ⟨Nat.le_refl _, Nat.le_refl _⟩ (fun r V1 hq => ?_)
    obtain ⟨rfl, rfl⟩ : V1 = u2 (V) 25 0 1 ∧ r = some (.int (nI 1)) := by
      rcases hq with ⟨h7, h8, h1, h2⟩ | ⟨h7, h9, h1, h2⟩ | ⟨h9, h1, h2⟩
      · exact absurd h7 (by decide)
      · exact absurd h7 (by decide)
      · exact ⟨h1, h2⟩
    refine g_if_eq C 51 dX3_put_46 (by decide) (by decide) (fun c46 => absurd c46 (by decide)) (fun c46 => ?_)
    refine g_iconst C 0 dX3_put_49 (by decide) ?_
    exact g_iret C dX3_put_50 rfl (⟨_, rfl, Or.inr (Or.inr ⟨fun q => h2 q.1, rfl, rfl⟩)⟩)
set_option maxRecDepth 100000 in
set_option maxHeartbeats 1000000 in
theorem k_X3_abort (l : Launch) (D : va_G) (g : Nat → ClassId) (A : Nat → Prop) (xm : Nat → Nat) (V : VV) {N : Nat} (hB : BdN V N) (hN : N ≤ 2 ^ 30) (hN2 : 20000 ≤ N) (hI : Iv V) (hN4 : N + 4000 ≤ 2 ^ 30) (x : Int32) : MC l yX3_abort wsX3_abort ({ frames := 5, cells := 0, slots := 0, locals := 118 } : Room) D g A xm [.ref (xm 0), .int x] V (fun r V1 => (inR x (V 16 0) ∧ V 8 (ix x) < 3 ∧ V1 = vGoA (vEnd (u2 V 25 0 0) (ix x) 4) ∧ r = some (.int (nI (vWc V1 (ix x) 200)))) ∨ (inR x (V 16 0) ∧ 3 ≤ V 8 (ix x) ∧ V1 = u2 V 25 0 2 ∧ r = some (.int (nI 0))) ∨ (¬ inR x (V 16 0) ∧ V1 = u2 V 25 0 1 ∧ r = some (.int (nI 0)))) := by
  refine k_ofW [(0, .ref (xm 0)), (1, .int x)] (by decide) rfl (Nat.le_of_ble_eq_true rfl) rfl (by simp [Value.category]) ?_
  intro p e s m args below meth c C
  have i3 : ∀ w ∈ wsX30, w ∈ wsX3_abort := by decide +kernel
  have hC := hI.1
  have hq := hI.q
  first | refine g_aload_n C dX3_abort_0 rfl ?_ | refine g_aload_nq C _ dX3_abort_0 rfl ?_
  refine g_iload_n C dX3_abort_1 rfl ?_
  refine g_callM C (k_X3_isTransaction l D g A xm _ hB hN x) gX3_abort_X3_isTransaction dX3_abort_2 (n := 1) rfl rfl rfl (by decide +kernel) ⟨Nat.le_of_ble_eq_true rfl, Nat.le_of_ble_eq_true rfl⟩ rfl rfl (Nat.le_of_ble_eq_true rfl) ⟨Nat.le_refl _, Nat.le_refl _⟩ (fun r V1 hq => ?_)
  obtain ⟨e9, hq⟩ := hq
  rw [e9]
  rcases hq with ⟨h2, rfl⟩ | ⟨h2, rfl⟩
  · refine g_istore_n C dX3_abort_5 (by decide) ?_
    first | refine g_aload_n C dX3_abort_6 rfl ?_ | refine g_aload_nq C _ dX3_abort_6 rfl ?_
    refine g_iload_n C dX3_abort_7 rfl ?_
    refine g_iload_n C dX3_abort_8 rfl ?_
    refine g_if_eq C 24 dX3_abort_9 (by decide) (by decide) (fun c9 => absurd c9 (by decide)) (fun c9 => ?_)
    obtain ⟨j, hj1, hj, rfl⟩ := inR_ex h2
    first | refine g_aload_n C dX3_abort_12 rfl ?_ | refine g_aload_nq C _ dX3_abort_12 rfl ?_
    refine g_iload_n C dX3_abort_13 rfl ?_
    refine g_callM C (k_X3_isLive l D g A xm _ hB hN j (by omega)) gX3_abort_X3_isLive dX3_abort_14 (n := 1) rfl rfl rfl (by decide +kernel) ⟨Nat.le_of_ble_eq_true rfl, Nat.le_of_ble_eq_true rfl⟩ rfl rfl (Nat.le_of_ble_eq_true rfl) ⟨Nat.le_refl _, Nat.le_refl _⟩ (fun r V1 hq => ?_)
    obtain ⟨e9, hq⟩ := hq
    rw [e9]
    rcases hq with ⟨h14, rfl⟩ | ⟨h14, rfl⟩
    · refine g_if_eq C 24 dX3_abort_17 (by decide) (by decide) (fun c17 => absurd c17 (by decide)) (fun c17 => ?_)
      refine g_iconst C 1 dX3_abort_20 (by decide) ?_
      refine g_goto C 25 dX3_abort_21 (by decide) ?_
      refine g_callM C (k_X3_fails l D g A xm _ 1 1 (by decide) (by decide)) gX3_abort_X3_fails dX3_abort_25 (n := 2) rfl rfl rfl (by decide +kernel) ⟨Nat.le_of_ble_eq_true rfl, Nat.le_of_ble_eq_true rfl⟩ rfl rfl (Nat.le_of_ble_eq_true rfl) ⟨Nat.le_refl _, Nat.le_refl _⟩ (fun r V1 hq => ?_)
      obtain ⟨rfl, rfl⟩ : V1 = u2 (V) 25 0 0 ∧ r = some (.int (nI 0)) := by
        rcases hq with ⟨h7, h8, h1, h2⟩ | ⟨h7, h9, h1, h2⟩ | ⟨h9, h1, h2⟩
        · exact ⟨h1, h2⟩
        · exact absurd h9 (by decide)
        · exact absurd h9 (by decide)
      refine g_if_eq C 33 dX3_abort_28 (by decide) (by decide) (fun c28 => ?_) (fun c28 => absurd c28 (by decide))
      have hI0 : Iv (u2 V 25 0 0) := hI
      have hI1 := hI0.endV (t := j) (z := 4) hj1 h14 (by decide)
      have hB1 := BdN.endV (t := j) (z := 4) (hB.up (k := 25) (i := 0) (v := 0) (by omega)) hC (by show V 20 0 + 60 ≤ 4000; omega) hN2 (by decide)
      have hB2 := BdN.goA hI1 hB1 hN2
      first | refine g_aload_n C dX3_abort_33 rfl ?_ | refine g_aload_nq C _ dX3_abort_33 rfl ?_
      refine g_iload_n C dX3_abort_34 rfl ?_
      refine g_iconst C 4 dX3_abort_35 (by decide) ?_
      refine g_callM C (k_X3_end l D g A xm _ (hB.up (k := 25) (i := 0) (v := 0) (by omega)) hN hN2 hC (by show V 20 0 + 60 ≤ 4000; omega) j 4 (by omega) (by decide)) gX3_abort_X3_end dX3_abort_36 (n := 2) rfl rfl rfl (by decide +kernel) ⟨Nat.le_of_ble_eq_true rfl, Nat.le_of_ble_eq_true rfl⟩ rfl rfl (Nat.le_of_ble_eq_true rfl) ⟨Nat.le_refl _, Nat.le_refl _⟩ (fun r V1 hq => ?_)
      obtain ⟨rfl, rfl⟩ := hq
      first | refine g_aload_n C dX3_abort_39 rfl ?_ | refine g_aload_nq C _ dX3_abort_39 rfl ?_
      refine g_callM C (k_X3_goOn l D g A xm _ hB1 hN hN2 hI1 (by omega)) gX3_abort_X3_goOn dX3_abort_40 (n := 0) rfl rfl rfl (by decide +kernel) ⟨Nat.le_of_ble_eq_true rfl, Nat.le_of_ble_eq_true rfl⟩ rfl rfl (Nat.le_of_ble_eq_true rfl) ⟨Nat.le_refl _, Nat.le_refl _⟩ (fun r V1 hq => ?_)
      obtain ⟨rfl, rfl⟩ := hq
      first | refine g_aload_n C dX3_abort_43 rfl ?_ | refine g_aload_nq C _ dX3_abort_43 rfl ?_
      refine g_iload_n C dX3_abort_44 rfl ?_
      refine g_callM C (k_X3_writes l D g A xm _ hB2 (by omega) j (by omega)) gX3_abort_X3_writes dX3_abort_45 (n := 1) rfl rfl rfl (by decide +kernel) ⟨Nat.le_of_ble_eq_true rfl, Nat.le_of_ble_eq_true rfl⟩ rfl rfl (Nat.le_of_ble_eq_true rfl) ⟨Nat.le_refl _, Nat.le_refl _⟩ (fun r V1 hq => ?_)
      obtain ⟨e9, rfl⟩ := hq
      rw [e9]
      exact g_iret C dX3_abort_48 rfl (⟨_, rfl, Or.inl ⟨h2, by rw [ix_nI hj]; exact h14, by rw [ix_nI hj], by rw [ix_nI hj]⟩⟩)
    · refine g_if_eq C 24 dX3_abort_17 (by decide) (by decide) (fun c17 => ?_) (fun c17 => absurd c17 (by decide))
      refine g_iconst C 0 dX3_abort_24 (by decide) ?_
      refine g_callM C (k_X3_fails l D g A xm _ 1 0 (by decide) (by decide)) gX3_abort_X3_fails dX3_abort_25 (n := 2) rfl rfl rfl (by decide +kernel) ⟨Nat.le_of_ble_eq_true rfl, Nat.le_of_ble_eq_true rfl⟩ rfl rfl (Nat.le_of_ble_eq_true rfl) ⟨Nat.le_refl _, Nat.le_refl _⟩ (fun r V1 hq => ?_)
      obtain ⟨rfl, rfl⟩ : V1 = u2 (V) 25 0 2 ∧ r = some (.int (nI 1)) := by
        rcases hq with ⟨h7, h8, h1, h2⟩ | ⟨h7, h9, h1, h2⟩ | ⟨h9, h1, h2⟩
        · exact absurd h8 (by decide)
        · exact ⟨h1, h2⟩
        · exact absurd h9 (by decide)
      refine g_if_eq C 33 dX3_abort_28 (by decide) (by decide) (fun c28 => absurd c28 (by decide)) (fun c28 => ?_)
      refine g_iconst C 0 dX3_abort_31 (by decide) ?_
      exact g_iret C dX3_abort_32 rfl (⟨_, rfl, Or.inr (Or.inl ⟨h2, by rw [ix_nI hj]; exact h14, rfl, rfl⟩)⟩)
  · refine g_istore_n C dX3_abort_5 (by decide) ?_
    first | refine g_aload_n C dX3_abort_6 rfl ?_ | refine g_aload_nq C _ dX3_abort_6 rfl ?_
    refine g_iload_n C dX3_abort_7 rfl ?_
    refine g_iload_n C dX3_abort_8 rfl ?_
    refine g_if_eq C 24 dX3_abort_9 (by decide) (by decide) (fun c9 => ?_) (fun c9 => absurd c9 (by decide))
    refine g_iconst C 0 dX3_abort_24 (by decide) ?_
    refine g_callM C (k_X3_fails l D g A xm _ 0 0 (by decide) (by decide)) gX3_abort_X3_fails dX3_abort_25 (n := 2) rfl rfl rfl (by decide +kernel) ⟨Nat.le_of_ble_eq_true rfl, Nat.le_of_ble_eq_true rfl⟩ rfl rfl (Nat.le_of_ble_eq_true rfl) ⟨Nat.le_refl _, Nat.le_refl _⟩ (fun r V1 hq => ?_)
    obtain ⟨rfl, rfl⟩ : V1 = u2 (V) 25 0 1 ∧ r = some (.int (nI 1)) := by
      rcases hq with ⟨h7, h8, h1, h2⟩ | ⟨h7, h9, h1, h2⟩ | ⟨h9, h1, h2⟩
      · exact absurd h7 (by decide)
      · exact absurd h7 (by decide)
      · exact ⟨h1, h2⟩
    refine g_if_eq C 33 dX3_abort_28 (by decide) (by decide) (fun c28 => absurd c28 (by decide)) (fun c28 => ?_)
    refine g_iconst C 0 dX3_abort_31 (by decide) ?_
    exact g_iret C dX3_abort_32 rfl (⟨_, rfl, Or.inr (Or.inr ⟨h2, rfl, rfl⟩)⟩)
