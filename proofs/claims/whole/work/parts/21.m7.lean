set_option maxRecDepth 100000 in
set_option maxHeartbeats 1000000 in
theorem k_X3_write (l : Launch) (D : va_G) (g : Nat → ClassId) (A : Nat → Prop) (xm : Nat → Nat) (V : VV) {N : Nat} (hB : BdN V N) (hN : N ≤ 2 ^ 30) (hN2 : 20000 ≤ N) (hC : V 16 0 ≤ 60) (hQ : V 20 0 + 60 ≤ 4000) (hW : ∀ i, i < V 16 0 → V 8 i = 1 → 0 < V 11 i ∧ V 11 i ≤ V 16 0 ∧ V 12 i < 200 ∧ V 13 i ≤ 1) (hH : ∀ k, k < 200 → V 17 k ≤ V 16 0) (hR : V 3 0 ≤ 13000) (hN3 : N + 1 ≤ 2 ^ 30) (t k b : Nat) (ht : t < V 16 0) (hk : k < 200) (hb : b ≤ 1) : MC l yX3_write wsX3_write ({ frames := 3, cells := 0, slots := 0, locals := 74 } : Room) D g A xm [.ref (xm 0), .int (nI t), .int (nI k), .int (nI b)] V (fun r V1 => V1 = vWr V t k b ∧ r = none) := by
  refine k_ofW [(0, .ref (xm 0)), (1, .int (nI t)), (2, .int (nI k)), (3, .int (nI b))] (by decide) rfl (Nat.le_of_ble_eq_true rfl) rfl (by simp [Value.category]) ?_
  intro p e s m args below meth c C
  have i3 : ∀ w ∈ wsX30, w ∈ wsX3_write := by decide +kernel
  have hBU : BdN (u2 (u2 V 11 t 0) 8 t 0) N := (hB.up (by omega)).up (by omega)
  have h7 := hB 7 t
  have h17 := hB 17 k
  have hHk := hH k hk
  have hab : ∀ n, vAb (u2 (u2 V 11 t 0) 8 t 0) k (V 7 t) n = vAb V k (V 7 t) n := vAb_cong rfl rfl
  first | refine g_aload_n C dX3_write_0 rfl ?_ | refine g_aload_nq C _ dX3_write_0 rfl ?_
  refine mg_waitsFor C i3 (by decide +kernel) dX3_write_1 ?_
  refine g_iload_n C dX3_write_4 rfl ?_
  refine g_iconstm C dX3_write_5 ?_
  refine ms_waitsFor C 0 (by decide) dX3_write_6 (by omega) ?_
  first | refine g_aload_n C dX3_write_7 rfl ?_ | refine g_aload_nq C _ dX3_write_7 rfl ?_
  refine mg_states C i3 (by decide +kernel) dX3_write_8 ?_
  refine g_iload_n C dX3_write_11 rfl ?_
  refine g_iconst C 0 dX3_write_12 (by decide) ?_
  refine ms_states C dX3_write_13 (by omega) ?_
  first | refine g_aload_n C dX3_write_14 rfl ?_ | refine g_aload_nq C _ dX3_write_14 rfl ?_
  refine g_iload_n C dX3_write_15 rfl ?_
  first | refine g_aload_n C dX3_write_16 rfl ?_ | refine g_aload_nq C _ dX3_write_16 rfl ?_
  refine mg_sees C i3 (by decide +kernel) dX3_write_17 ?_
  refine g_iload_n C dX3_write_20 rfl ?_
  refine ml_sees C dX3_write_21 (by omega) ?_
  refine g_callM C (k_X3_hasAbove l D g A xm _ hBU hN k (V 7 t) (by omega) (by omega) hR) gX3_write_X3_hasAbove dX3_write_22 (n := 2) rfl rfl rfl (by decide +kernel) ⟨Nat.le_of_ble_eq_true rfl, Nat.le_of_ble_eq_true rfl⟩ rfl rfl (Nat.le_of_ble_eq_true rfl) ⟨Nat.le_refl _, Nat.le_refl _⟩ (fun r V1 hq => ?_)
  obtain ⟨e9, hq⟩ := hq
  rw [e9]
  rw [hab] at hq
  rcases hq with ⟨h22, rfl⟩ | ⟨h22, rfl⟩
  · refine g_if_eq C 46 dX3_write_25 (by decide) (by decide) (fun c25 => absurd c25 (by decide)) (fun c25 => ?_)
    have h22 : vAb V k (V 7 t) (V 3 0) = true := h22
    first | refine g_aload_n C dX3_write_28 rfl ?_ | refine g_aload_nq C _ dX3_write_28 rfl ?_
    refine mg_states C i3 (by decide +kernel) dX3_write_29 ?_
    refine g_iload_n C dX3_write_32 rfl ?_
    refine g_iconst C 2 dX3_write_33 (by decide) ?_
    refine ms_states C dX3_write_34 (by omega) ?_
    first | refine g_aload_n C dX3_write_35 rfl ?_ | refine g_aload_nq C _ dX3_write_35 rfl ?_
    refine mg_failures C i3 (by decide +kernel) dX3_write_36 ?_
    refine g_iload_n C dX3_write_39 rfl ?_
    refine g_dup2 C dX3_write_40 (by first | rfl | exact vcat_rf _) (by first | rfl | exact vcat_rf _) ?_
    refine ml_failures C dX3_write_41 (by omega) ?_
    refine g_iconst C 1 dX3_write_42 (by decide) ?_
    first | refine g_iadd C dX3_write_43 ?_ | refine g_iaddx C dX3_write_43 ?_
    refine ms_failures C dX3_write_44 (by omega) ?_
    exact g_vret C dX3_write_45 rfl (⟨_, rfl, by unfold vWr; rw [if_pos h22]; rfl, rfl⟩)
  · refine g_if_eq C 46 dX3_write_25 (by decide) (by decide) (fun c25 => ?_) (fun c25 => absurd c25 (by decide))
    have h22n : ¬ vAb V k (V 7 t) (V 3 0) = true := fun z9 => by have h22 : vAb V k (V 7 t) (V 3 0) = false := h22; rw [h22] at z9; exact absurd z9 (by decide)
    first | refine g_aload_n C dX3_write_46 rfl ?_ | refine g_aload_nq C _ dX3_write_46 rfl ?_
    refine mg_holders C i3 (by decide +kernel) dX3_write_47 ?_
    refine g_iload_n C dX3_write_50 rfl ?_
    refine ml_holders C dX3_write_51 (by omega) ?_
    refine g_ifx_lt C 124 dX3_write_52 (by decide) (fun c52 => ?_) (fun c52 => ?_)
    · have c52 : V 17 k = 0 := (sh_lt (bd hB hN 17 k)).mp c52
      first | refine g_aload_n C dX3_write_124 rfl ?_ | refine g_aload_nq C _ dX3_write_124 rfl ?_
      refine mg_holders C i3 (by decide +kernel) dX3_write_125 ?_
      refine g_iload_n C dX3_write_128 rfl ?_
      refine g_iload_n C dX3_write_129 rfl ?_
      refine ms_holders C (t + 1) (sh_pos (b := t + 1) (by omega)).symm dX3_write_130 (by omega) ?_
      first | refine g_aload_n C dX3_write_131 rfl ?_ | refine g_aload_nq C _ dX3_write_131 rfl ?_
      refine mg_wrote C i3 (by decide +kernel) dX3_write_132 ?_
      refine g_sipush C 200 dX3_write_135 (by decide) ?_
      refine g_iload_n C dX3_write_138 rfl ?_
      refine g_imul C dX3_write_139 ?_
      refine g_iload_n C dX3_write_140 rfl ?_
      first | refine g_iadd C dX3_write_141 ?_ | refine g_iaddx C dX3_write_141 ?_
      refine g_iload_n C dX3_write_142 rfl ?_
      refine g_if_eq C 150 dX3_write_143 (by decide) (by omega) (fun c143 => ?_) (fun c143 => ?_)
      · refine g_iconst C 1 dX3_write_150 (by decide) ?_
        refine ms_wrote C dX3_write_151 (by omega) ?_
        exact g_vret C dX3_write_152 rfl (⟨_, rfl, by unfold vWr; rw [if_neg h22n, if_neg (fun z9 => absurd z9.1 (by omega))]; rw [show b + 1 = 1 by omega], rfl⟩)
      · refine g_iconst C 2 dX3_write_146 (by decide) ?_
        refine g_goto C 151 dX3_write_147 (by decide) ?_
        refine ms_wrote C dX3_write_151 (by omega) ?_
        exact g_vret C dX3_write_152 rfl (⟨_, rfl, by unfold vWr; rw [if_neg h22n, if_neg (fun z9 => absurd z9.1 (by omega))]; rw [show b + 1 = 2 by omega], rfl⟩)
    · have p52 : 0 < V 17 k := Nat.pos_of_ne_zero (fun z9 => c52 ((sh_lt (bd hB hN 17 k)).mpr z9))
      first | refine g_aload_n C dX3_write_55 rfl ?_ | refine g_aload_nq C _ dX3_write_55 rfl ?_
      refine mg_holders C i3 (by decide +kernel) dX3_write_56 ?_
      refine g_iload_n C dX3_write_59 rfl ?_
      refine ml_holders C dX3_write_60 (by omega) ?_
      refine g_iload_n C dX3_write_61 rfl ?_
      refine g_icmpx_eq C 124 dX3_write_62 (by decide) (fun c62 => ?_) (fun c62 => ?_)
      · have c62 : V 17 k = t + 1 := (sh_eq (bd hB hN 17 k) (by omega)).mp c62
        first | refine g_aload_n C dX3_write_124 rfl ?_ | refine g_aload_nq C _ dX3_write_124 rfl ?_
        refine mg_holders C i3 (by decide +kernel) dX3_write_125 ?_
        refine g_iload_n C dX3_write_128 rfl ?_
        refine g_iload_n C dX3_write_129 rfl ?_
        refine ms_holders C (t + 1) (sh_pos (b := t + 1) (by omega)).symm dX3_write_130 (by omega) ?_
        first | refine g_aload_n C dX3_write_131 rfl ?_ | refine g_aload_nq C _ dX3_write_131 rfl ?_
        refine mg_wrote C i3 (by decide +kernel) dX3_write_132 ?_
        refine g_sipush C 200 dX3_write_135 (by decide) ?_
        refine g_iload_n C dX3_write_138 rfl ?_
        refine g_imul C dX3_write_139 ?_
        refine g_iload_n C dX3_write_140 rfl ?_
        first | refine g_iadd C dX3_write_141 ?_ | refine g_iaddx C dX3_write_141 ?_
        refine g_iload_n C dX3_write_142 rfl ?_
        refine g_if_eq C 150 dX3_write_143 (by decide) (by omega) (fun c143 => ?_) (fun c143 => ?_)
        · refine g_iconst C 1 dX3_write_150 (by decide) ?_
          refine ms_wrote C dX3_write_151 (by omega) ?_
          exact g_vret C dX3_write_152 rfl (⟨_, rfl, by unfold vWr; rw [if_neg h22n, if_neg (fun z9 => z9.2 c62)]; rw [show b + 1 = 1 by omega], rfl⟩)
        · refine g_iconst C 2 dX3_write_146 (by decide) ?_
          refine g_goto C 151 dX3_write_147 (by decide) ?_
          refine ms_wrote C dX3_write_151 (by omega) ?_
          exact g_vret C dX3_write_152 rfl (⟨_, rfl, by unfold vWr; rw [if_neg h22n, if_neg (fun z9 => z9.2 c62)]; rw [show b + 1 = 2 by omega], rfl⟩)
      · have c62 : V 17 k ≠ t + 1 := fun z9 => c62 ((sh_eq (bd hB hN 17 k) (by omega)).mpr z9)
        first | refine g_aload_n C dX3_write_65 rfl ?_ | refine g_aload_nq C _ dX3_write_65 rfl ?_
        refine mg_states C i3 (by decide +kernel) dX3_write_66 ?_
        refine g_iload_n C dX3_write_69 rfl ?_
        refine g_iconst C 1 dX3_write_70 (by decide) ?_
        refine ms_states C dX3_write_71 (by omega) ?_
        first | refine g_aload_n C dX3_write_72 rfl ?_ | refine g_aload_nq C _ dX3_write_72 rfl ?_
        refine mg_waitsFor C i3 (by decide +kernel) dX3_write_73 ?_
        refine g_iload_n C dX3_write_76 rfl ?_
        first | refine g_aload_n C dX3_write_77 rfl ?_ | refine g_aload_nq C _ dX3_write_77 rfl ?_
        refine mg_holders C i3 (by decide +kernel) dX3_write_78 ?_
        refine g_iload_n C dX3_write_81 rfl ?_
        refine ml_holders C dX3_write_82 (by omega) ?_
        refine ms_waitsFor C _ rfl dX3_write_83 (by omega) ?_
        first | refine g_aload_n C dX3_write_84 rfl ?_ | refine g_aload_nq C _ dX3_write_84 rfl ?_
        refine mg_waitTriples C i3 (by decide +kernel) dX3_write_85 ?_
        refine g_iload_n C dX3_write_88 rfl ?_
        refine g_iload_n C dX3_write_89 rfl ?_
        refine ms_waitTriples C dX3_write_90 (by omega) ?_
        first | refine g_aload_n C dX3_write_91 rfl ?_ | refine g_aload_nq C _ dX3_write_91 rfl ?_
        refine mg_waitTells C i3 (by decide +kernel) dX3_write_92 ?_
        refine g_iload_n C dX3_write_95 rfl ?_
        refine g_iload_n C dX3_write_96 rfl ?_
        refine ms_waitTells C (by omega) dX3_write_97 (by omega) ?_
        first | refine g_aload_n C dX3_write_98 rfl ?_ | refine g_aload_nq C _ dX3_write_98 rfl ?_
        refine mg_since C i3 (by decide +kernel) dX3_write_99 ?_
        refine g_iload_n C dX3_write_102 rfl ?_
        first | refine g_aload_n C dX3_write_103 rfl ?_ | refine g_aload_nq C _ dX3_write_103 rfl ?_
        refine mg_clock C i3 (by decide +kernel) dX3_write_104 ?_
        refine ms_since C dX3_write_107 (by omega) ?_
        first | refine g_aload_n C dX3_write_108 rfl ?_ | refine g_aload_nq C _ dX3_write_108 rfl ?_
        refine g_dup C dX3_write_109 (by first | rfl | exact vcat_rf _) ?_
        refine mg_clock C i3 (by decide +kernel) dX3_write_110 ?_
        refine g_iconst C 1 dX3_write_113 (by decide) ?_
        first | refine g_iadd C dX3_write_114 ?_ | refine g_iaddx C dX3_write_114 ?_
        refine mp_clock C i3 (by decide +kernel) dX3_write_115 ?_
        have hWB : BdN (vWt (u2 (u2 V 11 t 0) 8 t 0) t k b) (N + 1) := by
          have hM := hBU.mono (Nat.le_succ N)
          unfold vWt
          exact (((((hM.up (by omega)).up (hM 17 k)).up (by omega)).up (by omega)).up (hM 15 0)).up (Nat.succ_lt_succ (hB 15 0))
        have hWW : ∀ i, i < V 16 0 → vWt (u2 (u2 V 11 t 0) 8 t 0) t k b 8 i = 1 → 0 < vWt (u2 (u2 V 11 t 0) 8 t 0) t k b 11 i ∧ vWt (u2 (u2 V 11 t 0) 8 t 0) t k b 11 i ≤ V 16 0 ∧ vWt (u2 (u2 V 11 t 0) 8 t 0) t k b 12 i < 200 ∧ vWt (u2 (u2 V 11 t 0) 8 t 0) t k b 13 i ≤ 1 := fun i hi h8 => by
          by_cases q : i = t
          · subst q
            unfold vWt
            simp only [u2_eq]
            simp
            exact ⟨p52, hHk, hk, hb⟩
          · have h9 := hW i hi (by unfold vWt at h8; simp only [u2_eq] at h8; simpa [q] using h8)
            unfold vWt
            simp only [u2_eq]
            simp [q]
            exact h9
        first | refine g_aload_n C dX3_write_118 rfl ?_ | refine g_aload_nq C _ dX3_write_118 rfl ?_
        refine g_iload_n C dX3_write_119 rfl ?_
        refine g_callM C (k_X3_lookForRing l D g A xm _ hWB hN3 (by omega) hC hQ hWW t ht) gX3_write_X3_lookForRing dX3_write_120 (n := 1) rfl rfl rfl (by decide +kernel) ⟨Nat.le_of_ble_eq_true rfl, Nat.le_of_ble_eq_true rfl⟩ rfl rfl (Nat.le_of_ble_eq_true rfl) ⟨Nat.le_refl _, Nat.le_refl _⟩ (fun r V1 hq => ?_)
        obtain ⟨rfl, rfl⟩ := hq
        exact g_vret C dX3_write_123 rfl (⟨_, rfl, by unfold vWr; rw [if_neg h22n, if_pos ⟨p52, c62⟩], rfl⟩)
set_option maxRecDepth 100000 in
set_option maxHeartbeats 1000000 in
theorem k_X3_goOn (l : Launch) (D : va_G) (g : Nat → ClassId) (A : Nat → Prop) (xm : Nat → Nat) (V : VV) {N : Nat} (hB : BdN V N) (hN : N ≤ 2 ^ 30) (hN2 : 20000 ≤ N) (hI : Iv V) (hN3 : N + 3601 ≤ 2 ^ 30) : MC l yX3_goOn wsX3_goOn ({ frames := 4, cells := 0, slots := 0, locals := 97 } : Room) D g A xm [.ref (xm 0)] V (fun r V1 => V1 = vGoA V ∧ r = none) := by
  refine k_ofW [(0, .ref (xm 0))] (by decide) rfl (Nat.le_of_ble_eq_true rfl) rfl (by simp [Value.category]) ?_
  intro p e s m args below meth c C
  have i3 : ∀ w ∈ wsX30, w ∈ wsX3_goOn := by decide +kernel
  have loop : ∀ (f : Nat) (U : VV) (M : Nat), Iv U → BdN U M → 20000 ≤ M → M + f ≤ 2 ^ 30 → 3600 - U 19 0 < f → vGo f U = vGoA V → GG p l e ({ frames := 4, cells := 0, slots := 0, locals := 97 } : Room) s m args below meth c (mQ below D g A xm args s (fun r V1 => V1 = vGoA V ∧ r = none)) 2 D A s.heap (mW g xm (U)) 0 0 0 [(0, .ref (xm 0))] [] := by
    intro f
    induction f with
    | zero =>
      intro U M _ _ _ _ h
      exact absurd h (Nat.not_lt_zero _)
    | succ f ihf =>
      intro U M hI hBU hM hMf hf hfin
      have hq := hI.q
      have hC := hI.1
      have hr := hI.rows
      have hfr := hI.2.2.2.2.1
      first | refine g_aload_n C dX3_goOn_0 rfl ?_ | refine g_aload_nq C _ dX3_goOn_0 rfl ?_
      refine mg_queueFrom C i3 (by decide +kernel) dX3_goOn_1 ?_
      first | refine g_aload_n C dX3_goOn_4 rfl ?_ | refine g_aload_nq C _ dX3_goOn_4 rfl ?_
      refine mg_queueTo C i3 (by decide +kernel) dX3_goOn_5 ?_
      refine g_icmp_ge C 61 dX3_goOn_8 (by decide) (by omega) (by omega) (fun c8 => ?_) (fun c8 => ?_)
      · first | refine g_aload_n C dX3_goOn_61 rfl ?_ | refine g_aload_nq C _ dX3_goOn_61 rfl ?_
        refine g_iconst C 0 dX3_goOn_62 (by decide) ?_
        refine mp_queueFrom C i3 (by decide +kernel) dX3_goOn_63 ?_
        first | refine g_aload_n C dX3_goOn_66 rfl ?_ | refine g_aload_nq C _ dX3_goOn_66 rfl ?_
        refine g_iconst C 0 dX3_goOn_67 (by decide) ?_
        refine mp_queueTo C i3 (by decide +kernel) dX3_goOn_68 ?_
        exact g_vret C dX3_goOn_71 rfl (⟨_, rfl, by rw [← hfin]; show _ = (if U 19 0 < U 20 0 then _ else _); rw [if_neg (Nat.not_lt.mpr c8)], rfl⟩)
      · have htn := hI.2.2.2.1 (U 19 0) (Nat.le_refl _) c8
        have hI1 := hI.go1 c8
        have hB1 := BdN.go1 hI c8 hBU hM
        have h19 := vGo1_19 U
        have hgo : vGo (f + 1) U = vGo f (vGo1 U) := by show (if U 19 0 < U 20 0 then _ else _) = _; rw [if_pos c8]
        first | refine g_aload_n C dX3_goOn_11 rfl ?_ | refine g_aload_nq C _ dX3_goOn_11 rfl ?_
        refine mg_queue C i3 (by decide +kernel) dX3_goOn_12 ?_
        first | refine g_aload_n C dX3_goOn_15 rfl ?_ | refine g_aload_nq C _ dX3_goOn_15 rfl ?_
        refine mg_queueFrom C i3 (by decide +kernel) dX3_goOn_16 ?_
        refine ml_queue C dX3_goOn_19 (by omega) ?_
        refine g_istore_n C dX3_goOn_20 (by decide) ?_
        first | refine g_aload_n C dX3_goOn_21 rfl ?_ | refine g_aload_nq C _ dX3_goOn_21 rfl ?_
        refine g_dup C dX3_goOn_22 (by first | rfl | exact vcat_rf _) ?_
        refine mg_queueFrom C i3 (by decide +kernel) dX3_goOn_23 ?_
        refine g_iconst C 1 dX3_goOn_26 (by decide) ?_
        first | refine g_iadd C dX3_goOn_27 ?_ | refine g_iaddx C dX3_goOn_27 ?_
        refine mp_queueFrom C i3 (by decide +kernel) dX3_goOn_28 ?_
        first | refine g_aload_n C dX3_goOn_31 rfl ?_ | refine g_aload_nq C _ dX3_goOn_31 rfl ?_
        refine mg_states C i3 (by decide +kernel) dX3_goOn_32 ?_
        refine g_iload_n C dX3_goOn_35 rfl ?_
        refine ml_states C dX3_goOn_36 (by omega) ?_
        refine g_iconst C 1 dX3_goOn_37 (by decide) ?_
        refine g_icmp_ne C 58 dX3_goOn_38 (by decide) (bd hBU (by omega) _ _) (by decide) (fun c38 => ?_) (fun c38 => ?_)
        · refine g_goto C 0 dX3_goOn_58 (by decide) ?_
          have hg1 : vGo1 U = u2 U 19 0 (U 19 0 + 1) := by unfold vGo1; rw [if_neg (show ¬ U 8 (U 18 (U 19 0)) = 1 from c38)]
          rw [← hg1]
          exact g_lv (lv' := [(0, .ref (xm 0))]) (fun q hq => List.mem_append_left [(1, _)] hq) (ihf _ (M + 1) hI1 hB1 (by omega) (by omega) (by omega) (by rw [← hgo]; exact hfin))
        · have hb9 := hI.2.1 _ htn c38
          first | refine g_aload_n C dX3_goOn_41 rfl ?_ | refine g_aload_nq C _ dX3_goOn_41 rfl ?_
          refine g_iload_n C dX3_goOn_42 rfl ?_
          first | refine g_aload_n C dX3_goOn_43 rfl ?_ | refine g_aload_nq C _ dX3_goOn_43 rfl ?_
          refine mg_waitTriples C i3 (by decide +kernel) dX3_goOn_44 ?_
          refine g_iload_n C dX3_goOn_47 rfl ?_
          refine ml_waitTriples C dX3_goOn_48 (by omega) ?_
          first | refine g_aload_n C dX3_goOn_49 rfl ?_ | refine g_aload_nq C _ dX3_goOn_49 rfl ?_
          refine mg_waitTells C i3 (by decide +kernel) dX3_goOn_50 ?_
          refine g_iload_n C dX3_goOn_53 rfl ?_
          refine ml_waitTells C dX3_goOn_54 (by omega) ?_
          refine g_callM C (k_X3_write l D g A xm _ (hBU.up (k := 19) (i := 0) (v := U 19 0 + 1) (by omega)) (by omega) hM hC (by show U 20 0 + 60 ≤ 4000; omega) hI.2.1 hI.2.2.1 (by show U 3 0 ≤ 13000; omega) (by omega) (U 18 (U 19 0)) (U 12 (U 18 (U 19 0))) (U 13 (U 18 (U 19 0))) htn hb9.2.2.1 hb9.2.2.2) gX3_goOn_X3_write dX3_goOn_55 (n := 3) rfl rfl rfl (by decide +kernel) ⟨Nat.le_of_ble_eq_true rfl, Nat.le_of_ble_eq_true rfl⟩ rfl rfl (Nat.le_of_ble_eq_true rfl) ⟨Nat.le_refl _, Nat.le_refl _⟩ (fun r V1 hq => ?_)
          obtain ⟨rfl, rfl⟩ := hq
          refine g_goto C 0 dX3_goOn_58 (by decide) ?_
          have hg1 : vGo1 U = vWr (u2 U 19 0 (U 19 0 + 1)) (U 18 (U 19 0)) (U 12 (U 18 (U 19 0))) (U 13 (U 18 (U 19 0))) := by unfold vGo1; rw [if_pos (show U 8 (U 18 (U 19 0)) = 1 from c38)]
          rw [← hg1]
          exact g_lv (lv' := [(0, .ref (xm 0))]) (fun q hq => List.mem_append_left [(1, _)] hq) (ihf _ (M + 1) hI1 hB1 (by omega) (by omega) (by omega) (by rw [← hgo]; exact hfin))
  exact loop 3601 V N hI hB hN2 hN3 (by omega) rfl
