theorem sh_ltr {a b : Nat} (ha : a < 2 ^ 31) (hb : b < 2 ^ 31) : nI a < nI b - 1 ↔ a + 1 < b := by
  rcases Nat.eq_zero_or_pos b with h | h
  · subst h
    rw [sh0]
    exact ⟨fun q => absurd (Int32.lt_of_le_of_lt (nI_pos' ha) q) (by decide), fun q => by omega⟩
  · rw [sh_pos h, nI_ltI ha (by omega)]
    omega
set_option maxRecDepth 100000 in
set_option maxHeartbeats 1000000 in
theorem k_X3_free (l : Launch) (D : va_G) (g : Nat → ClassId) (A : Nat → Prop) (xm : Nat → Nat) (V : VV) {N : Nat} (hB : BdN V N) (hN : N ≤ 2 ^ 30) (hN2 : 20000 ≤ N) (hI : Iv V) (hN4 : N + 4000 ≤ 2 ^ 30) (hT : ∀ k, k < V 3 0 → V 0 k < 200 ∧ V 2 k ≤ 1) : MC l yX3_free wsX3_free ({ frames := 2, cells := 0, slots := 0, locals := 43 } : Room) D g A xm [.ref (xm 0)] V (fun r V1 => V1 = vFree (u2 V 25 0 0) ∧ r = some (.int (nI (V 3 0 - vFk (vBs (u2 V 25 0 0) (vLK (u2 V 25 0 0)) 200) (V 3 0))))) := by
  refine k_ofW [(0, .ref (xm 0))] (by decide) rfl (Nat.le_of_ble_eq_true rfl) rfl (by simp [Value.category]) ?_
  intro p e s m args below meth c C
  have i3 : ∀ w ∈ wsX30, w ∈ wsX3_free := by decide +kernel
  have hC := hI.1
  have hr := hI.rows
  obtain ⟨U, hU⟩ : ∃ U, U = u2 V 25 0 0 := ⟨_, rfl⟩
  have hBU : BdN U N := by rw [hU]; exact hB.up (by omega)
  have e3 : U 3 0 = V 3 0 := by rw [hU]; rfl
  have e16 : U 16 0 = V 16 0 := by rw [hU]; rfl
  have hTU : ∀ k, k < V 3 0 → U 0 k < 200 ∧ U 2 k ≤ 1 := fun k hk => by rw [hU]; exact hT k hk
  have hlk : vLK U < N := vLP_lt hBU 64
  obtain ⟨E, hE⟩ : ∃ E, E = vBs U (vLK U) 200 := ⟨_, rfl⟩
  have hBE : BdN E (N + 1) := by rw [hE]; exact BdN.bs hBU (by omega) 200
  have hEk : ∀ b, b ≠ 26 → E b = U b := fun b hb => by rw [hE]; exact vBs_k U _ hb 200
  have loop2 : ∀ (n k : Nat), V 3 0 - k = n → k ≤ V 3 0 → GG p l e ({ frames := 2, cells := 0, slots := 0, locals := 43 } : Room) s m args below meth c (mQ below D g A xm args s (fun r V1 => V1 = vFree (u2 V 25 0 0) ∧ r = some (.int (nI (V 3 0 - vFk (vBs (u2 V 25 0 0) (vLK (u2 V 25 0 0)) 200) (V 3 0)))))) 7 D A s.heap (mW g xm (vFs E k)) 0 0 65 [(0, .ref (xm 0)), (1, .int (nI (vLK U))), (2, .int (nI (vFk E k))), (3, .int (nI (V 3 0))), (4, .int (nI k))] [] := by
    intro n
    induction n using Nat.strongRecOn with
    | _ n ih =>
      intro k hn hk
      have hfk := vFk_le E k
      have hr0 : vFs E k 0 k = E 0 k := vFs_hi E k 0 k hfk
      have hr1 : vFs E k 1 k = E 1 k := vFs_hi E k 1 k hfk
      have hr2 : vFs E k 2 k = E 2 k := vFs_hi E k 2 k hfk
      have hr26 : vFs E k 26 = E 26 := vFs_k E (by decide) (by decide) (by decide) k
      have b1 := hBE 1 k
      have b26 := hBE 26 (E 0 k)
      have hstep : vFs E (k + 1) = if vGoB E k = true then vFs E k else u2 (u2 (u2 (vFs E k) 0 (vFk E k) (E 0 k)) 1 (vFk E k) (E 1 k)) 2 (vFk E k) (E 2 k) := rfl
      have hstepk : vFk E (k + 1) = if vGoB E k = true then vFk E k else vFk E k + 1 := rfl
      refine g_iload C dX3_free_65 rfl ?_
      refine g_iload_n C dX3_free_67 rfl ?_
      refine g_icmp_ge C 182 dX3_free_68 (by decide) (by omega) (by omega) (fun c68 => ?_) (fun c68 => ?_)
      · first | refine g_aload_n C dX3_free_182 rfl ?_ | refine g_aload_nq C _ dX3_free_182 rfl ?_
        refine g_iload_n C dX3_free_183 rfl ?_
        refine mp_rows C i3 (by decide +kernel) dX3_free_184 ?_
        refine g_iload_n C dX3_free_187 rfl ?_
        refine g_iload_n C dX3_free_188 rfl ?_
        first | refine g_isub C dX3_free_189 (by omega) ?_ | refine g_isubx C dX3_free_189 ?_
        exact g_iret C dX3_free_190 rfl (⟨_, rfl, by rw [show k = V 3 0 by omega, hE, ← hU]; unfold vFree; rw [e3], by rw [show k = V 3 0 by omega, hE, ← hU]⟩)
      · have htk := hTU k (by omega)
        have hE0 : E 0 k = U 0 k := congrFun (hEk 0 (by decide)) k
        have hE2 : E 2 k = U 2 k := congrFun (hEk 2 (by decide)) k
        first | refine g_aload_n C dX3_free_71 rfl ?_ | refine g_aload_nq C _ dX3_free_71 rfl ?_
        refine mg_rowTriples C i3 (by decide +kernel) dX3_free_72 ?_
        refine g_iload C dX3_free_75 rfl ?_
        refine ml_rowTriples C dX3_free_77 (by omega) ?_
        refine g_top C (congrArg nI hr0) ?_
        refine g_istore C dX3_free_78 (by decide) ?_
        first | refine g_aload_n C dX3_free_80 rfl ?_ | refine g_aload_nq C _ dX3_free_80 rfl ?_
        refine mg_rowVersions C i3 (by decide +kernel) dX3_free_81 ?_
        refine g_iload C dX3_free_84 rfl ?_
        refine ml_rowVersions C dX3_free_86 (by omega) ?_
        refine g_top C (congrArg nI hr1) ?_
        first | refine g_aload_n C dX3_free_87 rfl ?_ | refine g_aload_nq C _ dX3_free_87 rfl ?_
        refine mg_best C i3 (by decide +kernel) dX3_free_88 ?_
        refine g_iload C dX3_free_91 rfl ?_
        refine ml_best C dX3_free_93 (by omega) ?_
        rw [hr26]
        refine g_icmpx_lt C 124 dX3_free_94 (by decide) (fun c94 => ?_) (fun c94 => ?_)
        · refine g_iconst C 1 dX3_free_124 (by decide) ?_
          refine g_goto C 129 dX3_free_125 (by decide) ?_
          refine g_istore C dX3_free_129 (by decide) ?_
          refine g_iload C dX3_free_131 rfl ?_
          refine g_if_eq C 139 dX3_free_133 (by decide) (by decide) (fun c133 => absurd c133 (by decide)) (fun c133 => ?_)
          refine g_goto C 176 dX3_free_136 (by decide) ?_
          refine g_iinc C dX3_free_176 rfl (by decide) ?_
          refine g_goto C 65 dX3_free_179 (by decide) ?_
          have hgo : vGoB E k = true := by unfold vGoB; rw [decide_eq_true ((sh_ltr (by omega) (by omega)).mp c94)]; rfl
          have ih9 := ih _ (by omega) (k + 1) rfl (by omega)
          rw [hstep, hstepk, hgo] at ih9
          exact g_lv (lv' := [(0, .ref (xm 0)), (1, .int (nI (vLK U))), (2, _), (3, .int (nI (V 3 0))), (4, .int (nI (k + 1)))]) (fun q hq => List.mem_append_left [(5, _), (6, _)] hq) ih9
        · first | refine g_aload_n C dX3_free_97 rfl ?_ | refine g_aload_nq C _ dX3_free_97 rfl ?_
          refine mg_rowVersions C i3 (by decide +kernel) dX3_free_98 ?_
          refine g_iload C dX3_free_101 rfl ?_
          refine ml_rowVersions C dX3_free_103 (by omega) ?_
          refine g_top C (congrArg nI hr1) ?_
          first | refine g_aload_n C dX3_free_104 rfl ?_ | refine g_aload_nq C _ dX3_free_104 rfl ?_
          refine mg_best C i3 (by decide +kernel) dX3_free_105 ?_
          refine g_iload C dX3_free_108 rfl ?_
          refine ml_best C dX3_free_110 (by omega) ?_
          rw [hr26]
          refine g_icmpx_ne C 128 dX3_free_111 (by decide) (fun c111 => ?_) (fun c111 => ?_)
          · refine g_iconst C 0 dX3_free_128 (by decide) ?_
            refine g_istore C dX3_free_129 (by decide) ?_
            refine g_iload C dX3_free_131 rfl ?_
            refine g_if_eq C 139 dX3_free_133 (by decide) (by decide) (fun c133 => ?_) (fun c133 => absurd c133 (by decide))
            first | refine g_aload_n C dX3_free_139 rfl ?_ | refine g_aload_nq C _ dX3_free_139 rfl ?_
            refine mg_rowTriples C i3 (by decide +kernel) dX3_free_140 ?_
            refine g_iload_n C dX3_free_143 rfl ?_
            refine g_iload C dX3_free_144 rfl ?_
            refine ms_rowTriples C dX3_free_146 (by omega) ?_
            first | refine g_aload_n C dX3_free_147 rfl ?_ | refine g_aload_nq C _ dX3_free_147 rfl ?_
            refine mg_rowVersions C i3 (by decide +kernel) dX3_free_148 ?_
            refine g_iload_n C dX3_free_151 rfl ?_
            first | refine g_aload_n C dX3_free_152 rfl ?_ | refine g_aload_nq C _ dX3_free_152 rfl ?_
            refine mg_rowVersions C i3 (by decide +kernel) dX3_free_153 ?_
            refine g_iload C dX3_free_156 rfl ?_
            refine ml_rowVersions C dX3_free_158 (by omega) ?_
            refine g_top C (congrArg nI hr1) ?_
            refine ms_rowVersions C dX3_free_159 (by omega) ?_
            first | refine g_aload_n C dX3_free_160 rfl ?_ | refine g_aload_nq C _ dX3_free_160 rfl ?_
            refine mg_rowTells C i3 (by decide +kernel) dX3_free_161 ?_
            refine g_iload_n C dX3_free_164 rfl ?_
            first | refine g_aload_n C dX3_free_165 rfl ?_ | refine g_aload_nq C _ dX3_free_165 rfl ?_
            refine mg_rowTells C i3 (by decide +kernel) dX3_free_166 ?_
            refine g_iload C dX3_free_169 rfl ?_
            refine ml_rowTells C dX3_free_171 (by omega) ?_
            refine g_top C (congrArg nI hr2) ?_
            refine ms_rowTells C (by omega) dX3_free_172 (by omega) ?_
            refine g_iinc C dX3_free_173 rfl (by decide) ?_
            refine g_iinc C dX3_free_176 rfl (by decide) ?_
            refine g_goto C 65 dX3_free_179 (by decide) ?_
            have hgo : vGoB E k = false := by unfold vGoB; rw [decide_eq_false (fun z9 => c94 ((sh_ltr (by omega) (by omega)).mpr z9)), decide_eq_false (fun z9 => c111 ((sh_eq (by omega) (by omega)).mpr (Eq.symm z9)).symm)]; rfl
            have ih9 := ih _ (by omega) (k + 1) rfl (by omega)
            rw [hstep, hstepk, hgo] at ih9
            exact g_lv (lv' := [(0, .ref (xm 0)), (1, .int (nI (vLK U))), (2, _), (3, .int (nI (V 3 0))), (4, .int (nI (k + 1)))]) (fun q hq => List.mem_append_left [(5, _), (6, _)] hq) ih9
          · first | refine g_aload_n C dX3_free_114 rfl ?_ | refine g_aload_nq C _ dX3_free_114 rfl ?_
            refine mg_rowTells C i3 (by decide +kernel) dX3_free_115 ?_
            refine g_iload C dX3_free_118 rfl ?_
            refine ml_rowTells C dX3_free_120 (by omega) ?_
            refine g_if_ne C 128 dX3_free_121 (by decide) (by rw [hr2]; exact bd hBE (by omega) _ _) (fun c121 => ?_) (fun c121 => ?_)
            · rw [hr2] at c121
              refine g_iconst C 0 dX3_free_128 (by decide) ?_
              refine g_istore C dX3_free_129 (by decide) ?_
              refine g_iload C dX3_free_131 rfl ?_
              refine g_if_eq C 139 dX3_free_133 (by decide) (by decide) (fun c133 => ?_) (fun c133 => absurd c133 (by decide))
              first | refine g_aload_n C dX3_free_139 rfl ?_ | refine g_aload_nq C _ dX3_free_139 rfl ?_
              refine mg_rowTriples C i3 (by decide +kernel) dX3_free_140 ?_
              refine g_iload_n C dX3_free_143 rfl ?_
              refine g_iload C dX3_free_144 rfl ?_
              refine ms_rowTriples C dX3_free_146 (by omega) ?_
              first | refine g_aload_n C dX3_free_147 rfl ?_ | refine g_aload_nq C _ dX3_free_147 rfl ?_
              refine mg_rowVersions C i3 (by decide +kernel) dX3_free_148 ?_
              refine g_iload_n C dX3_free_151 rfl ?_
              first | refine g_aload_n C dX3_free_152 rfl ?_ | refine g_aload_nq C _ dX3_free_152 rfl ?_
              refine mg_rowVersions C i3 (by decide +kernel) dX3_free_153 ?_
              refine g_iload C dX3_free_156 rfl ?_
              refine ml_rowVersions C dX3_free_158 (by omega) ?_
              refine g_top C (congrArg nI hr1) ?_
              refine ms_rowVersions C dX3_free_159 (by omega) ?_
              first | refine g_aload_n C dX3_free_160 rfl ?_ | refine g_aload_nq C _ dX3_free_160 rfl ?_
              refine mg_rowTells C i3 (by decide +kernel) dX3_free_161 ?_
              refine g_iload_n C dX3_free_164 rfl ?_
              first | refine g_aload_n C dX3_free_165 rfl ?_ | refine g_aload_nq C _ dX3_free_165 rfl ?_
              refine mg_rowTells C i3 (by decide +kernel) dX3_free_166 ?_
              refine g_iload C dX3_free_169 rfl ?_
              refine ml_rowTells C dX3_free_171 (by omega) ?_
              refine g_top C (congrArg nI hr2) ?_
              refine ms_rowTells C (by omega) dX3_free_172 (by omega) ?_
              refine g_iinc C dX3_free_173 rfl (by decide) ?_
              refine g_iinc C dX3_free_176 rfl (by decide) ?_
              refine g_goto C 65 dX3_free_179 (by decide) ?_
              have hgo : vGoB E k = false := by unfold vGoB; rw [decide_eq_false (fun z9 => c94 ((sh_ltr (by omega) (by omega)).mpr z9)), decide_eq_true ((sh_eq (by omega) (by omega)).mp c111.symm).symm, decide_eq_false (show ¬ E 2 k = 0 by omega)]; rfl
              have ih9 := ih _ (by omega) (k + 1) rfl (by omega)
              rw [hstep, hstepk, hgo] at ih9
              exact g_lv (lv' := [(0, .ref (xm 0)), (1, .int (nI (vLK U))), (2, _), (3, .int (nI (V 3 0))), (4, .int (nI (k + 1)))]) (fun q hq => List.mem_append_left [(5, _), (6, _)] hq) ih9
            · rw [hr2] at c121
              refine g_iconst C 1 dX3_free_124 (by decide) ?_
              refine g_goto C 129 dX3_free_125 (by decide) ?_
              refine g_istore C dX3_free_129 (by decide) ?_
              refine g_iload C dX3_free_131 rfl ?_
              refine g_if_eq C 139 dX3_free_133 (by decide) (by decide) (fun c133 => absurd c133 (by decide)) (fun c133 => ?_)
              refine g_goto C 176 dX3_free_136 (by decide) ?_
              refine g_iinc C dX3_free_176 rfl (by decide) ?_
              refine g_goto C 65 dX3_free_179 (by decide) ?_
              have hgo : vGoB E k = true := by unfold vGoB; rw [decide_eq_false (fun z9 => c94 ((sh_ltr (by omega) (by omega)).mpr z9)), decide_eq_true ((sh_eq (by omega) (by omega)).mp c111.symm).symm, decide_eq_true (show E 2 k = 0 by omega)]; rfl
              have ih9 := ih _ (by omega) (k + 1) rfl (by omega)
              rw [hstep, hstepk, hgo] at ih9
              exact g_lv (lv' := [(0, .ref (xm 0)), (1, .int (nI (vLK U))), (2, _), (3, .int (nI (V 3 0))), (4, .int (nI (k + 1)))]) (fun q hq => List.mem_append_left [(5, _), (6, _)] hq) ih9
  have loop1 : ∀ (n t : Nat), 200 - t = n → t ≤ 200 → GG p l e ({ frames := 2, cells := 0, slots := 0, locals := 43 } : Room) s m args below meth c (mQ below D g A xm args s (fun r V1 => V1 = vFree (u2 V 25 0 0) ∧ r = some (.int (nI (V 3 0 - vFk (vBs (u2 V 25 0 0) (vLK (u2 V 25 0 0)) 200) (V 3 0)))))) 7 D A s.heap (mW g xm (vBs U (vLK U) t)) 0 0 14 [(0, .ref (xm 0)), (1, .int (nI (vLK U))), (2, .int (nI 0)), (3, .int (nI t))] [] := by
    intro n
    induction n using Nat.strongRecOn with
    | _ n ih =>
      intro t hn ht
      obtain ⟨W, hW⟩ : ∃ W, W = vBs U (vLK U) t := ⟨_, rfl⟩
      have hWk : ∀ b, b ≠ 26 → W b = U b := fun b hb => by rw [hW]; exact vBs_k U _ hb t
      have hBW : BdN W (N + 1) := by rw [hW]; exact BdN.bs hBU (by omega) t
      have hvr : vRow W t (vLK U) (W 3 0) = vRow U t (vLK U) (U 3 0) := by rw [vRow_cong (hWk 0 (by decide)) (hWk 1 (by decide)), hWk 3 (by decide)]
      have hvl := vRow_le U t (vLK U) (U 3 0)
      have hstep : vBs U (vLK U) (t + 1) = u2 W 26 t (if vRow U t (vLK U) (U 3 0) = 0 then 0 else U 1 (vRow U t (vLK U) (U 3 0) - 1) + 1) := by rw [hW]; rfl
      rw [← hW]
      refine g_iload_n C dX3_free_14 rfl ?_
      refine g_sipush C 200 dX3_free_15 (by decide) ?_
      refine g_icmp_ge C 57 dX3_free_18 (by decide) (by omega) (by decide) (fun c18 => ?_) (fun c18 => ?_)
      · first | refine g_aload_n C dX3_free_57 rfl ?_ | refine g_aload_nq C _ dX3_free_57 rfl ?_
        refine mg_rows C i3 (by decide +kernel) dX3_free_58 ?_
        refine g_istore_n C dX3_free_61 (by decide) ?_
        refine g_iconst C 0 dX3_free_62 (by decide) ?_
        refine g_istore C dX3_free_63 (by decide) ?_
        have hW200 : W = E := by rw [hW, hE, show t = 200 by omega]
        rw [hW200]
        rw [show E 3 0 = V 3 0 by rw [hEk 3 (by decide)]; exact e3]
        exact loop2 _ 0 rfl (Nat.zero_le _)
      · first | refine g_aload_n C dX3_free_21 rfl ?_ | refine g_aload_nq C _ dX3_free_21 rfl ?_
        refine g_iload_n C dX3_free_22 rfl ?_
        refine g_iload_n C dX3_free_23 rfl ?_
        refine g_callM C (k_X3_rowOf l D g A xm _ hBW (by omega) t (vLK U) (by omega) (by omega) (by rw [hWk 3 (by decide)]; omega)) gX3_free_X3_rowOf dX3_free_24 (n := 2) rfl rfl rfl (by decide +kernel) ⟨Nat.le_of_ble_eq_true rfl, Nat.le_of_ble_eq_true rfl⟩ rfl rfl (Nat.le_of_ble_eq_true rfl) ⟨Nat.le_refl _, Nat.le_refl _⟩ (fun r V1 hq => ?_)
        obtain ⟨e9, e10⟩ := hq
        rw [hvr] at e10
        rw [e9, e10]
        refine g_istore C dX3_free_27 (by decide) ?_
        first | refine g_aload_n C dX3_free_29 rfl ?_ | refine g_aload_nq C _ dX3_free_29 rfl ?_
        refine mg_best C i3 (by decide +kernel) dX3_free_30 ?_
        refine g_iload_n C dX3_free_33 rfl ?_
        refine g_iload C dX3_free_34 rfl ?_
        refine g_ifx_ge C 43 dX3_free_36 (by decide) (fun c36 => ?_) (fun c36 => ?_)
        · have c36b : 0 < vRow U t (vLK U) (U 3 0) := (sh_ge (by omega)).mp c36
          first | refine g_aload_n C dX3_free_43 rfl ?_ | refine g_aload_nq C _ dX3_free_43 rfl ?_
          refine mg_rowVersions C i3 (by decide +kernel) dX3_free_44 ?_
          refine g_iload C dX3_free_47 rfl ?_
          refine g_top C (sh_pos c36b) ?_
          refine ml_rowVersions C dX3_free_49 (by omega) ?_
          rw [hWk 1 (by decide)]
          refine g_top C (sh_pos (b := U 1 (vRow U t (vLK U) (U 3 0) - 1) + 1) (Nat.succ_pos _)).symm ?_
          refine ms_best C _ rfl dX3_free_50 (by omega) ?_
          refine g_iinc C dX3_free_51 rfl (by decide) ?_
          refine g_goto C 14 dX3_free_54 (by decide) ?_
          have ih9 := ih _ (by omega) (t + 1) rfl (by omega)
          rw [hstep, if_neg (by omega)] at ih9
          exact g_lv (lv' := [(0, .ref (xm 0)), (1, .int (nI (vLK U))), (2, .int (nI 0)), (3, .int (nI (t + 1)))]) (fun q hq => List.mem_append_left [(4, _)] hq) ih9
        · have c36b : vRow U t (vLK U) (U 3 0) = 0 := by rcases Nat.eq_zero_or_pos (vRow U t (vLK U) (U 3 0)) with z9 | z9; exact z9; exact absurd ((sh_ge (by omega)).mpr z9) c36
          refine g_iconstm C dX3_free_39 ?_
          refine g_goto C 50 dX3_free_40 (by decide) ?_
          refine g_top C sh0.symm ?_
          refine ms_best C _ rfl dX3_free_50 (by omega) ?_
          refine g_iinc C dX3_free_51 rfl (by decide) ?_
          refine g_goto C 14 dX3_free_54 (by decide) ?_
          have ih9 := ih _ (by omega) (t + 1) rfl (by omega)
          rw [hstep, if_pos c36b] at ih9
          exact g_lv (lv' := [(0, .ref (xm 0)), (1, .int (nI (vLK U))), (2, .int (nI 0)), (3, .int (nI (t + 1)))]) (fun q hq => List.mem_append_left [(4, _)] hq) ih9
  first | refine g_aload_n C dX3_free_0 rfl ?_ | refine g_aload_nq C _ dX3_free_0 rfl ?_
  refine g_iconst C 0 dX3_free_1 (by decide) ?_
  refine mp_thrown C i3 (by decide +kernel) dX3_free_2 ?_
  refine g_ws (congrArg (mW g xm) hU.symm) ?_
  first | refine g_aload_n C dX3_free_5 rfl ?_ | refine g_aload_nq C _ dX3_free_5 rfl ?_
  refine g_callM C (k_X3_leastKept l D g A xm _ hBU hN (by rw [e16]; exact hC)) gX3_free_X3_leastKept dX3_free_6 (n := 0) rfl rfl rfl (by decide +kernel) ⟨Nat.le_of_ble_eq_true rfl, Nat.le_of_ble_eq_true rfl⟩ rfl rfl (Nat.le_of_ble_eq_true rfl) ⟨Nat.le_refl _, Nat.le_refl _⟩ (fun r V1 hq => ?_)
  obtain ⟨e9, e10⟩ := hq
  rw [e9, e10]
  refine g_istore_n C dX3_free_9 (by decide) ?_
  refine g_iconst C 0 dX3_free_10 (by decide) ?_
  refine g_istore_n C dX3_free_11 (by decide) ?_
  refine g_iconst C 0 dX3_free_12 (by decide) ?_
  refine g_istore_n C dX3_free_13 (by decide) ?_
  exact loop1 _ 0 rfl (Nat.zero_le _)
