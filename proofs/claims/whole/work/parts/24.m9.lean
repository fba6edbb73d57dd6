set_option maxRecDepth 100000 in
set_option maxHeartbeats 1000000 in
theorem k_X3_commit (l : Launch) (D : va_G) (g : Nat → ClassId) (A : Nat → Prop) (xm : Nat → Nat) (V : VV) {N : Nat} (hB : BdN V N) (hN : N ≤ 2 ^ 30) (hN2 : 20000 ≤ N) (hI : Iv V) (hN4 : N + 4000 ≤ 2 ^ 30) (hS : ∀ i, i < V 16 0 → V 7 i ≤ V 4 0) (x : Int32) : MC l yX3_commit wsX3_commit ({ frames := 5, cells := 0, slots := 0, locals := 118 } : Room) D g A xm [.ref (xm 0), .int x] V (fun r V1 => (inR x (V 16 0) ∧ (V 8 (ix x) < 3 ∧ V 8 (ix x) ≠ 1) ∧ (V 8 (ix x) = 2 ∨ 0 < vCh (u2 V 25 0 0) (ix x) 4 0) ∧ V1 = vGoA (vEnd (vRef (u2 V 25 0 0) (ix x)) (ix x) 4) ∧ r = some (.int (nI 0))) ∨ (inR x (V 16 0) ∧ (V 8 (ix x) < 3 ∧ V 8 (ix x) ≠ 1) ∧ ¬ (V 8 (ix x) = 2 ∨ 0 < vCh (u2 V 25 0 0) (ix x) 4 0) ∧ V1 = vGoA (vEnd (vRwA (u2 V 25 0 0) (ix x)) (ix x) 3) ∧ r = some (.int (nI (vNum (u2 V 25 0 0) (ix x))))) ∨ (inR x (V 16 0) ∧ ¬ (V 8 (ix x) < 3 ∧ V 8 (ix x) ≠ 1) ∧ V1 = u2 V 25 0 2 ∧ r = some (.int (nI 0))) ∨ (¬ inR x (V 16 0) ∧ V1 = u2 V 25 0 1 ∧ r = some (.int (nI 0)))) := by
  refine k_ofW [(0, .ref (xm 0)), (1, .int x)] (by decide) rfl (Nat.le_of_ble_eq_true rfl) rfl (by simp [Value.category]) ?_
  intro p e s m args below meth c C
  have i3 : ∀ w ∈ wsX30, w ∈ wsX3_commit := by decide +kernel
  have hC := hI.1
  have hq := hI.q
  have hr := hI.rows
  have hla := hI.lat
  obtain ⟨U, hU⟩ : ∃ U, U = u2 V 25 0 0 := ⟨_, rfl⟩
  have hBU : BdN U N := by rw [hU]; exact hB.up (by omega)
  have hIU : Iv U := by rw [hU]; exact hI
  have e16 : U 16 0 = V 16 0 := by rw [hU]; rfl
  have e20 : U 20 0 = V 20 0 := by rw [hU]; rfl
  have e3 : U 3 0 = V 3 0 := by rw [hU]; rfl
  have e4 : U 4 0 = V 4 0 := by rw [hU]; rfl
  have e8 : ∀ i, U 8 i = V 8 i := fun i => by rw [hU]; rfl
  have e7 : ∀ i, U 7 i = V 7 i := fun i => by rw [hU]; rfl
  have fin : ∀ (j gg : Nat) (hj1 : j < V 16 0) (hj : j < 2 ^ 31) (hlv : V 8 j < 3) (hnw : V 8 j ≠ 1) (hnf : ¬ (V 8 j = 2 ∨ 0 < vCh U j 4 0)), x = nI j → ∀ (n i : Nat), 200 - i = n → i ≤ 200 → GG p l e ({ frames := 5, cells := 0, slots := 0, locals := 118 } : Room) s m args below meth c (mQ below D g A xm args s (fun r V1 => (inR x (V 16 0) ∧ (V 8 (ix x) < 3 ∧ V 8 (ix x) ≠ 1) ∧ (V 8 (ix x) = 2 ∨ 0 < vCh (u2 V 25 0 0) (ix x) 4 0) ∧ V1 = vGoA (vEnd (vRef (u2 V 25 0 0) (ix x)) (ix x) 4) ∧ r = some (.int (nI 0))) ∨ (inR x (V 16 0) ∧ (V 8 (ix x) < 3 ∧ V 8 (ix x) ≠ 1) ∧ ¬ (V 8 (ix x) = 2 ∨ 0 < vCh (u2 V 25 0 0) (ix x) 4 0) ∧ V1 = vGoA (vEnd (vRwA (u2 V 25 0 0) (ix x)) (ix x) 3) ∧ r = some (.int (nI (vNum (u2 V 25 0 0) (ix x))))) ∨ (inR x (V 16 0) ∧ ¬ (V 8 (ix x) < 3 ∧ V 8 (ix x) ≠ 1) ∧ V1 = u2 V 25 0 2 ∧ r = some (.int (nI 0))) ∨ (¬ inR x (V 16 0) ∧ V1 = u2 V 25 0 1 ∧ r = some (.int (nI 0))))) 8 D A s.heap (mW g xm (vRws U j (U 4 0 + 1) i)) 0 0 114 [(0, .ref (xm 0)), (1, .int (nI j)), (2, .int (nI 1)), (3, .int (nI gg - 1)), (4, .int (nI (if vRws U j (U 4 0 + 1) i 3 0 = U 3 0 then U 7 j else U 4 0 + 1))), (5, .int (nI (U 4 0 + 1))), (6, .int (nI i))] [] := by
    intro j gg hj1 hj hlv hnw hnf hxj n
    have hsee := hS j hj1
    induction n using Nat.strongRecOn with
    | _ n ih =>
      intro i hn hi
      have hW := BdN.rws hBU (t := j) (nx := U 4 0 + 1) (by omega) hN2 (by omega) i hi
      have hk10 : vRws U j (U 4 0 + 1) i 10 = U 10 := vRws_k U j _ (by decide) (by decide) (by decide) (by decide) i
      have hk7 : vRws U j (U 4 0 + 1) i 7 = U 7 := vRws_k U j _ (by decide) (by decide) (by decide) (by decide) i
      have h3i := vRws_3 U j (U 4 0 + 1) i
      obtain ⟨W, hWe⟩ : ∃ W, W = vRws U j (U 4 0 + 1) i := ⟨_, rfl⟩
      rw [← hWe] at hW hk10 hk7 h3i ⊢
      have hnext : vRws U j (U 4 0 + 1) (i + 1) = if vChB W j i = true then vAdd1 W i (U 4 0 + 1) (if U 10 (200 * j + i) = 2 then 1 else 0) else W := by rw [hWe]; rfl
      have hsm : (if W 3 0 = U 3 0 then U 7 j else U 4 0 + 1) < 2 ^ 31 := by have := bd hBU hN 7 j; split <;> omega
      refine g_iload C dX3_commit_114 rfl ?_
      refine g_sipush C 200 dX3_commit_116 (by decide) ?_
      refine g_icmp_ge C 233 dX3_commit_119 (by decide) (by omega) (by decide) (fun c119 => ?_) (fun c119 => ?_)
      · refine g_iload C dX3_commit_233 rfl ?_
        refine g_iload C dX3_commit_235 rfl ?_
        refine g_icmp_ne C 246 dX3_commit_237 (by decide) hsm (by omega) (fun c237 => ?_) (fun c237 => ?_)
        · have hsame : W 3 0 = U 3 0 := by by_cases z9 : W 3 0 = U 3 0; exact z9; exact absurd (if_neg z9) c237
          have hi200 : i = 200 := by omega
          rw [hi200] at hWe
          have hF : vRwA U j = W := by unfold vRwA; rw [← hWe, if_pos hsame]
          have hnum : vNum U j = U 7 j := by unfold vNum; rw [← hWe, if_pos hsame]
          have hBF := BdN.rwA (t := j) hBU hN2 (by omega) (by omega)
          have hF16 : vRwA U j 16 0 = V 16 0 := by rw [vRwA_k U j (by decide) (by decide) (by decide) (by decide) (by decide)]; exact e16
          have hF20 : vRwA U j 20 0 = V 20 0 := by rw [vRwA_k U j (by decide) (by decide) (by decide) (by decide) (by decide)]; exact e20
          have hI1 := hIU.commitV (t := j) (by omega) (by rw [e8]; exact hlv)
          have hB1 := BdN.endV (t := j) (z := 3) hBF (by rw [hF16]; exact hC) (by rw [hF20]; omega) hN2 (by decide)
          refine g_ws (congrArg (mW g xm) hF.symm) ?_
          first | refine g_aload_n C dX3_commit_246 rfl ?_ | refine g_aload_nq C _ dX3_commit_246 rfl ?_
          refine g_iload_n C dX3_commit_247 rfl ?_
          refine g_iconst C 3 dX3_commit_248 (by decide) ?_
          refine g_callM C (k_X3_end l D g A xm _ hBF hN hN2 (by rw [hF16]; exact hC) (by rw [hF20]; omega) j 3 (by omega) (by decide)) gX3_commit_X3_end dX3_commit_249 (n := 2) rfl rfl rfl (by decide +kernel) ⟨Nat.le_of_ble_eq_true rfl, Nat.le_of_ble_eq_true rfl⟩ rfl rfl (Nat.le_of_ble_eq_true rfl) ⟨Nat.le_refl _, Nat.le_refl _⟩ (fun r V1 hq => ?_)
          obtain ⟨e9, e10⟩ := hq
          rw [e9, e10]
          first | refine g_aload_n C dX3_commit_252 rfl ?_ | refine g_aload_nq C _ dX3_commit_252 rfl ?_
          refine g_callM C (k_X3_goOn l D g A xm _ hB1 hN hN2 hI1 (by omega)) gX3_commit_X3_goOn dX3_commit_253 (n := 0) rfl rfl rfl (by decide +kernel) ⟨Nat.le_of_ble_eq_true rfl, Nat.le_of_ble_eq_true rfl⟩ rfl rfl (Nat.le_of_ble_eq_true rfl) ⟨Nat.le_refl _, Nat.le_refl _⟩ (fun r V1 hq => ?_)
          obtain ⟨e9, e10⟩ := hq
          rw [e9, e10]
          refine g_iload C dX3_commit_256 rfl ?_
          exact g_iret C dX3_commit_258 rfl (⟨_, rfl, Or.inr (Or.inl ⟨by rw [hxj]; exact (inR_nI hj).mpr hj1, by rw [hxj, ix_nI hj]; exact ⟨hlv, hnw⟩, by rw [hxj, ix_nI hj, ← hU]; exact hnf, by rw [hxj, ix_nI hj, ← hU], by rw [hxj, ix_nI hj, ← hU, hnum, if_pos hsame]⟩)⟩)
        · first | refine g_aload_n C dX3_commit_240 rfl ?_ | refine g_aload_nq C _ dX3_commit_240 rfl ?_
          refine g_iload C dX3_commit_241 rfl ?_
          refine mp_latest C i3 (by decide +kernel) dX3_commit_243 ?_
          have hdif : ¬ W 3 0 = U 3 0 := fun z9 => by rw [if_pos z9] at c237; have h9 := e7 j; omega
          have hi200 : i = 200 := by omega
          rw [hi200] at hWe
          have hF : vRwA U j = u2 W 4 0 (U 4 0 + 1) := by unfold vRwA; rw [← hWe, if_neg hdif]
          have hnum : vNum U j = U 4 0 + 1 := by unfold vNum; rw [← hWe, if_neg hdif]
          have hBF := BdN.rwA (t := j) hBU hN2 (by omega) (by omega)
          have hF16 : vRwA U j 16 0 = V 16 0 := by rw [vRwA_k U j (by decide) (by decide) (by decide) (by decide) (by decide)]; exact e16
          have hF20 : vRwA U j 20 0 = V 20 0 := by rw [vRwA_k U j (by decide) (by decide) (by decide) (by decide) (by decide)]; exact e20
          have hI1 := hIU.commitV (t := j) (by omega) (by rw [e8]; exact hlv)
          have hB1 := BdN.endV (t := j) (z := 3) hBF (by rw [hF16]; exact hC) (by rw [hF20]; omega) hN2 (by decide)
          refine g_ws (congrArg (mW g xm) hF.symm) ?_
          first | refine g_aload_n C dX3_commit_246 rfl ?_ | refine g_aload_nq C _ dX3_commit_246 rfl ?_
          refine g_iload_n C dX3_commit_247 rfl ?_
          refine g_iconst C 3 dX3_commit_248 (by decide) ?_
          refine g_callM C (k_X3_end l D g A xm _ hBF hN hN2 (by rw [hF16]; exact hC) (by rw [hF20]; omega) j 3 (by omega) (by decide)) gX3_commit_X3_end dX3_commit_249 (n := 2) rfl rfl rfl (by decide +kernel) ⟨Nat.le_of_ble_eq_true rfl, Nat.le_of_ble_eq_true rfl⟩ rfl rfl (Nat.le_of_ble_eq_true rfl) ⟨Nat.le_refl _, Nat.le_refl _⟩ (fun r V1 hq => ?_)
          obtain ⟨e9, e10⟩ := hq
          rw [e9, e10]
          first | refine g_aload_n C dX3_commit_252 rfl ?_ | refine g_aload_nq C _ dX3_commit_252 rfl ?_
          refine g_callM C (k_X3_goOn l D g A xm _ hB1 hN hN2 hI1 (by omega)) gX3_commit_X3_goOn dX3_commit_253 (n := 0) rfl rfl rfl (by decide +kernel) ⟨Nat.le_of_ble_eq_true rfl, Nat.le_of_ble_eq_true rfl⟩ rfl rfl (Nat.le_of_ble_eq_true rfl) ⟨Nat.le_refl _, Nat.le_refl _⟩ (fun r V1 hq => ?_)
          obtain ⟨e9, e10⟩ := hq
          rw [e9, e10]
          refine g_iload C dX3_commit_256 rfl ?_
          exact g_iret C dX3_commit_258 rfl (⟨_, rfl, Or.inr (Or.inl ⟨by rw [hxj]; exact (inR_nI hj).mpr hj1, by rw [hxj, ix_nI hj]; exact ⟨hlv, hnw⟩, by rw [hxj, ix_nI hj, ← hU]; exact hnf, by rw [hxj, ix_nI hj, ← hU], by rw [hxj, ix_nI hj, ← hU, hnum, if_neg hdif]⟩)⟩)
      · first | refine g_aload_n C dX3_commit_122 rfl ?_ | refine g_aload_nq C _ dX3_commit_122 rfl ?_
        refine mg_wrote C i3 (by decide +kernel) dX3_commit_123 ?_
        refine g_sipush C 200 dX3_commit_126 (by decide) ?_
        refine g_iload_n C dX3_commit_129 rfl ?_
        refine g_imul C dX3_commit_130 ?_
        refine g_iload C dX3_commit_131 rfl ?_
        first | refine g_iadd C dX3_commit_133 ?_ | refine g_iaddx C dX3_commit_133 ?_
        refine ml_wrote C dX3_commit_134 (by omega) ?_
        refine g_istore C dX3_commit_135 (by decide) ?_
        refine g_iload C dX3_commit_137 rfl ?_
        refine g_if_eq C 227 dX3_commit_139 (by decide) (bd hW hN _ _) (fun c139 => ?_) (fun c139 => ?_)
        · refine g_iinc C dX3_commit_227 rfl (by decide) ?_
          refine g_goto C 114 dX3_commit_230 (by decide) ?_
          have hnc : vChB W j i = false := by unfold vChB; rw [decide_eq_false (show ¬ 0 < W 10 (200 * j + i) by omega)]; rfl
          have hst : vRws U j (U 4 0 + 1) (i + 1) = W := by rw [hnext, hnc]; rfl
          have ih9 := ih _ (by omega) (i + 1) rfl (by omega)
          rw [hst] at ih9
          exact g_lv (lv' := [(0, .ref (xm 0)), (1, .int (nI j)), (2, .int (nI 1)), (3, .int (nI gg - 1)), (4, _), (5, .int (nI (U 4 0 + 1))), (6, .int (nI (i + 1)))]) (fun q hq => List.mem_append_left [(7, _)] hq) ih9
        · refine g_iload C dX3_commit_142 rfl ?_
          refine g_iconst C 2 dX3_commit_144 (by decide) ?_
          refine g_icmp_ne C 152 dX3_commit_145 (by decide) (bd hW hN _ _) (by decide) (fun c145 => ?_) (fun c145 => ?_)
          · refine g_iconst C 0 dX3_commit_152 (by decide) ?_
            first | refine g_aload_n C dX3_commit_153 rfl ?_ | refine g_aload_nq C _ dX3_commit_153 rfl ?_
            refine g_iload C dX3_commit_154 rfl ?_
            first | refine g_aload_n C dX3_commit_156 rfl ?_ | refine g_aload_nq C _ dX3_commit_156 rfl ?_
            refine mg_sees C i3 (by decide +kernel) dX3_commit_157 ?_
            refine g_iload_n C dX3_commit_160 rfl ?_
            refine ml_sees C dX3_commit_161 (by omega) ?_
            refine g_callM C (k_X3_isThere l D g A xm _ hW hN i (W 7 j) (by omega) (by have := hW 7 j; omega) (by omega)) gX3_commit_X3_isThere dX3_commit_162 (n := 2) rfl rfl rfl (by decide +kernel) ⟨Nat.le_of_ble_eq_true rfl, Nat.le_of_ble_eq_true rfl⟩ rfl rfl (Nat.le_of_ble_eq_true rfl) ⟨Nat.le_refl _, Nat.le_refl _⟩ (fun r V1 hq => ?_)
            obtain ⟨e9, hq⟩ := hq
            rw [e9]
            rcases hq with ⟨h162, rfl⟩ | ⟨h162, rfl⟩
            · refine g_icmp_ne C 171 dX3_commit_165 (by decide) (by decide) (by decide) (fun c165 => ?_) (fun c165 => absurd c165 (by decide))
              first | refine g_aload_n C dX3_commit_171 rfl ?_ | refine g_aload_nq C _ dX3_commit_171 rfl ?_
              refine mg_rowTriples C i3 (by decide +kernel) dX3_commit_172 ?_
              first | refine g_aload_n C dX3_commit_175 rfl ?_ | refine g_aload_nq C _ dX3_commit_175 rfl ?_
              refine mg_rows C i3 (by decide +kernel) dX3_commit_176 ?_
              refine g_iload C dX3_commit_179 rfl ?_
              refine ms_rowTriples C dX3_commit_181 (show W 3 0 < 13000 by omega) ?_
              first | refine g_aload_n C dX3_commit_182 rfl ?_ | refine g_aload_nq C _ dX3_commit_182 rfl ?_
              refine mg_rowVersions C i3 (by decide +kernel) dX3_commit_183 ?_
              first | refine g_aload_n C dX3_commit_186 rfl ?_ | refine g_aload_nq C _ dX3_commit_186 rfl ?_
              refine mg_rows C i3 (by decide +kernel) dX3_commit_187 ?_
              refine g_iload C dX3_commit_190 rfl ?_
              refine ms_rowVersions C dX3_commit_192 (show W 3 0 < 13000 by omega) ?_
              first | refine g_aload_n C dX3_commit_193 rfl ?_ | refine g_aload_nq C _ dX3_commit_193 rfl ?_
              refine mg_rowTells C i3 (by decide +kernel) dX3_commit_194 ?_
              first | refine g_aload_n C dX3_commit_197 rfl ?_ | refine g_aload_nq C _ dX3_commit_197 rfl ?_
              refine mg_rows C i3 (by decide +kernel) dX3_commit_198 ?_
              refine g_iload C dX3_commit_201 rfl ?_
              refine g_iconst C 2 dX3_commit_203 (by decide) ?_
              refine g_icmp_ne C 211 dX3_commit_204 (by decide) (bd hW hN _ _) (by decide) (fun c204 => ?_) (fun c204 => ?_)
              · refine g_iconst C 0 dX3_commit_211 (by decide) ?_
                refine ms_rowTells C (by omega) dX3_commit_212 (show W 3 0 < 13000 by omega) ?_
                first | refine g_aload_n C dX3_commit_213 rfl ?_ | refine g_aload_nq C _ dX3_commit_213 rfl ?_
                refine g_dup C dX3_commit_214 (by first | rfl | exact vcat_rf _) ?_
                refine mg_rows C i3 (by decide +kernel) dX3_commit_215 ?_
                refine g_iconst C 1 dX3_commit_218 (by decide) ?_
                first | refine g_iadd C dX3_commit_219 ?_ | refine g_iaddx C dX3_commit_219 ?_
                refine mp_rows C i3 (by decide +kernel) dX3_commit_220 ?_
                refine g_iload C dX3_commit_223 rfl ?_
                refine g_istore C dX3_commit_225 (by decide) ?_
                refine g_iinc C dX3_commit_227 rfl (by decide) ?_
                refine g_goto C 114 dX3_commit_230 (by decide) ?_
                have ht9 : vThB W i (W 7 j) = true := by exact (vThB_iff W i _).mpr h162
                have hyc : vChB W j i = true := by unfold vChB; rw [decide_eq_true (show 0 < W 10 (200 * j + i) from c139), decide_eq_false (show ¬ W 10 (200 * j + i) = 2 from c145), ht9]; rfl
                have hst : vRws U j (U 4 0 + 1) (i + 1) = vAdd1 W i (U 4 0 + 1) 0 := by rw [hnext, hyc, if_pos rfl, if_neg (show ¬ U 10 (200 * j + i) = 2 by rw [← hk10]; exact c145)]
                have ih9 := ih _ (by omega) (i + 1) rfl (by omega)
                rw [hst] at ih9
                rw [if_neg (show ¬ vAdd1 W i (U 4 0 + 1) 0 3 0 = U 3 0 by unfold vAdd1; rw [u2_same]; omega)] at ih9
                exact g_lv (lv' := [(0, .ref (xm 0)), (1, .int (nI j)), (2, .int (nI 1)), (3, .int (nI gg - 1)), (4, _), (5, .int (nI (U 4 0 + 1))), (6, .int (nI (i + 1)))]) (fun q hq => List.mem_append_left [(7, _)] hq) ih9
              · exact absurd c204 c145
            · refine g_icmp_ne C 171 dX3_commit_165 (by decide) (by decide) (by decide) (fun c165 => absurd c165 (by decide)) (fun c165 => ?_)
              refine g_goto C 227 dX3_commit_168 (by decide) ?_
              refine g_iinc C dX3_commit_227 rfl (by decide) ?_
              refine g_goto C 114 dX3_commit_230 (by decide) ?_
              have ht9 : vThB W i (W 7 j) = false := by cases hz : vThB W i (W 7 j) with | false => rfl | true => exact absurd ((vThB_iff W i _).mp hz) h162
              have hnc : vChB W j i = false := by unfold vChB; rw [decide_eq_true (show 0 < W 10 (200 * j + i) from c139), decide_eq_false (show ¬ W 10 (200 * j + i) = 2 from c145), ht9]; rfl
              have hst : vRws U j (U 4 0 + 1) (i + 1) = W := by rw [hnext, hnc]; rfl
              have ih9 := ih _ (by omega) (i + 1) rfl (by omega)
              rw [hst] at ih9
              exact g_lv (lv' := [(0, .ref (xm 0)), (1, .int (nI j)), (2, .int (nI 1)), (3, .int (nI gg - 1)), (4, _), (5, .int (nI (U 4 0 + 1))), (6, .int (nI (i + 1)))]) (fun q hq => List.mem_append_left [(7, _)] hq) ih9
          · refine g_iconst C 1 dX3_commit_148 (by decide) ?_
            refine g_goto C 153 dX3_commit_149 (by decide) ?_
            first | refine g_aload_n C dX3_commit_153 rfl ?_ | refine g_aload_nq C _ dX3_commit_153 rfl ?_
            refine g_iload C dX3_commit_154 rfl ?_
            first | refine g_aload_n C dX3_commit_156 rfl ?_ | refine g_aload_nq C _ dX3_commit_156 rfl ?_
            refine mg_sees C i3 (by decide +kernel) dX3_commit_157 ?_
            refine g_iload_n C dX3_commit_160 rfl ?_
            refine ml_sees C dX3_commit_161 (by omega) ?_
            refine g_callM C (k_X3_isThere l D g A xm _ hW hN i (W 7 j) (by omega) (by have := hW 7 j; omega) (by omega)) gX3_commit_X3_isThere dX3_commit_162 (n := 2) rfl rfl rfl (by decide +kernel) ⟨Nat.le_of_ble_eq_true rfl, Nat.le_of_ble_eq_true rfl⟩ rfl rfl (Nat.le_of_ble_eq_true rfl) ⟨Nat.le_refl _, Nat.le_refl _⟩ (fun r V1 hq => ?_)
            obtain ⟨e9, hq⟩ := hq
            rw [e9]
            rcases hq with ⟨h162, rfl⟩ | ⟨h162, rfl⟩
            · refine g_icmp_ne C 171 dX3_commit_165 (by decide) (by decide) (by decide) (fun c165 => absurd c165 (by decide)) (fun c165 => ?_)
              refine g_goto C 227 dX3_commit_168 (by decide) ?_
              refine g_iinc C dX3_commit_227 rfl (by decide) ?_
              refine g_goto C 114 dX3_commit_230 (by decide) ?_
              have ht9 : vThB W i (W 7 j) = true := by exact (vThB_iff W i _).mpr h162
              have hnc : vChB W j i = false := by unfold vChB; rw [decide_eq_true (show 0 < W 10 (200 * j + i) from c139), decide_eq_true (show W 10 (200 * j + i) = 2 from c145), ht9]; rfl
              have hst : vRws U j (U 4 0 + 1) (i + 1) = W := by rw [hnext, hnc]; rfl
              have ih9 := ih _ (by omega) (i + 1) rfl (by omega)
              rw [hst] at ih9
              exact g_lv (lv' := [(0, .ref (xm 0)), (1, .int (nI j)), (2, .int (nI 1)), (3, .int (nI gg - 1)), (4, _), (5, .int (nI (U 4 0 + 1))), (6, .int (nI (i + 1)))]) (fun q hq => List.mem_append_left [(7, _)] hq) ih9
            · refine g_icmp_ne C 171 dX3_commit_165 (by decide) (by decide) (by decide) (fun c165 => ?_) (fun c165 => absurd c165 (by decide))
              first | refine g_aload_n C dX3_commit_171 rfl ?_ | refine g_aload_nq C _ dX3_commit_171 rfl ?_
              refine mg_rowTriples C i3 (by decide +kernel) dX3_commit_172 ?_
              first | refine g_aload_n C dX3_commit_175 rfl ?_ | refine g_aload_nq C _ dX3_commit_175 rfl ?_
              refine mg_rows C i3 (by decide +kernel) dX3_commit_176 ?_
              refine g_iload C dX3_commit_179 rfl ?_
              refine ms_rowTriples C dX3_commit_181 (show W 3 0 < 13000 by omega) ?_
              first | refine g_aload_n C dX3_commit_182 rfl ?_ | refine g_aload_nq C _ dX3_commit_182 rfl ?_
              refine mg_rowVersions C i3 (by decide +kernel) dX3_commit_183 ?_
              first | refine g_aload_n C dX3_commit_186 rfl ?_ | refine g_aload_nq C _ dX3_commit_186 rfl ?_
              refine mg_rows C i3 (by decide +kernel) dX3_commit_187 ?_
              refine g_iload C dX3_commit_190 rfl ?_
              refine ms_rowVersions C dX3_commit_192 (show W 3 0 < 13000 by omega) ?_
              first | refine g_aload_n C dX3_commit_193 rfl ?_ | refine g_aload_nq C _ dX3_commit_193 rfl ?_
              refine mg_rowTells C i3 (by decide +kernel) dX3_commit_194 ?_
              first | refine g_aload_n C dX3_commit_197 rfl ?_ | refine g_aload_nq C _ dX3_commit_197 rfl ?_
              refine mg_rows C i3 (by decide +kernel) dX3_commit_198 ?_
              refine g_iload C dX3_commit_201 rfl ?_
              refine g_iconst C 2 dX3_commit_203 (by decide) ?_
              refine g_icmp_ne C 211 dX3_commit_204 (by decide) (bd hW hN _ _) (by decide) (fun c204 => ?_) (fun c204 => ?_)
              · exact absurd c145 c204
              · refine g_iconst C 1 dX3_commit_207 (by decide) ?_
                refine g_goto C 212 dX3_commit_208 (by decide) ?_
                refine ms_rowTells C (by omega) dX3_commit_212 (show W 3 0 < 13000 by omega) ?_
                first | refine g_aload_n C dX3_commit_213 rfl ?_ | refine g_aload_nq C _ dX3_commit_213 rfl ?_
                refine g_dup C dX3_commit_214 (by first | rfl | exact vcat_rf _) ?_
                refine mg_rows C i3 (by decide +kernel) dX3_commit_215 ?_
                refine g_iconst C 1 dX3_commit_218 (by decide) ?_
                first | refine g_iadd C dX3_commit_219 ?_ | refine g_iaddx C dX3_commit_219 ?_
                refine mp_rows C i3 (by decide +kernel) dX3_commit_220 ?_
                refine g_iload C dX3_commit_223 rfl ?_
                refine g_istore C dX3_commit_225 (by decide) ?_
                refine g_iinc C dX3_commit_227 rfl (by decide) ?_
                refine g_goto C 114 dX3_commit_230 (by decide) ?_
                have ht9 : vThB W i (W 7 j) = false := by cases hz : vThB W i (W 7 j) with | false => rfl | true => exact absurd ((vThB_iff W i _).mp hz) h162
                have hyc : vChB W j i = true := by unfold vChB; rw [decide_eq_true (show 0 < W 10 (200 * j + i) from c139), decide_eq_true (show W 10 (200 * j + i) = 2 from c145), ht9]; rfl
                have hst : vRws U j (U 4 0 + 1) (i + 1) = vAdd1 W i (U 4 0 + 1) 1 := by rw [hnext, hyc, if_pos rfl, if_pos (show U 10 (200 * j + i) = 2 by rw [← hk10]; exact c145)]
                have ih9 := ih _ (by omega) (i + 1) rfl (by omega)
                rw [hst] at ih9
                rw [if_neg (show ¬ vAdd1 W i (U 4 0 + 1) 1 3 0 = U 3 0 by unfold vAdd1; rw [u2_same]; omega)] at ih9
                exact g_lv (lv' := [(0, .ref (xm 0)), (1, .int (nI j)), (2, .int (nI 1)), (3, .int (nI gg - 1)), (4, _), (5, .int (nI (U 4 0 + 1))), (6, .int (nI (i + 1)))]) (fun q hq => List.mem_append_left [(7, _)] hq) ih9
  first | refine g_aload_n C dX3_commit_0 rfl ?_ | refine g_aload_nq C _ dX3_commit_0 rfl ?_
  refine g_iload_n C dX3_commit_1 rfl ?_
  refine g_callM C (k_X3_isTransaction l D g A xm _ hB hN x) gX3_commit_X3_isTransaction dX3_commit_2 (n := 1) rfl rfl rfl (by decide +kernel) ⟨Nat.le_of_ble_eq_true rfl, Nat.le_of_ble_eq_true rfl⟩ rfl rfl (Nat.le_of_ble_eq_true rfl) ⟨Nat.le_refl _, Nat.le_refl _⟩ (fun r V1 hq => ?_)
  obtain ⟨e9, hq⟩ := hq
  rw [e9]
  rcases hq with ⟨h2, rfl⟩ | ⟨h2, rfl⟩
  · refine g_istore_n C dX3_commit_5 (by decide) ?_
    first | refine g_aload_n C dX3_commit_6 rfl ?_ | refine g_aload_nq C _ dX3_commit_6 rfl ?_
    refine g_iload_n C dX3_commit_7 rfl ?_
    refine g_iload_n C dX3_commit_8 rfl ?_
    refine g_if_eq C 34 dX3_commit_9 (by decide) (by decide) (fun c9 => absurd c9 (by decide)) (fun c9 => ?_)
    obtain ⟨j, hj1, hj, rfl⟩ := inR_ex h2
    first | refine g_aload_n C dX3_commit_12 rfl ?_ | refine g_aload_nq C _ dX3_commit_12 rfl ?_
    refine g_iload_n C dX3_commit_13 rfl ?_
    refine g_callM C (k_X3_isLive l D g A xm _ hB hN j (by omega)) gX3_commit_X3_isLive dX3_commit_14 (n := 1) rfl rfl rfl (by decide +kernel) ⟨Nat.le_of_ble_eq_true rfl, Nat.le_of_ble_eq_true rfl⟩ rfl rfl (Nat.le_of_ble_eq_true rfl) ⟨Nat.le_refl _, Nat.le_refl _⟩ (fun r V1 hq => ?_)
    obtain ⟨e9, hq⟩ := hq
    rw [e9]
    rcases hq with ⟨h14, rfl⟩ | ⟨h14, rfl⟩
    · refine g_if_eq C 34 dX3_commit_17 (by decide) (by decide) (fun c17 => absurd c17 (by decide)) (fun c17 => ?_)
      first | refine g_aload_n C dX3_commit_20 rfl ?_ | refine g_aload_nq C _ dX3_commit_20 rfl ?_
      refine mg_states C i3 (by decide +kernel) dX3_commit_21 ?_
      refine g_iload_n C dX3_commit_24 rfl ?_
      refine ml_states C dX3_commit_25 (by omega) ?_
      refine g_iconst C 1 dX3_commit_26 (by decide) ?_
      refine g_icmp_eq C 34 dX3_commit_27 (by decide) (bd hB hN _ _) (by decide) (fun c27 => ?_) (fun c27 => ?_)
      · refine g_iconst C 0 dX3_commit_34 (by decide) ?_
        refine g_callM C (k_X3_fails l D g A xm _ 1 0 (by decide) (by decide)) gX3_commit_X3_fails dX3_commit_35 (n := 2) rfl rfl rfl (by decide +kernel) ⟨Nat.le_of_ble_eq_true rfl, Nat.le_of_ble_eq_true rfl⟩ rfl rfl (Nat.le_of_ble_eq_true rfl) ⟨Nat.le_refl _, Nat.le_refl _⟩ (fun r V1 hq => ?_)
        obtain ⟨rfl, rfl⟩ : V1 = u2 (V) 25 0 2 ∧ r = some (.int (nI 1)) := by
          rcases hq with ⟨h7, h8, h1, h2⟩ | ⟨h7, h9, h1, h2⟩ | ⟨h9, h1, h2⟩
          · exact absurd h8 (by decide)
          · exact ⟨h1, h2⟩
          · exact absurd h9 (by decide)
        refine g_if_eq C 43 dX3_commit_38 (by decide) (by decide) (fun c38 => absurd c38 (by decide)) (fun c38 => ?_)
        refine g_iconst C 0 dX3_commit_41 (by decide) ?_
        exact g_iret C dX3_commit_42 rfl (⟨_, rfl, Or.inr (Or.inr (Or.inl ⟨h2, by rw [ix_nI hj]; exact fun q => q.2 c27, rfl, rfl⟩))⟩)
      · refine g_iconst C 1 dX3_commit_30 (by decide) ?_
        refine g_goto C 35 dX3_commit_31 (by decide) ?_
        refine g_callM C (k_X3_fails l D g A xm _ 1 1 (by decide) (by decide)) gX3_commit_X3_fails dX3_commit_35 (n := 2) rfl rfl rfl (by decide +kernel) ⟨Nat.le_of_ble_eq_true rfl, Nat.le_of_ble_eq_true rfl⟩ rfl rfl (Nat.le_of_ble_eq_true rfl) ⟨Nat.le_refl _, Nat.le_refl _⟩ (fun r V1 hq => ?_)
        obtain ⟨rfl, rfl⟩ : V1 = u2 (V) 25 0 0 ∧ r = some (.int (nI 0)) := by
          rcases hq with ⟨h7, h8, h1, h2⟩ | ⟨h7, h9, h1, h2⟩ | ⟨h9, h1, h2⟩
          · exact ⟨h1, h2⟩
          · exact absurd h9 (by decide)
          · exact absurd h9 (by decide)
        refine g_if_eq C 43 dX3_commit_38 (by decide) (by decide) (fun c38 => ?_) (fun c38 => absurd c38 (by decide))
        refine g_ws (congrArg (mW g xm) hU.symm) ?_
        have hcl := vCh_le U j 4 0
        first | refine g_aload_n C dX3_commit_43 rfl ?_ | refine g_aload_nq C _ dX3_commit_43 rfl ?_
        refine g_iload_n C dX3_commit_44 rfl ?_
        refine g_callM C (k_X3_changed l D g A xm _ hBU hN (by rw [e3]; omega) hIU.2.2.2.2.2.2.2.2.2 j (by omega)) gX3_commit_X3_changed dX3_commit_45 (n := 1) rfl rfl rfl (by decide +kernel) ⟨Nat.le_of_ble_eq_true rfl, Nat.le_of_ble_eq_true rfl⟩ rfl rfl (Nat.le_of_ble_eq_true rfl) ⟨Nat.le_refl _, Nat.le_refl _⟩ (fun r V1 hq => ?_)
        obtain ⟨e9, rfl⟩ := hq
        rw [e9]
        refine g_istore_n C dX3_commit_48 (by decide) ?_
        first | refine g_aload_n C dX3_commit_49 rfl ?_ | refine g_aload_nq C _ dX3_commit_49 rfl ?_
        refine mg_states C i3 (by decide +kernel) dX3_commit_50 ?_
        refine g_iload_n C dX3_commit_53 rfl ?_
        refine ml_states C dX3_commit_54 (by omega) ?_
        refine g_iconst C 2 dX3_commit_55 (by decide) ?_
        refine g_icmp_eq C 63 dX3_commit_56 (by decide) (bd hBU hN _ _) (by decide) (fun c56 => ?_) (fun c56 => ?_)
        · first | refine g_aload_n C dX3_commit_63 rfl ?_ | refine g_aload_nq C _ dX3_commit_63 rfl ?_
          refine mg_states C i3 (by decide +kernel) dX3_commit_64 ?_
          refine g_iload_n C dX3_commit_67 rfl ?_
          refine ml_states C dX3_commit_68 (by omega) ?_
          refine g_iconst C 2 dX3_commit_69 (by decide) ?_
          refine g_icmp_eq C 83 dX3_commit_70 (by decide) (bd hBU hN _ _) (by decide) (fun c70 => ?_) (fun c70 => ?_)
          · have h8f : V 8 j = 2 := by rw [← e8]; exact c56
            have hRf : vRef U j = U := by unfold vRef; rw [if_pos c56]
            have hBR := BdN.refV (j := j) hBU
            have hR16 : vRef U j 16 0 = V 16 0 := by unfold vRef; split; exact e16; exact e16
            have hR20 : vRef U j 20 0 = V 20 0 := by unfold vRef; split; exact e20; exact e20
            have hR8 : vRef U j 8 j = V 8 j := by unfold vRef; split; exact e8 j; exact e8 j
            have hI1 := (hIU.refV (j := j)).endV (t := j) (z := 4) (by rw [hR16]; exact hj1) (by rw [hR8]; exact h14) (by decide)
            have hB1 := BdN.endV (t := j) (z := 4) hBR (by rw [hR16]; exact hC) (by rw [hR20]; omega) (by omega) (by decide)
            refine g_ws (congrArg (mW g xm) hRf.symm) ?_
            first | refine g_aload_n C dX3_commit_83 rfl ?_ | refine g_aload_nq C _ dX3_commit_83 rfl ?_
            refine g_iload_n C dX3_commit_84 rfl ?_
            refine g_iconst C 4 dX3_commit_85 (by decide) ?_
            refine g_callM C (k_X3_end l D g A xm _ hBR (by omega) (by omega) (by rw [hR16]; exact hC) (by rw [hR20]; omega) j 4 (by omega) (by decide)) gX3_commit_X3_end dX3_commit_86 (n := 2) rfl rfl rfl (by decide +kernel) ⟨Nat.le_of_ble_eq_true rfl, Nat.le_of_ble_eq_true rfl⟩ rfl rfl (Nat.le_of_ble_eq_true rfl) ⟨Nat.le_refl _, Nat.le_refl _⟩ (fun r V1 hq => ?_)
            obtain ⟨e9, e10⟩ := hq
            rw [e9, e10]
            first | refine g_aload_n C dX3_commit_89 rfl ?_ | refine g_aload_nq C _ dX3_commit_89 rfl ?_
            refine g_callM C (k_X3_goOn l D g A xm _ hB1 (by omega) (by omega) hI1 (by omega)) gX3_commit_X3_goOn dX3_commit_90 (n := 0) rfl rfl rfl (by decide +kernel) ⟨Nat.le_of_ble_eq_true rfl, Nat.le_of_ble_eq_true rfl⟩ rfl rfl (Nat.le_of_ble_eq_true rfl) ⟨Nat.le_refl _, Nat.le_refl _⟩ (fun r V1 hq => ?_)
            obtain ⟨e9, e10⟩ := hq
            rw [e9, e10]
            refine g_iconst C 0 dX3_commit_93 (by decide) ?_
            exact g_iret C dX3_commit_94 rfl (⟨_, rfl, Or.inl ⟨h2, by rw [ix_nI hj]; exact ⟨h14, c27⟩, by rw [ix_nI hj, ← hU]; exact Or.inl h8f, by rw [ix_nI hj, ← hU], rfl⟩⟩)
          · exact absurd c56 c70
        · refine g_iload_n C dX3_commit_59 rfl ?_
          refine g_ifx_lt C 95 dX3_commit_60 (by decide) (fun c60 => ?_) (fun c60 => ?_)
          · have c60 : vCh U j 4 0 = 0 := (sh_lt (by omega)).mp c60
            first | refine g_aload_n C dX3_commit_95 rfl ?_ | refine g_aload_nq C _ dX3_commit_95 rfl ?_
            refine mg_sees C i3 (by decide +kernel) dX3_commit_96 ?_
            refine g_iload_n C dX3_commit_99 rfl ?_
            refine ml_sees C dX3_commit_100 (by omega) ?_
            refine g_istore C dX3_commit_101 (by decide) ?_
            first | refine g_aload_n C dX3_commit_103 rfl ?_ | refine g_aload_nq C _ dX3_commit_103 rfl ?_
            refine mg_latest C i3 (by decide +kernel) dX3_commit_104 ?_
            refine g_iconst C 1 dX3_commit_107 (by decide) ?_
            first | refine g_iadd C dX3_commit_108 ?_ | refine g_iaddx C dX3_commit_108 ?_
            refine g_istore C dX3_commit_109 (by decide) ?_
            refine g_iconst C 0 dX3_commit_111 (by decide) ?_
            refine g_istore C dX3_commit_112 (by decide) ?_
            have hnum0 : (if vRws U j (U 4 0 + 1) 0 3 0 = U 3 0 then U 7 j else U 4 0 + 1) = U 7 j := if_pos rfl
            have f9 := fin j (vCh U j 4 0) hj1 hj h14 c27 (fun z9 => z9.elim (fun z => c56 (by rw [e8]; exact z)) (fun z => by omega)) rfl _ 0 rfl (by omega)
            rw [hnum0] at f9
            exact f9
          · have c60p : 0 < vCh U j 4 0 := Nat.pos_of_ne_zero (fun z9 => c60 ((sh_lt (by omega)).mpr z9))
            first | refine g_aload_n C dX3_commit_63 rfl ?_ | refine g_aload_nq C _ dX3_commit_63 rfl ?_
            refine mg_states C i3 (by decide +kernel) dX3_commit_64 ?_
            refine g_iload_n C dX3_commit_67 rfl ?_
            refine ml_states C dX3_commit_68 (by omega) ?_
            refine g_iconst C 2 dX3_commit_69 (by decide) ?_
            refine g_icmp_eq C 83 dX3_commit_70 (by decide) (bd hBU hN _ _) (by decide) (fun c70 => ?_) (fun c70 => ?_)
            · exact absurd c70 c56
            · first | refine g_aload_n C dX3_commit_73 rfl ?_ | refine g_aload_nq C _ dX3_commit_73 rfl ?_
              refine mg_refusals C i3 (by decide +kernel) dX3_commit_74 ?_
              refine g_iload_n C dX3_commit_77 rfl ?_
              refine g_top C (sh_pos c60p) ?_
              refine g_dup2 C dX3_commit_78 (by first | rfl | exact vcat_rf _) (by first | rfl | exact vcat_rf _) ?_
              refine ml_refusals C dX3_commit_79 (by omega) ?_
              refine g_iconst C 1 dX3_commit_80 (by decide) ?_
              first | refine g_iadd C dX3_commit_81 ?_ | refine g_iaddx C dX3_commit_81 ?_
              refine ms_refusals C dX3_commit_82 (by omega) ?_
              have hRf : vRef U j = u2 U 24 (vCh U j 4 0 - 1) (U 24 (vCh U j 4 0 - 1) + 1) := by unfold vRef; rw [if_neg c56]
              have hBR := BdN.refV (j := j) hBU
              have hR16 : vRef U j 16 0 = V 16 0 := by unfold vRef; split; exact e16; exact e16
              have hR20 : vRef U j 20 0 = V 20 0 := by unfold vRef; split; exact e20; exact e20
              have hR8 : vRef U j 8 j = V 8 j := by unfold vRef; split; exact e8 j; exact e8 j
              have hI1 := (hIU.refV (j := j)).endV (t := j) (z := 4) (by rw [hR16]; exact hj1) (by rw [hR8]; exact h14) (by decide)
              have hB1 := BdN.endV (t := j) (z := 4) hBR (by rw [hR16]; exact hC) (by rw [hR20]; omega) (by omega) (by decide)
              refine g_ws (congrArg (mW g xm) hRf.symm) ?_
              first | refine g_aload_n C dX3_commit_83 rfl ?_ | refine g_aload_nq C _ dX3_commit_83 rfl ?_
              refine g_iload_n C dX3_commit_84 rfl ?_
              refine g_iconst C 4 dX3_commit_85 (by decide) ?_
              refine g_callM C (k_X3_end l D g A xm _ hBR (by omega) (by omega) (by rw [hR16]; exact hC) (by rw [hR20]; omega) j 4 (by omega) (by decide)) gX3_commit_X3_end dX3_commit_86 (n := 2) rfl rfl rfl (by decide +kernel) ⟨Nat.le_of_ble_eq_true rfl, Nat.le_of_ble_eq_true rfl⟩ rfl rfl (Nat.le_of_ble_eq_true rfl) ⟨Nat.le_refl _, Nat.le_refl _⟩ (fun r V1 hq => ?_)
              obtain ⟨e9, e10⟩ := hq
              rw [e9, e10]
              first | refine g_aload_n C dX3_commit_89 rfl ?_ | refine g_aload_nq C _ dX3_commit_89 rfl ?_
              refine g_callM C (k_X3_goOn l D g A xm _ hB1 (by omega) (by omega) hI1 (by omega)) gX3_commit_X3_goOn dX3_commit_90 (n := 0) rfl rfl rfl (by decide +kernel) ⟨Nat.le_of_ble_eq_true rfl, Nat.le_of_ble_eq_true rfl⟩ rfl rfl (Nat.le_of_ble_eq_true rfl) ⟨Nat.le_refl _, Nat.le_refl _⟩ (fun r V1 hq => ?_)
              obtain ⟨e9, e10⟩ := hq
              rw [e9, e10]
              refine g_iconst C 0 dX3_commit_93 (by decide) ?_
              exact g_iret C dX3_commit_94 rfl (⟨_, rfl, Or.inl ⟨h2, by rw [ix_nI hj]; exact ⟨h14, c27⟩, by rw [ix_nI hj, ← hU]; exact Or.inr c60p, by rw [ix_nI hj, ← hU], rfl⟩⟩)
    · refine g_if_eq C 34 dX3_commit_17 (by decide) (by decide) (fun c17 => ?_) (fun c17 => absurd c17 (by decide))
      refine g_iconst C 0 dX3_commit_34 (by decide) ?_
      refine g_callM C (k_X3_fails l D g A xm _ 1 0 (by decide) (by decide)) gX3_commit_X3_fails dX3_commit_35 (n := 2) rfl rfl rfl (by decide +kernel) ⟨Nat.le_of_ble_eq_true rfl, Nat.le_of_ble_eq_true rfl⟩ rfl rfl (Nat.le_of_ble_eq_true rfl) ⟨Nat.le_refl _, Nat.le_refl _⟩ (fun r V1 hq => ?_)
      obtain ⟨rfl, rfl⟩ : V1 = u2 (V) 25 0 2 ∧ r = some (.int (nI 1)) := by
        rcases hq with ⟨h7, h8, h1, h2⟩ | ⟨h7, h9, h1, h2⟩ | ⟨h9, h1, h2⟩
        · exact absurd h8 (by decide)
        · exact ⟨h1, h2⟩
        · exact absurd h9 (by decide)
      refine g_if_eq C 43 dX3_commit_38 (by decide) (by decide) (fun c38 => absurd c38 (by decide)) (fun c38 => ?_)
      refine g_iconst C 0 dX3_commit_41 (by decide) ?_
      exact g_iret C dX3_commit_42 rfl (⟨_, rfl, Or.inr (Or.inr (Or.inl ⟨h2, by rw [ix_nI hj]; exact fun q => absurd q.1 (Nat.not_lt.mpr h14), rfl, rfl⟩))⟩)
  · refine g_istore_n C dX3_commit_5 (by decide) ?_
    first | refine g_aload_n C dX3_commit_6 rfl ?_ | refine g_aload_nq C _ dX3_commit_6 rfl ?_
    refine g_iload_n C dX3_commit_7 rfl ?_
    refine g_iload_n C dX3_commit_8 rfl ?_
    refine g_if_eq C 34 dX3_commit_9 (by decide) (by decide) (fun c9 => ?_) (fun c9 => absurd c9 (by decide))
    refine g_iconst C 0 dX3_commit_34 (by decide) ?_
    refine g_callM C (k_X3_fails l D g A xm _ 0 0 (by decide) (by decide)) gX3_commit_X3_fails dX3_commit_35 (n := 2) rfl rfl rfl (by decide +kernel) ⟨Nat.le_of_ble_eq_true rfl, Nat.le_of_ble_eq_true rfl⟩ rfl rfl (Nat.le_of_ble_eq_true rfl) ⟨Nat.le_refl _, Nat.le_refl _⟩ (fun r V1 hq => ?_)
    obtain ⟨rfl, rfl⟩ : V1 = u2 (V) 25 0 1 ∧ r = some (.int (nI 1)) := by
      rcases hq with ⟨h7, h8, h1, h2⟩ | ⟨h7, h9, h1, h2⟩ | ⟨h9, h1, h2⟩
      · exact absurd h7 (by decide)
      · exact absurd h7 (by decide)
      · exact ⟨h1, h2⟩
    refine g_if_eq C 43 dX3_commit_38 (by decide) (by decide) (fun c38 => absurd c38 (by decide)) (fun c38 => ?_)
    refine g_iconst C 0 dX3_commit_41 (by decide) ?_
    exact g_iret C dX3_commit_42 rfl (⟨_, rfl, Or.inr (Or.inr (Or.inr ⟨h2, rfl, rfl⟩))⟩)
