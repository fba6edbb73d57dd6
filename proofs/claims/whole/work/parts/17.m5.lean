theorem vEnq_stop {V : VV} {t lp : Nat} (h : vNx V t lp (V 16 0) = 0) : ∀ f, vEnq f V t lp = V
  | 0 => rfl
  | f + 1 => by
    unfold vEnq
    rw [if_pos h]
theorem vEnq_go {V : VV} {t lp : Nat} (h : 0 < vNx V t lp (V 16 0)) (f : Nat) : vEnq (f + 1) V t lp = vEnq f (vPush V (vNx V t lp (V 16 0) - 1)) t (V 14 (vNx V t lp (V 16 0) - 1) + 1) := by
  show (if vNx V t lp (V 16 0) = 0 then V else _) = _
  rw [if_neg (by omega)]
set_option maxRecDepth 100000 in
set_option maxHeartbeats 1000000 in
theorem k_X3_writes (l : Launch) (D : va_G) (g : Nat → ClassId) (A : Nat → Prop) (xm : Nat → Nat) (V : VV) {N : Nat} (hB : BdN V N) (hN : N ≤ 2 ^ 30) (t : Nat) (ht : t < 60) : MC l yX3_writes wsX3_writes ({ frames := 0, cells := 0, slots := 0, locals := 0 } : Room) D g A xm [.ref (xm 0), .int (nI t)] V (fun r V1 => V1 = V ∧ r = some (.int (nI (vWc V t 200)))) := by
  refine k_ofW [(0, .ref (xm 0)), (1, .int (nI t))] (by decide) rfl (Nat.le_of_ble_eq_true rfl) rfl (by simp [Value.category]) ?_
  intro p e s m args below meth c C
  have i3 : ∀ w ∈ wsX30, w ∈ wsX3_writes := by decide +kernel
  have loop : ∀ (n i : Nat), 200 - i = n → i ≤ 200 → GG p l e ({ frames := 0, cells := 0, slots := 0, locals := 0 } : Room) s m args below meth c (mQ below D g A xm args s (fun r V1 => V1 = V ∧ r = some (.int (nI (vWc V t 200))))) 4 D A s.heap (mW g xm (V)) 0 0 4 [(0, .ref (xm 0)), (1, .int (nI t)), (2, .int (nI (vWc V t i))), (3, .int (nI i))] [] := by
    intro n
    induction n using Nat.strongRecOn with
    | _ n ih =>
      intro i hn hi
      refine g_iload_n C dX3_writes_4 rfl ?_
      refine g_sipush C 200 dX3_writes_5 (by decide) ?_
      refine g_icmp_ge C 40 dX3_writes_8 (by decide) (by omega) (by decide) (fun c8 => ?_) (fun c8 => ?_)
      · refine g_iload_n C dX3_writes_40 rfl ?_
        exact g_iret C dX3_writes_41 rfl (⟨V, rfl, rfl, by rw [show i = 200 by omega]⟩)
      · refine g_iload_n C dX3_writes_11 rfl ?_
        first | refine g_aload_n C dX3_writes_12 rfl ?_ | refine g_aload_nq C _ dX3_writes_12 rfl ?_
        refine mg_wrote C i3 (by decide +kernel) dX3_writes_13 ?_
        refine g_sipush C 200 dX3_writes_16 (by decide) ?_
        refine g_iload_n C dX3_writes_19 rfl ?_
        refine g_imul C dX3_writes_20 ?_
        refine g_iload_n C dX3_writes_21 rfl ?_
        first | refine g_iadd C dX3_writes_22 ?_ | refine g_iaddx C dX3_writes_22 ?_
        refine ml_wrote C dX3_writes_23 (by omega) ?_
        refine g_if_le C 31 dX3_writes_24 (by decide) (bd hB hN _ _) (fun c24 => ?_) (fun c24 => ?_)
        · refine g_iconst C 0 dX3_writes_31 (by decide) ?_
          first | refine g_iadd C dX3_writes_32 ?_ | refine g_iaddx C dX3_writes_32 ?_
          refine g_istore_n C dX3_writes_33 (by decide) ?_
          refine g_iinc C dX3_writes_34 rfl (by decide) ?_
          refine g_goto C 4 dX3_writes_37 (by decide) ?_
          rw [show vWc V t i + 0 = vWc V t (i + 1) by show _ = vWc V t i + (if 0 < V 10 (200 * t + i) then 1 else 0); rw [if_neg (by have c24 : V 10 (200 * t + i) = 0 := c24; omega)]]
          exact ih _ (by omega) (i + 1) rfl (by omega)
        · refine g_iconst C 1 dX3_writes_27 (by decide) ?_
          refine g_goto C 32 dX3_writes_28 (by decide) ?_
          first | refine g_iadd C dX3_writes_32 ?_ | refine g_iaddx C dX3_writes_32 ?_
          refine g_istore_n C dX3_writes_33 (by decide) ?_
          refine g_iinc C dX3_writes_34 rfl (by decide) ?_
          refine g_goto C 4 dX3_writes_37 (by decide) ?_
          rw [show vWc V t i + 1 = vWc V t (i + 1) by show _ = vWc V t i + (if 0 < V 10 (200 * t + i) then 1 else 0); rw [if_pos c24]]
          exact ih _ (by omega) (i + 1) rfl (by omega)
  refine g_iconst C 0 dX3_writes_0 (by decide) ?_
  refine g_istore_n C dX3_writes_1 (by decide) ?_
  refine g_iconst C 0 dX3_writes_2 (by decide) ?_
  refine g_istore_n C dX3_writes_3 (by decide) ?_
  exact loop _ 0 rfl (Nat.zero_le _)
set_option maxRecDepth 100000 in
set_option maxHeartbeats 1000000 in
theorem k_X3_changed (l : Launch) (D : va_G) (g : Nat → ClassId) (A : Nat → Prop) (xm : Nat → Nat) (V : VV) {N : Nat} (hB : BdN V N) (hN : N ≤ 2 ^ 30) (hR : V 3 0 ≤ 13000) (hM : ∀ j, V 9 j < 16) (t : Nat) (ht : t < 60) : MC l yX3_changed wsX3_changed ({ frames := 1, cells := 0, slots := 0, locals := 23 } : Room) D g A xm [.ref (xm 0), .int (nI t)] V (fun r V1 => V1 = V ∧ r = some (.int (nI (vCh V t 4 0) - 1))) := by
  refine k_ofW [(0, .ref (xm 0)), (1, .int (nI t))] (by decide) rfl (Nat.le_of_ble_eq_true rfl) rfl (by simp [Value.category]) ?_
  intro p e s m args below meth c C
  have i3 : ∀ w ∈ wsX30, w ∈ wsX3_changed := by decide +kernel
  have hs7 := hB 7 t
  have loop : ∀ (f i : Nat), i + f = 4 → vCh V t f i = vCh V t 4 0 → GG p l e ({ frames := 1, cells := 0, slots := 0, locals := 23 } : Room) s m args below meth c (mQ below D g A xm args s (fun r V1 => V1 = V ∧ r = some (.int (nI (vCh V t 4 0) - 1)))) 4 D A s.heap (mW g xm (V)) 0 0 2 [(0, .ref (xm 0)), (1, .int (nI t)), (2, .int (nI i))] [] := by
    intro f
    induction f with
    | zero =>
      intro i hi hv
      refine g_iload_n C dX3_changed_2 rfl ?_
      refine g_iconst C 4 dX3_changed_3 (by decide) ?_
      refine g_icmp_ge C 67 dX3_changed_4 (by decide) (by omega) (by decide) (fun c4 => ?_) (fun c4 => ?_)
      · refine g_iconstm C dX3_changed_67 ?_
        exact g_iret C dX3_changed_68 rfl (⟨V, rfl, rfl, by rw [← hv, show vCh V t 0 i = 0 from rfl, sh0]⟩)
      · exact absurd c4 (by omega)
    | succ f ihf =>
      intro i hi hv
      have inner : ∀ (n k : Nat), vBit (V 9 t) i = 1 → 50 - k = n → k ≤ 50 → vAny V (50 * i) (V 7 t) k = false → GG p l e ({ frames := 1, cells := 0, slots := 0, locals := 23 } : Room) s m args below meth c (mQ below D g A xm args s (fun r V1 => V1 = V ∧ r = some (.int (nI (vCh V t 4 0) - 1)))) 4 D A s.heap (mW g xm (V)) 0 0 28 [(0, .ref (xm 0)), (1, .int (nI t)), (2, .int (nI i)), (3, .int (nI (50 * i + k)))] [] := by
        intro n
        induction n using Nat.strongRecOn with
        | _ n ih =>
          intro k hbit hn hk ha
          refine g_iload_n C dX3_changed_28 rfl ?_
          refine g_bipush C 50 dX3_changed_29 (by decide) ?_
          refine g_iload_n C dX3_changed_31 rfl ?_
          refine g_imul C dX3_changed_32 ?_
          refine g_bipush C 50 dX3_changed_33 (by decide) ?_
          first | refine g_iadd C dX3_changed_35 ?_ | refine g_iaddx C dX3_changed_35 ?_
          refine g_icmp_ge C 61 dX3_changed_36 (by decide) (by omega) (by omega) (fun c36 => ?_) (fun c36 => ?_)
          · refine g_iinc C dX3_changed_61 rfl (by decide) ?_
            refine g_goto C 2 dX3_changed_64 (by decide) ?_
            exact g_lv (lv' := [(0, .ref (xm 0)), (1, .int (nI t)), (2, .int (nI (i + 1)))]) (fun q hq => List.mem_append_left [(3, _)] hq) (ihf (i + 1) (by omega) (by rw [← hv]; show _ = (if vBit (V 9 t) i = 1 ∧ vAny V (50 * i) (V 7 t) 50 = true then i + 1 else vCh V t f (i + 1)); rw [if_neg (fun q => by have h9 := q.2; rw [show (50 : Nat) = k by omega] at h9; rw [show k * i = 50 * i by rw [show k = 50 by omega]] at h9; rw [ha] at h9; exact absurd h9 (by decide))]))
          · first | refine g_aload_n C dX3_changed_39 rfl ?_ | refine g_aload_nq C _ dX3_changed_39 rfl ?_
            refine g_iload_n C dX3_changed_40 rfl ?_
            first | refine g_aload_n C dX3_changed_41 rfl ?_ | refine g_aload_nq C _ dX3_changed_41 rfl ?_
            refine mg_sees C i3 (by decide +kernel) dX3_changed_42 ?_
            refine g_iload_n C dX3_changed_45 rfl ?_
            refine ml_sees C dX3_changed_46 (by omega) ?_
            refine g_callM C (k_X3_hasAbove l D g A xm _ hB hN (50 * i + k) (V 7 t) (by omega) (by omega) hR) gX3_changed_X3_hasAbove dX3_changed_47 (n := 2) rfl rfl rfl (by decide +kernel) ⟨Nat.le_of_ble_eq_true rfl, Nat.le_of_ble_eq_true rfl⟩ rfl rfl (Nat.le_of_ble_eq_true rfl) ⟨Nat.le_refl _, Nat.le_refl _⟩ (fun r V1 hq => ?_)
            obtain ⟨e9, hq⟩ := hq
            rw [e9]
            rcases hq with ⟨h47, rfl⟩ | ⟨h47, rfl⟩
            · refine g_if_eq C 55 dX3_changed_50 (by decide) (by decide) (fun c50 => absurd c50 (by decide)) (fun c50 => ?_)
              refine g_iload_n C dX3_changed_53 rfl ?_
              exact g_iret C dX3_changed_54 rfl (⟨V, rfl, rfl, by rw [← hv]; show _ = some (Value.int (nI (if vBit (V 9 t) i = 1 ∧ vAny V (50 * i) (V 7 t) 50 = true then i + 1 else vCh V t f (i + 1)) - 1)); rw [if_pos ⟨hbit, vAny_true (by omega) h47⟩, sh_pos (by omega)]; rfl⟩)
            · refine g_if_eq C 55 dX3_changed_50 (by decide) (by decide) (fun c50 => ?_) (fun c50 => absurd c50 (by decide))
              refine g_iinc C dX3_changed_55 rfl (by decide) ?_
              refine g_goto C 28 dX3_changed_58 (by decide) ?_
              exact ih _ (by omega) (k + 1) hbit rfl (by omega) (by show (vAny V (50 * i) (V 7 t) k || vAb V (50 * i + k) (V 7 t) (V 3 0)) = false; rw [ha, h47]; rfl)
      refine g_iload_n C dX3_changed_2 rfl ?_
      refine g_iconst C 4 dX3_changed_3 (by decide) ?_
      refine g_icmp_ge C 67 dX3_changed_4 (by decide) (by omega) (by decide) (fun c4 => ?_) (fun c4 => ?_)
      · exact absurd c4 (by omega)
      · first | refine g_aload_n C dX3_changed_7 rfl ?_ | refine g_aload_nq C _ dX3_changed_7 rfl ?_
        refine mg_notes C i3 (by decide +kernel) dX3_changed_8 ?_
        refine g_iload_n C dX3_changed_11 rfl ?_
        refine ml_notes C dX3_changed_12 (by omega) ?_
        refine g_iload_n C dX3_changed_13 rfl ?_
        refine g_ishr C dX3_changed_14 ?_
        refine g_iconst C 1 dX3_changed_15 (by decide) ?_
        refine g_iand C dX3_changed_16 ?_
        refine g_top C (nt_bit _ (hM t) i (by omega)) ?_
        refine g_if_ne C 23 dX3_changed_17 (by decide) (by have := nt_bit1 (V 9 t) i; omega) (fun c17 => ?_) (fun c17 => ?_)
        · refine g_bipush C 50 dX3_changed_23 (by decide) ?_
          refine g_iload_n C dX3_changed_25 rfl ?_
          refine g_imul C dX3_changed_26 ?_
          refine g_istore_n C dX3_changed_27 (by decide) ?_
          exact inner _ 0 (by have := nt_bit1 (V 9 t) i; omega) rfl (by omega) rfl
        · refine g_goto C 61 dX3_changed_20 (by decide) ?_
          refine g_iinc C dX3_changed_61 rfl (by decide) ?_
          refine g_goto C 2 dX3_changed_64 (by decide) ?_
          exact ihf (i + 1) (by omega) (by rw [← hv]; show _ = (if vBit (V 9 t) i = 1 ∧ vAny V (50 * i) (V 7 t) 50 = true then i + 1 else vCh V t f (i + 1)); rw [if_neg (fun q => by have := q.1; omega)])
  refine g_iconst C 0 dX3_changed_0 (by decide) ?_
  refine g_istore_n C dX3_changed_1 (by decide) ?_
  exact loop 4 0 rfl rfl
set_option maxRecDepth 100000 in
set_option maxHeartbeats 1000000 in
theorem k_X3_end (l : Launch) (D : va_G) (g : Nat → ClassId) (A : Nat → Prop) (xm : Nat → Nat) (V : VV) {N : Nat} (hB : BdN V N) (hN : N ≤ 2 ^ 30) (hN2 : 20000 ≤ N) (hC : V 16 0 ≤ 60) (hQ : V 20 0 + 60 ≤ 4000) (t z : Nat) (ht : t < 60) (hz : z ≤ 4) : MC l yX3_end wsX3_end ({ frames := 0, cells := 0, slots := 0, locals := 0 } : Room) D g A xm [.ref (xm 0), .int (nI t), .int (nI z)] V (fun r V1 => V1 = vEnd V t z ∧ r = none) := by
  refine k_ofW [(0, .ref (xm 0)), (1, .int (nI t)), (2, .int (nI z))] (by decide) rfl (Nat.le_of_ble_eq_true rfl) rfl (by simp [Value.category]) ?_
  intro p e s m args below meth c C
  have i3 : ∀ w ∈ wsX30, w ∈ wsX3_end := by decide +kernel
  have hBU : BdN (u2 V 8 t z) N := hB.up (by omega)
  have loopB : ∀ (f : Nat) (W : VV) (lp : Nat), BdN W N → W 16 0 ≤ 60 → W 20 0 + vCw W t lp (W 16 0) ≤ 4000 → vCw W t lp (W 16 0) < f → lp ≤ N → vEnq f W t lp = vEnd V t z → GG p l e ({ frames := 0, cells := 0, slots := 0, locals := 0 } : Room) s m args below meth c (mQ below D g A xm args s (fun r V1 => V1 = vEnd V t z ∧ r = none)) 7 D A s.heap (mW g xm (W)) 0 0 44 [(0, .ref (xm 0)), (1, .int (nI t)), (2, .int (nI z)), (3, .int (nI (lp) - 1)), (4, .int (nI 1))] [] := by
    intro f
    induction f with
    | zero =>
      intro W lp _ _ _ h
      exact absurd h (Nat.not_lt_zero _)
    | succ f ihf =>
      intro W lp hW hCW hQW hf hlp hfin
      have loopC : ∀ (n w b : Nat), W 16 0 - w = n → w ≤ W 16 0 → vNx W t lp w = b → b ≤ w → GG p l e ({ frames := 0, cells := 0, slots := 0, locals := 0 } : Room) s m args below meth c (mQ below D g A xm args s (fun r V1 => V1 = vEnd V t z ∧ r = none)) 7 D A s.heap (mW g xm (W)) 0 0 55 [(0, .ref (xm 0)), (1, .int (nI t)), (2, .int (nI z)), (3, .int (nI (lp) - 1)), (4, .int (nI 1)), (5, .int (nI b - 1)), (6, .int (nI w))] [] := by
        intro n
        induction n using Nat.strongRecOn with
        | _ n ih =>
          intro w b hn hw hb hbw
          refine g_iload C dX3_end_55 rfl ?_
          first | refine g_aload_n C dX3_end_57 rfl ?_ | refine g_aload_nq C _ dX3_end_57 rfl ?_
          refine mg_count C i3 (by decide +kernel) dX3_end_58 ?_
          refine g_icmp_ge C 129 dX3_end_61 (by decide) (by omega) (by omega) (fun c61 => ?_) (fun c61 => ?_)
          · refine g_iload C dX3_end_129 rfl ?_
            refine g_ifx_lt C 138 dX3_end_131 (by decide) (fun c131 => ?_) (fun c131 => ?_)
            · have c131 : b = 0 := (sh_lt (by omega)).mp c131
              refine g_iconst C 0 dX3_end_138 (by decide) ?_
              refine g_istore C dX3_end_139 (by decide) ?_
              refine g_iload C dX3_end_141 rfl ?_
              refine g_if_ne C 149 dX3_end_143 (by decide) (by decide) (fun c143 => absurd c143 (by decide)) (fun c143 => ?_)
              refine g_goto C 44 dX3_end_146 (by decide) ?_
              refine g_iload C dX3_end_44 rfl ?_
              refine g_if_eq C 181 dX3_end_46 (by decide) (by decide) (fun c46 => ?_) (fun c46 => absurd c46 (by decide))
              exact g_vret C dX3_end_181 rfl (⟨W, rfl, by rw [← hfin, vEnq_stop (by rw [show W 16 0 = w by omega, hb]; exact c131)], rfl⟩)
            · have c131 : 0 < b := Nat.pos_of_ne_zero (fun z9 => c131 ((sh_lt (by omega)).mpr z9))
              have hq20 : W 20 0 < 4000 := by have h9 := vCw_less (V := W) (t := t) (lp := lp) (n := W 16 0) (by rw [show W 16 0 = w by omega, hb]; exact c131); omega
              refine g_iconst C 1 dX3_end_134 (by decide) ?_
              refine g_goto C 139 dX3_end_135 (by decide) ?_
              refine g_istore C dX3_end_139 (by decide) ?_
              refine g_iload C dX3_end_141 rfl ?_
              refine g_if_ne C 149 dX3_end_143 (by decide) (by decide) (fun c143 => ?_) (fun c143 => absurd c143 (by decide))
              first | refine g_aload_n C dX3_end_149 rfl ?_ | refine g_aload_nq C _ dX3_end_149 rfl ?_
              refine mg_since C i3 (by decide +kernel) dX3_end_150 ?_
              refine g_iload C dX3_end_153 rfl ?_
              refine g_top C (sh_pos c131) ?_
              refine ml_since C dX3_end_155 (by omega) ?_
              refine g_istore_n C dX3_end_156 (by decide) ?_
              first | refine g_aload_n C dX3_end_157 rfl ?_ | refine g_aload_nq C _ dX3_end_157 rfl ?_
              refine mg_queue C i3 (by decide +kernel) dX3_end_158 ?_
              first | refine g_aload_n C dX3_end_161 rfl ?_ | refine g_aload_nq C _ dX3_end_161 rfl ?_
              refine mg_queueTo C i3 (by decide +kernel) dX3_end_162 ?_
              refine g_iload C dX3_end_165 rfl ?_
              refine g_top C (sh_pos c131) ?_
              refine ms_queue C dX3_end_167 (by omega) ?_
              first | refine g_aload_n C dX3_end_168 rfl ?_ | refine g_aload_nq C _ dX3_end_168 rfl ?_
              refine g_dup C dX3_end_169 (by first | rfl | exact vcat_rf _) ?_
              refine mg_queueTo C i3 (by decide +kernel) dX3_end_170 ?_
              refine g_iconst C 1 dX3_end_173 (by decide) ?_
              first | refine g_iadd C dX3_end_174 ?_ | refine g_iaddx C dX3_end_174 ?_
              refine mp_queueTo C i3 (by decide +kernel) dX3_end_175 ?_
              refine g_goto C 44 dX3_end_178 (by decide) ?_
              have hb : vNx W t lp (W 16 0) = b := by rw [← hb, show w = W 16 0 by omega]
              have hs := vNx_spec W t lp _ (hb ▸ c131)
              have hl := vCw_less (V := W) (t := t) (lp := lp) (n := W 16 0) (hb ▸ c131)
              have hg := vEnq_go (V := W) (t := t) (lp := lp) (hb ▸ c131) f
              rw [hb] at hs hl hg
              have hb14 := hW 14 (b - 1)
              rw [show nI (W 14 (b - 1)) = nI (W 14 (b - 1) + 1) - 1 from (sh_pos (b := W 14 (b - 1) + 1) (by omega)).symm]
              exact g_lv (lv' := [(0, .ref (xm 0)), (1, .int (nI t)), (2, .int (nI z)), (3, .int (nI (W 14 (b - 1) + 1) - 1)), (4, .int (nI 1))]) (fun q hq => List.mem_append_left [(5, _), (6, _)] hq) (ihf (vPush W (b - 1)) (W 14 (b - 1) + 1) (hW.push (by omega) (by omega)) hCW (by show vPush W (b - 1) 20 0 + vCw W t _ (W 16 0) ≤ 4000; unfold vPush; rw [u2_same]; omega) (Nat.lt_of_lt_of_le hl (by omega)) (by omega) (by rw [← hfin, hg]))
          · first | refine g_aload_n C dX3_end_64 rfl ?_ | refine g_aload_nq C _ dX3_end_64 rfl ?_
            refine mg_states C i3 (by decide +kernel) dX3_end_65 ?_
            refine g_iload C dX3_end_68 rfl ?_
            refine ml_states C dX3_end_70 (by omega) ?_
            refine g_iconst C 1 dX3_end_71 (by decide) ?_
            refine g_icmp_ne C 123 dX3_end_72 (by decide) (bd hW hN _ _) (by decide) (fun c72 => ?_) (fun c72 => ?_)
            · refine g_iinc C dX3_end_123 rfl (by decide) ?_
              refine g_goto C 55 dX3_end_126 (by decide) ?_
              exact ih _ (by omega) (w + 1) b rfl (by omega) (by show (if W 8 w = 1 ∧ W 11 w = t + 1 ∧ lp ≤ W 14 w ∧ (vNx W t lp w = 0 ∨ W 14 w < W 14 (vNx W t lp w - 1)) then w + 1 else vNx W t lp w) = _; rw [if_neg (fun q => c72 q.1)]; exact hb) (by omega)
            · first | refine g_aload_n C dX3_end_75 rfl ?_ | refine g_aload_nq C _ dX3_end_75 rfl ?_
              refine mg_waitsFor C i3 (by decide +kernel) dX3_end_76 ?_
              refine g_iload C dX3_end_79 rfl ?_
              refine ml_waitsFor C dX3_end_81 (by omega) ?_
              refine g_iload_n C dX3_end_82 rfl ?_
              refine g_icmpx_ne C 123 dX3_end_83 (by decide) (fun c83 => ?_) (fun c83 => ?_)
              · refine g_iinc C dX3_end_123 rfl (by decide) ?_
                refine g_goto C 55 dX3_end_126 (by decide) ?_
                exact ih _ (by omega) (w + 1) b rfl (by omega) (by show (if W 8 w = 1 ∧ W 11 w = t + 1 ∧ lp ≤ W 14 w ∧ (vNx W t lp w = 0 ∨ W 14 w < W 14 (vNx W t lp w - 1)) then w + 1 else vNx W t lp w) = _; rw [if_neg (fun q => c83 ((sh_eq (bd hW hN _ _) (by omega)).mpr q.2.1))]; exact hb) (by omega)
              · first | refine g_aload_n C dX3_end_86 rfl ?_ | refine g_aload_nq C _ dX3_end_86 rfl ?_
                refine mg_since C i3 (by decide +kernel) dX3_end_87 ?_
                refine g_iload C dX3_end_90 rfl ?_
                refine ml_since C dX3_end_92 (by omega) ?_
                refine g_iload_n C dX3_end_93 rfl ?_
                refine g_icmpx_le C 123 dX3_end_94 (by decide) (fun c94 => ?_) (fun c94 => ?_)
                · refine g_iinc C dX3_end_123 rfl (by decide) ?_
                  refine g_goto C 55 dX3_end_126 (by decide) ?_
                  exact ih _ (by omega) (w + 1) b rfl (by omega) (by show (if W 8 w = 1 ∧ W 11 w = t + 1 ∧ lp ≤ W 14 w ∧ (vNx W t lp w = 0 ∨ W 14 w < W 14 (vNx W t lp w - 1)) then w + 1 else vNx W t lp w) = _; rw [if_neg (fun q => absurd q.2.2.1 (Nat.not_le.mpr ((sh_le (bd hW hN _ _) (by omega)).mp c94)))]; exact hb) (by omega)
                · refine g_iload C dX3_end_97 rfl ?_
                  refine g_ifx_lt C 119 dX3_end_99 (by decide) (fun c99 => ?_) (fun c99 => ?_)
                  · refine g_iload C dX3_end_119 rfl ?_
                    refine g_istore C dX3_end_121 (by decide) ?_
                    refine g_iinc C dX3_end_123 rfl (by decide) ?_
                    refine g_goto C 55 dX3_end_126 (by decide) ?_
                    rw [show nI w = nI (w + 1) - 1 from (sh_pos (b := w + 1) (by omega)).symm]
                    exact ih _ (by omega) (w + 1) (w + 1) rfl (by omega) (by show (if W 8 w = 1 ∧ W 11 w = t + 1 ∧ lp ≤ W 14 w ∧ (vNx W t lp w = 0 ∨ W 14 w < W 14 (vNx W t lp w - 1)) then w + 1 else vNx W t lp w) = _; rw [hb, if_pos ⟨c72, (sh_eq (bd hW hN _ _) (by omega)).mp c83, Nat.not_lt.mp (fun z9 => c94 ((sh_le (bd hW hN _ _) (by omega)).mpr z9)), Or.inl ((sh_lt (by omega)).mp c99)⟩]) (by omega)
                  · have c99 : 0 < b := Nat.pos_of_ne_zero (fun z9 => c99 ((sh_lt (by omega)).mpr z9))
                    first | refine g_aload_n C dX3_end_102 rfl ?_ | refine g_aload_nq C _ dX3_end_102 rfl ?_
                    refine mg_since C i3 (by decide +kernel) dX3_end_103 ?_
                    refine g_iload C dX3_end_106 rfl ?_
                    refine ml_since C dX3_end_108 (by omega) ?_
                    first | refine g_aload_n C dX3_end_109 rfl ?_ | refine g_aload_nq C _ dX3_end_109 rfl ?_
                    refine mg_since C i3 (by decide +kernel) dX3_end_110 ?_
                    refine g_iload C dX3_end_113 rfl ?_
                    refine g_top C (sh_pos c99) ?_
                    refine ml_since C dX3_end_115 (by omega) ?_
                    refine g_icmp_ge C 123 dX3_end_116 (by decide) (bd hW hN _ _) (bd hW hN _ _) (fun c116 => ?_) (fun c116 => ?_)
                    · refine g_iinc C dX3_end_123 rfl (by decide) ?_
                      refine g_goto C 55 dX3_end_126 (by decide) ?_
                      exact ih _ (by omega) (w + 1) b rfl (by omega) (by show (if W 8 w = 1 ∧ W 11 w = t + 1 ∧ lp ≤ W 14 w ∧ (vNx W t lp w = 0 ∨ W 14 w < W 14 (vNx W t lp w - 1)) then w + 1 else vNx W t lp w) = _; rw [hb, if_neg (fun q => q.2.2.2.elim (fun z9 => by omega) (fun z9 => absurd z9 (Nat.not_lt.mpr c116)))]) (by omega)
                    · refine g_iload C dX3_end_119 rfl ?_
                      refine g_istore C dX3_end_121 (by decide) ?_
                      refine g_iinc C dX3_end_123 rfl (by decide) ?_
                      refine g_goto C 55 dX3_end_126 (by decide) ?_
                      rw [show nI w = nI (w + 1) - 1 from (sh_pos (b := w + 1) (by omega)).symm]
                      exact ih _ (by omega) (w + 1) (w + 1) rfl (by omega) (by show (if W 8 w = 1 ∧ W 11 w = t + 1 ∧ lp ≤ W 14 w ∧ (vNx W t lp w = 0 ∨ W 14 w < W 14 (vNx W t lp w - 1)) then w + 1 else vNx W t lp w) = _; rw [hb, if_pos ⟨c72, (sh_eq (bd hW hN _ _) (by omega)).mp c83, Nat.not_lt.mp (fun z9 => c94 ((sh_le (bd hW hN _ _) (by omega)).mpr z9)), Or.inr c116⟩]) (by omega)
      refine g_iload C dX3_end_44 rfl ?_
      refine g_if_eq C 181 dX3_end_46 (by decide) (by decide) (fun c46 => absurd c46 (by decide)) (fun c46 => ?_)
      refine g_iconstm C dX3_end_49 ?_
      refine g_istore C dX3_end_50 (by decide) ?_
      refine g_iconst C 0 dX3_end_52 (by decide) ?_
      refine g_istore C dX3_end_53 (by decide) ?_
      rw [show (-1 : Int32) = nI 0 - 1 from sh0.symm]
      exact loopC _ 0 0 rfl (Nat.zero_le _) rfl (Nat.le_refl _)
  have loopA : ∀ (n i : Nat), 200 - i = n → i ≤ 200 → GG p l e ({ frames := 0, cells := 0, slots := 0, locals := 0 } : Room) s m args below meth c (mQ below D g A xm args s (fun r V1 => V1 = vEnd V t z ∧ r = none)) 7 D A s.heap (mW g xm (vClr (u2 V 8 t z) t i)) 0 0 9 [(0, .ref (xm 0)), (1, .int (nI t)), (2, .int (nI z)), (3, .int (nI i))] [] := by
    intro n
    induction n using Nat.strongRecOn with
    | _ n ih =>
      intro i hn hi
      refine g_iload_n C dX3_end_9 rfl ?_
      refine g_sipush C 200 dX3_end_10 (by decide) ?_
      refine g_icmp_ge C 39 dX3_end_13 (by decide) (by omega) (by decide) (fun c13 => ?_) (fun c13 => ?_)
      · refine g_iconstm C dX3_end_39 ?_
        refine g_istore_n C dX3_end_40 (by decide) ?_
        refine g_iconst C 1 dX3_end_41 (by decide) ?_
        refine g_istore C dX3_end_42 (by decide) ?_
        rw [show i = 200 by omega, show (-1 : Int32) = nI 0 - 1 from sh0.symm]
        exact loopB 61 _ 0 hBU.clr hC (by have h9 := vCw_le (vClr (u2 V 8 t z) t 200) t 0 (V 16 0); show V 20 0 + vCw _ t 0 (V 16 0) ≤ 4000; omega) (by have h9 := vCw_le (vClr (u2 V 8 t z) t 200) t 0 (V 16 0); show vCw _ t 0 (V 16 0) < 61; omega) (by omega) rfl
      · first | refine g_aload_n C dX3_end_16 rfl ?_ | refine g_aload_nq C _ dX3_end_16 rfl ?_
        refine mg_holders C i3 (by decide +kernel) dX3_end_17 ?_
        refine g_iload_n C dX3_end_20 rfl ?_
        refine ml_holders C dX3_end_21 (by omega) ?_
        refine g_iload_n C dX3_end_22 rfl ?_
        refine g_icmpx_ne C 33 dX3_end_23 (by decide) (fun c23 => ?_) (fun c23 => ?_)
        · refine g_iinc C dX3_end_33 rfl (by decide) ?_
          refine g_goto C 9 dX3_end_36 (by decide) ?_
          rw [vClr_at] at c23
          rw [← vClr_no (V := u2 V 8 t z) (t := t) (k := i) (fun q => c23 ((sh_eq (bd hBU hN _ _) (by omega)).mpr q))]
          exact ih _ (by omega) (i + 1) rfl (by omega)
        · first | refine g_aload_n C dX3_end_26 rfl ?_ | refine g_aload_nq C _ dX3_end_26 rfl ?_
          refine mg_holders C i3 (by decide +kernel) dX3_end_27 ?_
          refine g_iload_n C dX3_end_30 rfl ?_
          refine g_iconstm C dX3_end_31 ?_
          refine ms_holders C 0 (by decide) dX3_end_32 (by omega) ?_
          refine g_iinc C dX3_end_33 rfl (by decide) ?_
          refine g_goto C 9 dX3_end_36 (by decide) ?_
          rw [vClr_at] at c23
          rw [← vClr_yes ((sh_eq (bd hBU hN _ _) (by omega)).mp c23)]
          exact ih _ (by omega) (i + 1) rfl (by omega)
  first | refine g_aload_n C dX3_end_0 rfl ?_ | refine g_aload_nq C _ dX3_end_0 rfl ?_
  refine mg_states C i3 (by decide +kernel) dX3_end_1 ?_
  refine g_iload_n C dX3_end_4 rfl ?_
  refine g_iload_n C dX3_end_5 rfl ?_
  refine ms_states C dX3_end_6 (by omega) ?_
  refine g_iconst C 0 dX3_end_7 (by decide) ?_
  refine g_istore_n C dX3_end_8 (by decide) ?_
  rw [show u2 V 8 t z = vClr (u2 V 8 t z) t 0 from (vClr_0 _ _).symm]
  exact loopA _ 0 rfl (Nat.zero_le _)
