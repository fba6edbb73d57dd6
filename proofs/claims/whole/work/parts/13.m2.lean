set_option maxRecDepth 100000 in
set_option maxHeartbeats 1000000 in
theorem k_X3_isThere (l : Launch) (D : va_G) (g : Nat → ClassId) (A : Nat → Prop) (xm : Nat → Nat) (V : VV) {N : Nat} (hB : BdN V N) (hN : N ≤ 2 ^ 30) (t v : Nat) (ht : t < 2 ^ 30) (hv : v < 2 ^ 30) (hR : V 3 0 ≤ 13000) : MC l yX3_isThere wsX3_isThere ({ frames := 1, cells := 0, slots := 0, locals := 24 } : Room) D g A xm [.ref (xm 0), .int (nI t), .int (nI v)] V (fun r V1 => V1 = V ∧ ((vThere V t v ∧ r = some (.int (nI 1))) ∨ (¬ vThere V t v ∧ r = some (.int (nI 0))))) := by
  refine k_ofW [(0, .ref (xm 0)), (1, .int (nI t)), (2, .int (nI v))] (by decide) rfl (Nat.le_of_ble_eq_true rfl) rfl (by simp [Value.category]) ?_
  intro p e s m args below meth c C
  have i3 : ∀ w ∈ wsX30, w ∈ wsX3_isThere := by decide +kernel
  have hle := vRow_le V t v (V 3 0)
  first | refine g_aload_n C dX3_isThere_0 rfl ?_ | refine g_aload_nq C _ dX3_isThere_0 rfl ?_
  refine g_iload_n C dX3_isThere_1 rfl ?_
  refine g_iload_n C dX3_isThere_2 rfl ?_
  refine g_callM C (k_X3_rowOf l D g A xm _ hB hN t v ht hv hR) gX3_isThere_X3_rowOf dX3_isThere_3 (n := 2) rfl rfl rfl (by decide +kernel) ⟨Nat.le_of_ble_eq_true rfl, Nat.le_of_ble_eq_true rfl⟩ rfl rfl (Nat.le_of_ble_eq_true rfl) ⟨Nat.le_refl _, Nat.le_refl _⟩ (fun r V1 hq => ?_)
  obtain ⟨e9, rfl⟩ := hq
  rw [e9]
  refine g_istore_n C dX3_isThere_6 (by decide) ?_
  refine g_iload_n C dX3_isThere_7 rfl ?_
  refine g_ifx_lt C 24 dX3_isThere_8 (by decide) (fun c8 => ?_) (fun c8 => ?_)
  · have c8 : vRow V t v (V 3 0) = 0 := (sh_lt (by omega)).mp c8
    refine g_iconst C 0 dX3_isThere_24 (by decide) ?_
    exact g_zret C dX3_isThere_25 rfl (by first | exact nar_boolV (by omega) | decide +kernel) (⟨V, rfl, rfl, Or.inr ⟨fun q => by have h9 := q.1; omega, rfl⟩⟩)
  · have c8 : 0 < vRow V t v (V 3 0) := Nat.pos_of_ne_zero (fun z => c8 ((sh_lt (by omega)).mpr z))
    first | refine g_aload_n C dX3_isThere_11 rfl ?_ | refine g_aload_nq C _ dX3_isThere_11 rfl ?_
    refine mg_rowTells C i3 (by decide +kernel) dX3_isThere_12 ?_
    refine g_iload_n C dX3_isThere_15 rfl ?_
    refine g_top C (sh_pos c8) ?_
    refine ml_rowTells C dX3_isThere_16 (by omega) ?_
    refine g_if_eq C 24 dX3_isThere_17 (by decide) (by first | exact bd hB hN _ _ | omega) (fun c17 => ?_) (fun c17 => ?_)
    · refine g_iconst C 0 dX3_isThere_24 (by decide) ?_
      exact g_zret C dX3_isThere_25 rfl (by first | exact nar_boolV (by omega) | decide +kernel) (⟨V, rfl, rfl, Or.inr ⟨fun q => by have h9 := q.2; have c17 : V 2 (vRow V t v (V 3 0) - 1) = 0 := c17; omega, rfl⟩⟩)
    · refine g_iconst C 1 dX3_isThere_20 (by decide) ?_
      refine g_goto C 25 dX3_isThere_21 (by decide) ?_
      exact g_zret C dX3_isThere_25 rfl (by first | exact nar_boolV (by omega) | decide +kernel) (⟨V, rfl, rfl, Or.inl ⟨⟨c8, c17⟩, rfl⟩⟩)
set_option maxRecDepth 100000 in
set_option maxHeartbeats 1000000 in
theorem k_X3_leastKept (l : Launch) (D : va_G) (g : Nat → ClassId) (A : Nat → Prop) (xm : Nat → Nat) (V : VV) {N : Nat} (hB : BdN V N) (hN : N ≤ 2 ^ 30) (hC : V 16 0 ≤ 60) : MC l yX3_leastKept wsX3_leastKept ({ frames := 1, cells := 0, slots := 0, locals := 21 } : Room) D g A xm [.ref (xm 0)] V (fun r V1 => V1 = V ∧ r = some (.int (nI (vLK V)))) := by
  refine k_ofW [(0, .ref (xm 0))] (by decide) rfl (Nat.le_of_ble_eq_true rfl) rfl (by simp [Value.category]) ?_
  intro p e s m args below meth c C
  have i3 : ∀ w ∈ wsX30, w ∈ wsX3_leastKept := by decide +kernel
  have hlt : ∀ k, vLT V k < N := vLT_lt hB
  have hlp : ∀ k, vLP V k < N := vLP_lt hB
  have loop2 : ∀ (n i : Nat), 64 - i = n → i ≤ 64 → GG p l e ({ frames := 1, cells := 0, slots := 0, locals := 21 } : Room) s m args below meth c (mQ below D g A xm args s (fun r V1 => V1 = V ∧ r = some (.int (nI (vLK V))))) 3 D A s.heap (mW g xm (V)) 0 0 52 [(0, .ref (xm 0)), (1, .int (nI (vLP V i))), (2, .int (nI (i)))] [] := by
    intro n
    induction n using Nat.strongRecOn with
    | _ n ih =>
      intro i hn hi
      have hlpi := hlp i
      refine g_iload_n C dX3_leastKept_52 rfl ?_
      refine g_bipush C 64 dX3_leastKept_53 (by decide) ?_
      refine g_icmp_ge C 84 dX3_leastKept_55 (by decide) (by omega) (by decide) (fun c55 => ?_) (fun c55 => ?_)
      · refine g_iload_n C dX3_leastKept_84 rfl ?_
        exact g_iret C dX3_leastKept_85 rfl (⟨V, rfl, rfl, by unfold vLK; rw [show 64 = i by omega]⟩)
      · first | refine g_aload_n C dX3_leastKept_58 rfl ?_ | refine g_aload_nq C _ dX3_leastKept_58 rfl ?_
        refine mg_pins C i3 (by decide +kernel) dX3_leastKept_59 ?_
        refine g_iload_n C dX3_leastKept_62 rfl ?_
        refine ml_pins C dX3_leastKept_63 (by omega) ?_
        refine g_if_le C 76 dX3_leastKept_64 (by decide) (by first | exact bd hB hN _ _ | omega) (fun c64 => ?_) (fun c64 => ?_)
        · refine g_iload_n C dX3_leastKept_76 rfl ?_
          refine g_istore_n C dX3_leastKept_77 (by decide) ?_
          refine g_iinc C dX3_leastKept_78 rfl (by decide) ?_
          refine g_goto C 52 dX3_leastKept_81 (by decide) ?_
          rw [show vLP V i = vLP V (i + 1) by show _ = (if 0 < V 5 i ∧ i < vLP V i then i else vLP V i); rw [if_neg (fun q => by have := q.1; have c64 : V 5 i = 0 := c64; omega)]]
          exact ih _ (by omega) (i + 1) rfl (by omega)
        · refine g_iload_n C dX3_leastKept_67 rfl ?_
          refine g_iload_n C dX3_leastKept_68 rfl ?_
          refine g_icmp_ge C 76 dX3_leastKept_69 (by decide) (by omega) (by omega) (fun c69 => ?_) (fun c69 => ?_)
          · refine g_iload_n C dX3_leastKept_76 rfl ?_
            refine g_istore_n C dX3_leastKept_77 (by decide) ?_
            refine g_iinc C dX3_leastKept_78 rfl (by decide) ?_
            refine g_goto C 52 dX3_leastKept_81 (by decide) ?_
            rw [show vLP V i = vLP V (i + 1) by show _ = (if 0 < V 5 i ∧ i < vLP V i then i else vLP V i); rw [if_neg (fun q => by have := q.2; omega)]]
            exact ih _ (by omega) (i + 1) rfl (by omega)
          · refine g_iload_n C dX3_leastKept_72 rfl ?_
            refine g_goto C 77 dX3_leastKept_73 (by decide) ?_
            refine g_istore_n C dX3_leastKept_77 (by decide) ?_
            refine g_iinc C dX3_leastKept_78 rfl (by decide) ?_
            refine g_goto C 52 dX3_leastKept_81 (by decide) ?_
            have e9 : vLP V (i + 1) = i := by show (if 0 < V 5 i ∧ i < vLP V i then i else vLP V i) = i; rw [if_pos ⟨c64, c69⟩]
            have ih9 := ih _ (by omega) (i + 1) rfl (by omega)
            rw [e9] at ih9
            exact ih9
  have loop1 : ∀ (n i : Nat), V 16 0 - i = n → i ≤ V 16 0 → GG p l e ({ frames := 1, cells := 0, slots := 0, locals := 21 } : Room) s m args below meth c (mQ below D g A xm args s (fun r V1 => V1 = V ∧ r = some (.int (nI (vLK V))))) 3 D A s.heap (mW g xm (V)) 0 0 7 [(0, .ref (xm 0)), (1, .int (nI (vLT V i))), (2, .int (nI (i)))] [] := by
    intro n
    induction n using Nat.strongRecOn with
    | _ n ih =>
      intro i hn hi
      have hlti := hlt i
      refine g_iload_n C dX3_leastKept_7 rfl ?_
      first | refine g_aload_n C dX3_leastKept_8 rfl ?_ | refine g_aload_nq C _ dX3_leastKept_8 rfl ?_
      refine mg_count C i3 (by decide +kernel) dX3_leastKept_9 ?_
      refine g_icmp_ge C 50 dX3_leastKept_12 (by decide) (by omega) (by omega) (fun c12 => ?_) (fun c12 => ?_)
      · refine g_iconst C 0 dX3_leastKept_50 (by decide) ?_
        refine g_istore_n C dX3_leastKept_51 (by decide) ?_
        rw [show vLT V i = vLP V 0 by show _ = vLT V (V 16 0); rw [show i = V 16 0 by omega]]
        exact loop2 _ 0 rfl (by omega)
      · first | refine g_aload_n C dX3_leastKept_15 rfl ?_ | refine g_aload_nq C _ dX3_leastKept_15 rfl ?_
        refine g_iload_n C dX3_leastKept_16 rfl ?_
        refine g_callM C (k_X3_isLive l D g A xm _ hB hN i (by omega)) gX3_leastKept_X3_isLive dX3_leastKept_17 (n := 1) rfl rfl rfl (by decide +kernel) ⟨Nat.le_of_ble_eq_true rfl, Nat.le_of_ble_eq_true rfl⟩ rfl rfl (Nat.le_of_ble_eq_true rfl) ⟨Nat.le_refl _, Nat.le_refl _⟩ (fun r V1 hq => ?_)
        obtain ⟨e9, hq⟩ := hq
        rw [e9]
        rcases hq with ⟨h17, rfl⟩ | ⟨h17, rfl⟩
        · refine g_if_eq C 42 dX3_leastKept_20 (by decide) (by decide) (fun c20 => absurd c20 (by decide)) (fun c20 => ?_)
          first | refine g_aload_n C dX3_leastKept_23 rfl ?_ | refine g_aload_nq C _ dX3_leastKept_23 rfl ?_
          refine mg_sees C i3 (by decide +kernel) dX3_leastKept_24 ?_
          refine g_iload_n C dX3_leastKept_27 rfl ?_
          refine ml_sees C dX3_leastKept_28 (by omega) ?_
          refine g_iload_n C dX3_leastKept_29 rfl ?_
          refine g_icmp_ge C 42 dX3_leastKept_30 (by decide) (bd hB hN _ _) (by omega) (fun c30 => ?_) (fun c30 => ?_)
          · refine g_iload_n C dX3_leastKept_42 rfl ?_
            refine g_istore_n C dX3_leastKept_43 (by decide) ?_
            refine g_iinc C dX3_leastKept_44 rfl (by decide) ?_
            refine g_goto C 7 dX3_leastKept_47 (by decide) ?_
            rw [show vLT V i = vLT V (i + 1) by show _ = (if V 8 i < 3 ∧ V 7 i < vLT V i then V 7 i else vLT V i); rw [if_neg (fun q => by have := q.2; have c30 : vLT V i ≤ V 7 i := c30; omega)]]
            exact ih _ (by omega) (i + 1) rfl (by omega)
          · first | refine g_aload_n C dX3_leastKept_33 rfl ?_ | refine g_aload_nq C _ dX3_leastKept_33 rfl ?_
            refine mg_sees C i3 (by decide +kernel) dX3_leastKept_34 ?_
            refine g_iload_n C dX3_leastKept_37 rfl ?_
            refine ml_sees C dX3_leastKept_38 (by omega) ?_
            refine g_goto C 43 dX3_leastKept_39 (by decide) ?_
            refine g_istore_n C dX3_leastKept_43 (by decide) ?_
            refine g_iinc C dX3_leastKept_44 rfl (by decide) ?_
            refine g_goto C 7 dX3_leastKept_47 (by decide) ?_
            have e9 : vLT V (i + 1) = V 7 i := by show (if V 8 i < 3 ∧ V 7 i < vLT V i then V 7 i else vLT V i) = V 7 i; rw [if_pos ⟨h17, c30⟩]
            have ih9 := ih _ (by omega) (i + 1) rfl (by omega)
            rw [e9] at ih9
            exact ih9
        · refine g_if_eq C 42 dX3_leastKept_20 (by decide) (by decide) (fun c20 => ?_) (fun c20 => absurd c20 (by decide))
          refine g_iload_n C dX3_leastKept_42 rfl ?_
          refine g_istore_n C dX3_leastKept_43 (by decide) ?_
          refine g_iinc C dX3_leastKept_44 rfl (by decide) ?_
          refine g_goto C 7 dX3_leastKept_47 (by decide) ?_
          rw [show vLT V i = vLT V (i + 1) by show _ = (if V 8 i < 3 ∧ V 7 i < vLT V i then V 7 i else vLT V i); rw [if_neg (fun q => by have := q.1; omega)]]
          exact ih _ (by omega) (i + 1) rfl (by omega)
  first | refine g_aload_n C dX3_leastKept_0 rfl ?_ | refine g_aload_nq C _ dX3_leastKept_0 rfl ?_
  refine mg_latest C i3 (by decide +kernel) dX3_leastKept_1 ?_
  refine g_istore_n C dX3_leastKept_4 (by decide) ?_
  refine g_iconst C 0 dX3_leastKept_5 (by decide) ?_
  refine g_istore_n C dX3_leastKept_6 (by decide) ?_
  exact loop1 _ 0 rfl (Nat.zero_le _)
set_option maxRecDepth 100000 in
set_option maxHeartbeats 1000000 in
theorem k_X3_isTellable (l : Launch) (D : va_G) (g : Nat → ClassId) (A : Nat → Prop) (xm : Nat → Nat) (V : VV) {N : Nat} (hB : BdN V N) (hN : N ≤ 2 ^ 30) (hC : V 16 0 ≤ 60) (x : Int32) : MC l yX3_isTellable wsX3_isTellable ({ frames := 2, cells := 0, slots := 0, locals := 43 } : Room) D g A xm [.ref (xm 0), .int x] V (fun r V1 => V1 = V ∧ ((tel V x ∧ r = some (.int (nI 1))) ∨ (¬ tel V x ∧ r = some (.int (nI 0))))) := by
  refine k_ofW [(0, .ref (xm 0)), (1, .int x)] (by decide) rfl (Nat.le_of_ble_eq_true rfl) rfl (by simp [Value.category]) ?_
  intro p e s m args below meth c C
  have i3 : ∀ w ∈ wsX30, w ∈ wsX3_isTellable := by decide +kernel
  have hlp : vLK V < 2 ^ 31 := Nat.lt_trans (Nat.lt_of_lt_of_le (vLP_lt hB 64) hN) (by decide)
  have hla := bd hB hN 4 0
  refine g_iload_n C dX3_isTellable_0 rfl ?_
  first | refine g_aload_n C dX3_isTellable_1 rfl ?_ | refine g_aload_nq C _ dX3_isTellable_1 rfl ?_
  refine g_callM C (k_X3_leastKept l D g A xm _ hB hN hC) gX3_isTellable_X3_leastKept dX3_isTellable_2 (n := 0) rfl rfl rfl (by decide +kernel) ⟨Nat.le_of_ble_eq_true rfl, Nat.le_of_ble_eq_true rfl⟩ rfl rfl (Nat.le_of_ble_eq_true rfl) ⟨Nat.le_refl _, Nat.le_refl _⟩ (fun r V1 hq => ?_)
  obtain ⟨e9, rfl⟩ := hq
  rw [e9]
  refine g_icmpx_lt C 20 dX3_isTellable_5 (by decide) (fun c5 => ?_) (fun c5 => ?_)
  · have c5 := Int32.lt_iff_toInt_lt.mp c5
    rw [nI_toInt hlp] at c5
    refine g_iconst C 0 dX3_isTellable_20 (by decide) ?_
    exact g_zret C dX3_isTellable_21 rfl (by first | exact nar_boolV (by omega) | decide +kernel) (⟨V, rfl, rfl, Or.inr ⟨fun q => by have := q.1; have := q.2; omega, rfl⟩⟩)
  · have c5 := Int32.not_lt.mp c5
    have c5 := Int32.le_iff_toInt_le.mp c5
    rw [nI_toInt hlp] at c5
    refine g_iload_n C dX3_isTellable_8 rfl ?_
    first | refine g_aload_n C dX3_isTellable_9 rfl ?_ | refine g_aload_nq C _ dX3_isTellable_9 rfl ?_
    refine mg_latest C i3 (by decide +kernel) dX3_isTellable_10 ?_
    refine g_icmpx_gt C 20 dX3_isTellable_13 (by decide) (fun c13 => ?_) (fun c13 => ?_)
    · have c13 := Int32.lt_iff_toInt_lt.mp c13
      rw [nI_toInt hla] at c13
      refine g_iconst C 0 dX3_isTellable_20 (by decide) ?_
      exact g_zret C dX3_isTellable_21 rfl (by first | exact nar_boolV (by omega) | decide +kernel) (⟨V, rfl, rfl, Or.inr ⟨fun q => by have := q.1; have := q.2; omega, rfl⟩⟩)
    · have c13 := Int32.le_iff_toInt_le.mp (Int32.not_lt.mp c13)
      rw [nI_toInt hla] at c13
      refine g_iconst C 1 dX3_isTellable_16 (by decide) ?_
      refine g_goto C 21 dX3_isTellable_17 (by decide) ?_
      exact g_zret C dX3_isTellable_21 rfl (by first | exact nar_boolV (by omega) | decide +kernel) (⟨V, rfl, rfl, Or.inl ⟨⟨c5, c13⟩, rfl⟩⟩)
set_option maxRecDepth 100000 in
set_option maxHeartbeats 1000000 in
theorem k_X3_least (l : Launch) (D : va_G) (g : Nat → ClassId) (A : Nat → Prop) (xm : Nat → Nat) (V : VV) {N : Nat} (hB : BdN V N) (hN : N ≤ 2 ^ 30) (hC : V 16 0 ≤ 60) : MC l yX3_least wsX3_least ({ frames := 2, cells := 0, slots := 0, locals := 43 } : Room) D g A xm [.ref (xm 0)] V (fun r V1 => V1 = u2 V 25 0 0 ∧ r = some (.int (nI (vLK V)))) := by
  refine k_ofW [(0, .ref (xm 0))] (by decide) rfl (Nat.le_of_ble_eq_true rfl) rfl (by simp [Value.category]) ?_
  intro p e s m args below meth c C
  have i3 : ∀ w ∈ wsX30, w ∈ wsX3_least := by decide +kernel
  have hN0 : 0 < N := Nat.lt_of_le_of_lt (Nat.zero_le _) (hB 0 0)
  first | refine g_aload_n C dX3_least_0 rfl ?_ | refine g_aload_nq C _ dX3_least_0 rfl ?_
  refine g_iconst C 0 dX3_least_1 (by decide) ?_
  refine mp_thrown C i3 (by decide +kernel) dX3_least_2 ?_
  first | refine g_aload_n C dX3_least_5 rfl ?_ | refine g_aload_nq C _ dX3_least_5 rfl ?_
  refine g_callM C (k_X3_leastKept l D g A xm _ (hB.up (k := 25) (i := 0) (v := 0) hN0) hN hC) gX3_least_X3_leastKept dX3_least_6 (n := 0) rfl rfl rfl (by decide +kernel) ⟨Nat.le_of_ble_eq_true rfl, Nat.le_of_ble_eq_true rfl⟩ rfl rfl (Nat.le_of_ble_eq_true rfl) ⟨Nat.le_refl _, Nat.le_refl _⟩ (fun r V1 hq => ?_)
  obtain ⟨e9, rfl⟩ := hq
  rw [e9]
  exact g_iret C dX3_least_9 rfl (⟨_, rfl, rfl, by rw [vLK_25]⟩)
set_option maxRecDepth 100000 in
set_option maxHeartbeats 1000000 in
theorem k_X3_latest (l : Launch) (D : va_G) (g : Nat → ClassId) (A : Nat → Prop) (xm : Nat → Nat) (V : VV)  : MC l yX3_latest wsX3_latest ({ frames := 0, cells := 0, slots := 0, locals := 0 } : Room) D g A xm [.ref (xm 0)] V (fun r V1 => V1 = u2 V 25 0 0 ∧ r = some (.int (nI (V 4 0)))) := by
  refine k_ofW [(0, .ref (xm 0))] (by decide) rfl (Nat.le_of_ble_eq_true rfl) rfl (by simp [Value.category]) ?_
  intro p e s m args below meth c C
  have i3 : ∀ w ∈ wsX30, w ∈ wsX3_latest := by decide +kernel
  first | refine g_aload_n C dX3_latest_0 rfl ?_ | refine g_aload_nq C _ dX3_latest_0 rfl ?_
  refine g_iconst C 0 dX3_latest_1 (by decide) ?_
  refine mp_thrown C i3 (by decide +kernel) dX3_latest_2 ?_
  first | refine g_aload_n C dX3_latest_5 rfl ?_ | refine g_aload_nq C _ dX3_latest_5 rfl ?_
  refine mg_latest C i3 (by decide +kernel) dX3_latest_6 ?_
  exact g_iret C dX3_latest_9 rfl (⟨_, rfl, rfl, rfl⟩)
set_option maxRecDepth 100000 in
set_option maxHeartbeats 1000000 in
theorem k_X3_rows (l : Launch) (D : va_G) (g : Nat → ClassId) (A : Nat → Prop) (xm : Nat → Nat) (V : VV)  : MC l yX3_rows wsX3_rows ({ frames := 0, cells := 0, slots := 0, locals := 0 } : Room) D g A xm [.ref (xm 0)] V (fun r V1 => V1 = u2 V 25 0 0 ∧ r = some (.int (nI (V 3 0)))) := by
  refine k_ofW [(0, .ref (xm 0))] (by decide) rfl (Nat.le_of_ble_eq_true rfl) rfl (by simp [Value.category]) ?_
  intro p e s m args below meth c C
  have i3 : ∀ w ∈ wsX30, w ∈ wsX3_rows := by decide +kernel
  first | refine g_aload_n C dX3_rows_0 rfl ?_ | refine g_aload_nq C _ dX3_rows_0 rfl ?_
  refine g_iconst C 0 dX3_rows_1 (by decide) ?_
  refine mp_thrown C i3 (by decide +kernel) dX3_rows_2 ?_
  first | refine g_aload_n C dX3_rows_5 rfl ?_ | refine g_aload_nq C _ dX3_rows_5 rfl ?_
  refine mg_rows C i3 (by decide +kernel) dX3_rows_6 ?_
  exact g_iret C dX3_rows_9 rfl (⟨_, rfl, rfl, rfl⟩)
