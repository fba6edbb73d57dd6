set_option maxRecDepth 100000 in
set_option maxHeartbeats 1000000 in
theorem k_X2_requireTriple (l : Launch) (hst : l.stackTraces = false) (D : va_G) (g : Nat → ClassId) (A : Nat → Prop) (xa : Nat → Nat) (I : VV) (O : OO) (L : List Nat) (K : Nat → Nat) (x : Int32) : CM l yX2_requireTriple wsX2_requireTriple ({ frames := 6, cells := 1, slots := 6, locals := 82 } : Room) 1 6 D g A xa [.int x] I O L K (fun r I1 O1 L1 K1 => (I1 = I ∧ O1 = O ∧ L1 = L ∧ K1 = K) ∧ inR x 200 ∧ r = none) (fun E => E = xIA ∧ ¬ inR x 200) := by
  refine x_ofW [(0, .int x)] (by decide) rfl (Nat.le_of_ble_eq_true rfl) rfl (by simp [Value.category, vcat_rf]) ?_
  intro p e s m args below meth c C T9 hx9
  refine g_iload_n C dX2_requireTriple_0 rfl ?_
  refine g_ifx_lt C 11 dX2_requireTriple_1 (by decide) (fun c1 => ?_) (fun c1 => ?_)
  · exact x_throw C hst T9 hx9 "no such triple" (Or.inl ⟨rfl, rfl, rfl⟩) (by decide +kernel) (by decide +kernel) (fun w hw => List.mem_cons_of_mem _ (List.mem_append_right _ hw)) (by decide) dX2_requireTriple_11 dX2_requireTriple_14 dX2_requireTriple_15 dX2_requireTriple_17 dX2_requireTriple_20 (Nat.le_of_ble_eq_true rfl) (Nat.le_of_ble_eq_true rfl) (Nat.le_of_ble_eq_true rfl) (Nat.le_of_ble_eq_true rfl) ⟨rfl, rfl, inR_neg c1⟩ (Nat.le_of_ble_eq_true rfl) (Nat.le_of_ble_eq_true rfl)
  · obtain ⟨j, hj, rfl⟩ := nI_of c1
    refine g_iload_n C dX2_requireTriple_4 rfl ?_
    refine g_sipush C 200 dX2_requireTriple_5 (by decide) ?_
    refine g_icmp_lt C 21 dX2_requireTriple_8 (by decide) (by omega) (by decide) (fun c8 => ?_) (fun c8 => ?_)
    · exact x_ret (g_vret C dX2_requireTriple_21 rfl (⟨I, O, L, K, rfl, ⟨rfl, rfl, rfl, rfl⟩, (inR_nI hj).mpr c8, rfl⟩))
    · exact x_throw C hst T9 hx9 "no such triple" (Or.inl ⟨rfl, rfl, rfl⟩) (by decide +kernel) (by decide +kernel) (fun w hw => List.mem_cons_of_mem _ (List.mem_append_right _ hw)) (by decide) dX2_requireTriple_11 dX2_requireTriple_14 dX2_requireTriple_15 dX2_requireTriple_17 dX2_requireTriple_20 (Nat.le_of_ble_eq_true rfl) (Nat.le_of_ble_eq_true rfl) (Nat.le_of_ble_eq_true rfl) (Nat.le_of_ble_eq_true rfl) ⟨rfl, rfl, fun q => absurd ((inR_nI hj).mp q) (Nat.not_lt.mpr c8)⟩ (Nat.le_of_ble_eq_true rfl) (Nat.le_of_ble_eq_true rfl)
set_option maxRecDepth 100000 in
set_option maxHeartbeats 1000000 in
theorem k_X2_requireGraph (l : Launch) (hst : l.stackTraces = false) (D : va_G) (g : Nat → ClassId) (A : Nat → Prop) (xa : Nat → Nat) (I : VV) (O : OO) (L : List Nat) (K : Nat → Nat) (x : Int32) : CM l yX2_requireGraph wsX2_requireGraph ({ frames := 6, cells := 1, slots := 6, locals := 82 } : Room) 1 6 D g A xa [.int x] I O L K (fun r I1 O1 L1 K1 => (I1 = I ∧ O1 = O ∧ L1 = L ∧ K1 = K) ∧ inR x 4 ∧ r = none) (fun E => E = xIA ∧ ¬ inR x 4) := by
  refine x_ofW [(0, .int x)] (by decide) rfl (Nat.le_of_ble_eq_true rfl) rfl (by simp [Value.category, vcat_rf]) ?_
  intro p e s m args below meth c C T9 hx9
  refine g_iload_n C dX2_requireGraph_0 rfl ?_
  refine g_ifx_lt C 9 dX2_requireGraph_1 (by decide) (fun c1 => ?_) (fun c1 => ?_)
  · exact x_throw C hst T9 hx9 "no such graph" (Or.inl ⟨rfl, rfl, rfl⟩) (by decide +kernel) (by decide +kernel) (fun w hw => List.mem_cons_of_mem _ (List.mem_append_right _ hw)) (by decide) dX2_requireGraph_9 dX2_requireGraph_12 dX2_requireGraph_13 dX2_requireGraph_15 dX2_requireGraph_18 (Nat.le_of_ble_eq_true rfl) (Nat.le_of_ble_eq_true rfl) (Nat.le_of_ble_eq_true rfl) (Nat.le_of_ble_eq_true rfl) ⟨rfl, rfl, inR_neg c1⟩ (Nat.le_of_ble_eq_true rfl) (Nat.le_of_ble_eq_true rfl)
  · obtain ⟨j, hj, rfl⟩ := nI_of c1
    refine g_iload_n C dX2_requireGraph_4 rfl ?_
    refine g_iconst C 4 dX2_requireGraph_5 (by decide) ?_
    refine g_icmp_lt C 19 dX2_requireGraph_6 (by decide) (by omega) (by decide) (fun c6 => ?_) (fun c6 => ?_)
    · exact x_ret (g_vret C dX2_requireGraph_19 rfl (⟨I, O, L, K, rfl, ⟨rfl, rfl, rfl, rfl⟩, (inR_nI hj).mpr c6, rfl⟩))
    · exact x_throw C hst T9 hx9 "no such graph" (Or.inl ⟨rfl, rfl, rfl⟩) (by decide +kernel) (by decide +kernel) (fun w hw => List.mem_cons_of_mem _ (List.mem_append_right _ hw)) (by decide) dX2_requireGraph_9 dX2_requireGraph_12 dX2_requireGraph_13 dX2_requireGraph_15 dX2_requireGraph_18 (Nat.le_of_ble_eq_true rfl) (Nat.le_of_ble_eq_true rfl) (Nat.le_of_ble_eq_true rfl) (Nat.le_of_ble_eq_true rfl) ⟨rfl, rfl, fun q => absurd ((inR_nI hj).mp q) (Nat.not_lt.mpr c6)⟩ (Nat.le_of_ble_eq_true rfl) (Nat.le_of_ble_eq_true rfl)
set_option maxRecDepth 100000 in
set_option maxHeartbeats 1000000 in
theorem k_X2_requireKind (l : Launch) (hst : l.stackTraces = false) (D : va_G) (g : Nat → ClassId) (A : Nat → Prop) (xa : Nat → Nat) (I : VV) (O : OO) (L : List Nat) (K : Nat → Nat) (x : Int32) : CM l yX2_requireKind wsX2_requireKind ({ frames := 6, cells := 1, slots := 6, locals := 82 } : Room) 1 6 D g A xa [.int x] I O L K (fun r I1 O1 L1 K1 => (I1 = I ∧ O1 = O ∧ L1 = L ∧ K1 = K) ∧ (x = nI 0 ∨ x = nI 1) ∧ r = none) (fun E => E = xIA ∧ ¬ (x = nI 0 ∨ x = nI 1)) := by
  refine x_ofW [(0, .int x)] (by decide) rfl (Nat.le_of_ble_eq_true rfl) rfl (by simp [Value.category, vcat_rf]) ?_
  intro p e s m args below meth c C T9 hx9
  refine g_iload_n C dX2_requireKind_0 rfl ?_
  refine g_ifx_eq C 19 dX2_requireKind_1 (by decide) (fun c1 => ?_) (fun c1 => ?_)
  · exact x_ret (g_vret C dX2_requireKind_19 rfl (⟨I, O, L, K, rfl, ⟨rfl, rfl, rfl, rfl⟩, Or.inl (c1.trans nI_0.symm), rfl⟩))
  · refine g_iload_n C dX2_requireKind_4 rfl ?_
    refine g_iconst C 1 dX2_requireKind_5 (by decide) ?_
    refine g_icmpx_eq C 19 dX2_requireKind_6 (by decide) (fun c6 => ?_) (fun c6 => ?_)
    · exact x_ret (g_vret C dX2_requireKind_19 rfl (⟨I, O, L, K, rfl, ⟨rfl, rfl, rfl, rfl⟩, Or.inr c6, rfl⟩))
    · exact x_throw C hst T9 hx9 "no such kind of conflict" (Or.inl ⟨rfl, rfl, rfl⟩) (by decide +kernel) (by decide +kernel) (fun w hw => List.mem_cons_of_mem _ (List.mem_append_right _ hw)) (by decide) dX2_requireKind_9 dX2_requireKind_12 dX2_requireKind_13 dX2_requireKind_15 dX2_requireKind_18 (Nat.le_of_ble_eq_true rfl) (Nat.le_of_ble_eq_true rfl) (Nat.le_of_ble_eq_true rfl) (Nat.le_of_ble_eq_true rfl) ⟨rfl, rfl, fun q => q.elim (fun z => c1 (z.trans nI_0)) c6⟩ (Nat.le_of_ble_eq_true rfl) (Nat.le_of_ble_eq_true rfl)
set_option maxRecDepth 100000 in
set_option maxHeartbeats 1000000 in
theorem k_X2_known (l : Launch) (hst : l.stackTraces = false) (D : va_G) (g : Nat → ClassId) (A : Nat → Prop) (xa : Nat → Nat) (I : VV) (O : OO) (L : List Nat) (K : Nat → Nat) {N : Nat} (hB : BdN I N) (hN : N ≤ 2 ^ 30) {V : VV} (hS : RS V I) (hT : RT V I O L K) (hC : V 16 0 ≤ 60) (x : Int32) : CM l yX2_known wsX2_known ({ frames := 6, cells := 1, slots := 6, locals := 82 } : Room) 1 6 D g A xa [.ref (xa 0), .int x] I O L K (fun r I1 O1 L1 K1 => (I1 = I ∧ O1 = O ∧ L1 = L ∧ K1 = K) ∧ ∃ j, x = nI j ∧ j < 2 ^ 31 ∧ j < V 16 0 ∧ r = some (.ref (tx O j))) (fun E => E = xIA ∧ ¬ inR x (V 16 0)) := by
  refine x_ofW [(0, .ref (xa 0)), (1, .int x)] (by decide) rfl (Nat.le_of_ble_eq_true rfl) rfl (by simp [Value.category, vcat_rf]) ?_
  intro p e s m args below meth c C T9 hx9
  have i2 : ∀ w ∈ wsX20, w ∈ wsX2_known := by decide +kernel
  have hbeg : I 0 0 = V 16 0 := hS.1
  refine g_iload_n C dX2_known_0 rfl ?_
  refine g_ifx_lt C 12 dX2_known_1 (by decide) (fun c1 => ?_) (fun c1 => ?_)
  · exact x_throw C hst T9 hx9 "no such transaction" (Or.inl ⟨rfl, rfl, rfl⟩) (by decide +kernel) (by decide +kernel) (fun w hw => List.mem_cons_of_mem _ (List.mem_append_right _ hw)) (by decide) dX2_known_12 dX2_known_15 dX2_known_16 dX2_known_18 dX2_known_21 (Nat.le_of_ble_eq_true rfl) (Nat.le_of_ble_eq_true rfl) (Nat.le_of_ble_eq_true rfl) (Nat.le_of_ble_eq_true rfl) ⟨rfl, rfl, inR_neg c1⟩ (Nat.le_of_ble_eq_true rfl) (Nat.le_of_ble_eq_true rfl)
  · obtain ⟨j, hj, rfl⟩ := nI_of c1
    refine g_iload_n C dX2_known_4 rfl ?_
    first | refine g_aload_n C dX2_known_5 rfl ?_ | refine g_aload_nq C _ dX2_known_5 rfl ?_
    refine cg_begun C i2 (by decide +kernel) dX2_known_6 ?_
    rw [hbeg]
    refine g_icmp_lt C 22 dX2_known_9 (by decide) (by omega) (by omega) (fun c9 => ?_) (fun c9 => ?_)
    · first | refine g_aload_n C dX2_known_22 rfl ?_ | refine g_aload_nq C _ dX2_known_22 rfl ?_
      refine cg_transactions C i2 (by decide +kernel) dX2_known_23 ?_
      refine g_iload_n C dX2_known_26 rfl ?_
      refine cl_transactions C dX2_known_27 (by omega) ?_
      obtain ⟨t2, -⟩ := hT j c9
      rw [t2]
      exact x_ret (g_aret C (r := _) dX2_known_28 rfl (⟨I, O, L, K, rfl, ⟨rfl, rfl, rfl, rfl⟩, j, rfl, hj, c9, rfl⟩))
    · exact x_throw C hst T9 hx9 "no such transaction" (Or.inl ⟨rfl, rfl, rfl⟩) (by decide +kernel) (by decide +kernel) (fun w hw => List.mem_cons_of_mem _ (List.mem_append_right _ hw)) (by decide) dX2_known_12 dX2_known_15 dX2_known_16 dX2_known_18 dX2_known_21 (Nat.le_of_ble_eq_true rfl) (Nat.le_of_ble_eq_true rfl) (Nat.le_of_ble_eq_true rfl) (Nat.le_of_ble_eq_true rfl) ⟨rfl, rfl, fun q => absurd ((inR_nI hj).mp q) (Nat.not_lt.mpr c9)⟩ (Nat.le_of_ble_eq_true rfl) (Nat.le_of_ble_eq_true rfl)
set_option maxRecDepth 100000 in
set_option maxHeartbeats 1000000 in
theorem k_X2_requireVersion (l : Launch) (hst : l.stackTraces = false) (D : va_G) (g : Nat → ClassId) (A : Nat → Prop) (xa : Nat → Nat) (I : VV) (O : OO) (L : List Nat) (K : Nat → Nat) {N : Nat} (hB : BdN I N) (hN : N ≤ 2 ^ 30) {V : VV} (hS : RS V I) (hT : RT V I O L K) (hC : V 16 0 ≤ 60) (hLa : V 4 0 ≤ 60) (hSt : ∀ i, i < V 16 0 → V 8 i ≤ 4) (x : Int32) : CM l yX2_requireVersion wsX2_requireVersion ({ frames := 6, cells := 1, slots := 6, locals := 82 } : Room) 1 6 D g A xa [.ref (xa 0), .int x] I O L K (fun r I1 O1 L1 K1 => (I1 = I ∧ O1 = O ∧ L1 = L ∧ K1 = K) ∧ (∃ j, x = nI j ∧ j ≤ V 4 0 ∧ vLK V ≤ j) ∧ r = none) (fun E => E = xIA ∧ ¬ tel V x) := by
  refine x_ofW [(0, .ref (xa 0)), (1, .int x)] (by decide) rfl (Nat.le_of_ble_eq_true rfl) rfl (by simp [Value.category, vcat_rf]) ?_
  intro p e s m args below meth c C T9 hx9
  have i1 : ∀ w ∈ wsX10, w ∈ wsX2_requireVersion := by decide +kernel
  have i2 : ∀ w ∈ wsX20, w ∈ wsX2_requireVersion := by decide +kernel
  have hlat : I 2 0 = V 4 0 := hS.2.1
  have hvk : vLK V ≤ V 4 0 := vLK_le V
  have hl1 : vLK V < 2 ^ 31 := by omega
  have hl2 : V 4 0 < 2 ^ 31 := by omega
  refine g_iload_n C dX2_requireVersion_0 rfl ?_
  first | refine g_aload_n C dX2_requireVersion_1 rfl ?_ | refine g_aload_nq C _ dX2_requireVersion_1 rfl ?_
  refine g_callC C (k_X2_leastKept l D g A xa _ _ _ _ hB hN hS hT hC hLa hSt) gX2_requireVersion_X2_leastKept dX2_requireVersion_2 (n := 0) rfl rfl rfl (by decide +kernel) ⟨Nat.le_of_ble_eq_true rfl, Nat.le_of_ble_eq_true rfl⟩ rfl rfl (Nat.le_of_ble_eq_true rfl) ⟨Nat.le_of_ble_eq_true rfl, Nat.le_of_ble_eq_true rfl⟩ (fun r I1 O1 L1 K1 hq => ?_)
  obtain ⟨⟨e1, e2, e3, e4⟩, hq⟩ := hq
  rw [e1, e2, e3, e4]
  rw [hq]
  refine g_icmpx_lt C 16 dX2_requireVersion_5 (by decide) (fun c5 => ?_) (fun c5 => ?_)
  · have c5 := Int32.lt_iff_toInt_lt.mp c5
    rw [nI_toInt hl1] at c5
    exact x_throw C hst T9 hx9 "no such version, or one below the least kept" (Or.inl ⟨rfl, rfl, rfl⟩) (by decide +kernel) (by decide +kernel) (fun w hw => List.mem_cons_of_mem _ (List.mem_append_right _ hw)) (by decide) dX2_requireVersion_16 dX2_requireVersion_19 dX2_requireVersion_20 dX2_requireVersion_22 dX2_requireVersion_25 (Nat.le_of_ble_eq_true rfl) (Nat.le_of_ble_eq_true rfl) (Nat.le_of_ble_eq_true rfl) (Nat.le_of_ble_eq_true rfl) ⟨rfl, rfl, fun q => by have := q.1; have := q.2; omega⟩ (Nat.le_of_ble_eq_true rfl) (Nat.le_of_ble_eq_true rfl)
  · have c5 := Int32.le_iff_toInt_le.mp (Int32.not_lt.mp c5)
    rw [nI_toInt hl1] at c5
    refine g_iload_n C dX2_requireVersion_8 rfl ?_
    first | refine g_aload_n C dX2_requireVersion_9 rfl ?_ | refine g_aload_nq C _ dX2_requireVersion_9 rfl ?_
    refine cg_latestVersion C i2 (by decide +kernel) dX2_requireVersion_10 ?_
    rw [hlat]
    refine g_icmpx_le C 26 dX2_requireVersion_13 (by decide) (fun c13 => ?_) (fun c13 => ?_)
    · have c13 := Int32.le_iff_toInt_le.mp c13
      rw [nI_toInt hl2] at c13
      obtain ⟨j, hj, rfl⟩ := nI_of (show ¬ x < 0 from fun z => by have z := Int32.lt_iff_toInt_lt.mp z; rw [show (0 : Int32).toInt = 0 from rfl] at z; omega)
      rw [nI_toInt hj] at c5 c13
      exact x_ret (g_vret C dX2_requireVersion_26 rfl (⟨I, O, L, K, rfl, ⟨rfl, rfl, rfl, rfl⟩, ⟨j, rfl, by omega, by omega⟩, rfl⟩))
    · have c13 := Int32.lt_iff_toInt_lt.mp (Int32.not_le.mp c13)
      rw [nI_toInt hl2] at c13
      exact x_throw C hst T9 hx9 "no such version, or one below the least kept" (Or.inl ⟨rfl, rfl, rfl⟩) (by decide +kernel) (by decide +kernel) (fun w hw => List.mem_cons_of_mem _ (List.mem_append_right _ hw)) (by decide) dX2_requireVersion_16 dX2_requireVersion_19 dX2_requireVersion_20 dX2_requireVersion_22 dX2_requireVersion_25 (Nat.le_of_ble_eq_true rfl) (Nat.le_of_ble_eq_true rfl) (Nat.le_of_ble_eq_true rfl) (Nat.le_of_ble_eq_true rfl) ⟨rfl, rfl, fun q => by have := q.1; have := q.2; omega⟩ (Nat.le_of_ble_eq_true rfl) (Nat.le_of_ble_eq_true rfl)
set_option maxRecDepth 100000 in
set_option maxHeartbeats 1000000 in
theorem k_X2_requirePinned (l : Launch) (hst : l.stackTraces = false) (D : va_G) (g : Nat → ClassId) (A : Nat → Prop) (xa : Nat → Nat) (I : VV) (O : OO) (L : List Nat) (K : Nat → Nat) {N : Nat} (hB : BdN I N) (hN : N ≤ 2 ^ 30) {V : VV} (hS : RS V I) (hLa : V 4 0 ≤ 60) (hpn : ∀ v, V 4 0 < v → V 5 v = 0) (x : Int32) : CM l yX2_requirePinned wsX2_requirePinned ({ frames := 6, cells := 1, slots := 6, locals := 82 } : Room) 1 6 D g A xa [.ref (xa 0), .int x] I O L K (fun r I1 O1 L1 K1 => (I1 = I ∧ O1 = O ∧ L1 = L ∧ K1 = K) ∧ (∃ j, x = nI j ∧ j ≤ V 4 0 ∧ 0 < V 5 j) ∧ r = none) (fun E => E = xIA ∧ ¬ (inR x 64 ∧ 0 < V 5 (ix x))) := by
  refine x_ofW [(0, .ref (xa 0)), (1, .int x)] (by decide) rfl (Nat.le_of_ble_eq_true rfl) rfl (by simp [Value.category, vcat_rf]) ?_
  intro p e s m args below meth c C T9 hx9
  have i2 : ∀ w ∈ wsX20, w ∈ wsX2_requirePinned := by decide +kernel
  have hlat : I 2 0 = V 4 0 := hS.2.1
  have hpin := hS.2.2.2.2.1
  refine g_iload_n C dX2_requirePinned_0 rfl ?_
  refine g_ifx_lt C 21 dX2_requirePinned_1 (by decide) (fun c1 => ?_) (fun c1 => ?_)
  · exact x_throw C hst T9 hx9 "no such pinned version" (Or.inl ⟨rfl, rfl, rfl⟩) (by decide +kernel) (by decide +kernel) (fun w hw => List.mem_cons_of_mem _ (List.mem_append_right _ hw)) (by decide) dX2_requirePinned_21 dX2_requirePinned_24 dX2_requirePinned_25 dX2_requirePinned_27 dX2_requirePinned_30 (Nat.le_of_ble_eq_true rfl) (Nat.le_of_ble_eq_true rfl) (Nat.le_of_ble_eq_true rfl) (Nat.le_of_ble_eq_true rfl) ⟨rfl, rfl, fun q => inR_neg c1 q.1⟩ (Nat.le_of_ble_eq_true rfl) (Nat.le_of_ble_eq_true rfl)
  · obtain ⟨j, hj, rfl⟩ := nI_of c1
    refine g_iload_n C dX2_requirePinned_4 rfl ?_
    first | refine g_aload_n C dX2_requirePinned_5 rfl ?_ | refine g_aload_nq C _ dX2_requirePinned_5 rfl ?_
    refine cg_latestVersion C i2 (by decide +kernel) dX2_requirePinned_6 ?_
    rw [hlat]
    refine g_icmp_gt C 21 dX2_requirePinned_9 (by decide) (by omega) (by omega) (fun c9 => ?_) (fun c9 => ?_)
    · exact x_throw C hst T9 hx9 "no such pinned version" (Or.inl ⟨rfl, rfl, rfl⟩) (by decide +kernel) (by decide +kernel) (fun w hw => List.mem_cons_of_mem _ (List.mem_append_right _ hw)) (by decide) dX2_requirePinned_21 dX2_requirePinned_24 dX2_requirePinned_25 dX2_requirePinned_27 dX2_requirePinned_30 (Nat.le_of_ble_eq_true rfl) (Nat.le_of_ble_eq_true rfl) (Nat.le_of_ble_eq_true rfl) (Nat.le_of_ble_eq_true rfl) ⟨rfl, rfl, fun q => by have h9 := q.2; rw [ix_nI hj, hpn j (by omega)] at h9; omega⟩ (Nat.le_of_ble_eq_true rfl) (Nat.le_of_ble_eq_true rfl)
    · first | refine g_aload_n C dX2_requirePinned_12 rfl ?_ | refine g_aload_nq C _ dX2_requirePinned_12 rfl ?_
      refine cg_pins C i2 (by decide +kernel) dX2_requirePinned_13 ?_
      refine g_iload_n C dX2_requirePinned_16 rfl ?_
      refine cl_pins C dX2_requirePinned_17 (by omega) ?_
      refine g_if_ne C 31 dX2_requirePinned_18 (by decide) (bd hB hN _ _) (fun c18 => ?_) (fun c18 => ?_)
      · rw [hpin j (by omega)] at c18
        exact x_ret (g_vret C dX2_requirePinned_31 rfl (⟨I, O, L, K, rfl, ⟨rfl, rfl, rfl, rfl⟩, ⟨j, rfl, by omega, c18⟩, rfl⟩))
      · exact x_throw C hst T9 hx9 "no such pinned version" (Or.inl ⟨rfl, rfl, rfl⟩) (by decide +kernel) (by decide +kernel) (fun w hw => List.mem_cons_of_mem _ (List.mem_append_right _ hw)) (by decide) dX2_requirePinned_21 dX2_requirePinned_24 dX2_requirePinned_25 dX2_requirePinned_27 dX2_requirePinned_30 (Nat.le_of_ble_eq_true rfl) (Nat.le_of_ble_eq_true rfl) (Nat.le_of_ble_eq_true rfl) (Nat.le_of_ble_eq_true rfl) ⟨rfl, rfl, fun q => by have h9 := q.2; rw [ix_nI hj] at h9; rw [hpin j (by omega)] at c18; omega⟩ (Nat.le_of_ble_eq_true rfl) (Nat.le_of_ble_eq_true rfl)
set_option maxRecDepth 100000 in
set_option maxHeartbeats 1000000 in
theorem k_X2_requireNotEnded (l : Launch) (hst : l.stackTraces = false) (D : va_G) (g : Nat → ClassId) (A : Nat → Prop) (xa : Nat → Nat) (I : VV) (O : OO) (L : List Nat) (K : Nat → Nat) {N : Nat} (hB : BdN I N) (hN : N ≤ 2 ^ 30) {V : VV} (hT : RT V I O L K) (t : Nat) (ht : t < V 16 0) (h4 : V 8 t ≤ 4) (a : Nat) (ha : tx O t = a) : CM l yX2_requireNotEnded wsX2_requireNotEnded ({ frames := 6, cells := 1, slots := 6, locals := 82 } : Room) 1 6 D g A xa [.ref a] I O L K (fun r I1 O1 L1 K1 => (I1 = I ∧ O1 = O ∧ L1 = L ∧ K1 = K) ∧ V 8 t < 3 ∧ r = none) (fun E => E = xIS ∧ 3 ≤ V 8 t) := by
  subst ha
  refine x_ofW [(0, .ref (tx O t))] (by decide) rfl (Nat.le_of_ble_eq_true rfl) rfl (by simp [Value.category, vcat_rf]) ?_
  intro p e s m args below meth c C T9 hx9
  have i1 : ∀ w ∈ wsX10, w ∈ wsX2_requireNotEnded := by decide +kernel
  obtain ⟨-, tL, tK, -, h13, -, h16, -, -⟩ := hT t ht
  first | refine g_aload_n C dX2_requireNotEnded_0 rfl ?_ | refine g_aload_nq C _ dX2_requireNotEnded_0 rfl ?_
  refine g_callT C (k_X1_hasEnded l D g A xa _ _ _ _ hB hN (tx O t) tL tK) (by assumption) (by assumption) gX2_requireNotEnded_X1_hasEnded dX2_requireNotEnded_1 (n := 0) rfl rfl rfl (by decide +kernel) ⟨Nat.le_of_ble_eq_true rfl, Nat.le_of_ble_eq_true rfl⟩ rfl rfl (Nat.le_of_ble_eq_true rfl) ⟨Nat.le_of_ble_eq_true rfl, Nat.le_of_ble_eq_true rfl⟩ (fun r I1 O1 L1 K1 hq => ?_)
  obtain ⟨⟨e1, e2, e3, e4⟩, hq⟩ := hq
  rw [e1, e2, e3, e4]
  rw [h16] at hq
  rcases hq with ⟨h1, rfl⟩ | ⟨h1, rfl⟩
  · refine g_if_eq C 17 dX2_requireNotEnded_4 (by decide) (by decide) (fun c4 => absurd c4 (by decide)) (fun c4 => ?_)
    exact x_throw C hst T9 hx9 "the transaction has ended" (Or.inr ⟨rfl, rfl, rfl⟩) (by decide +kernel) (by decide +kernel) (fun w hw => List.mem_cons_of_mem _ (List.mem_append_right _ hw)) (by decide) dX2_requireNotEnded_7 dX2_requireNotEnded_10 dX2_requireNotEnded_11 dX2_requireNotEnded_13 dX2_requireNotEnded_16 (Nat.le_of_ble_eq_true rfl) (Nat.le_of_ble_eq_true rfl) (Nat.le_of_ble_eq_true rfl) (Nat.le_of_ble_eq_true rfl) ⟨rfl, rfl, by omega⟩ (Nat.le_of_ble_eq_true rfl) (Nat.le_of_ble_eq_true rfl)
  · refine g_if_eq C 17 dX2_requireNotEnded_4 (by decide) (by decide) (fun c4 => ?_) (fun c4 => absurd c4 (by decide))
    exact x_ret (g_vret C dX2_requireNotEnded_17 rfl (⟨I, O, L, K, rfl, ⟨rfl, rfl, rfl, rfl⟩, by omega, rfl⟩))
set_option maxRecDepth 100000 in
set_option maxHeartbeats 1000000 in
theorem k_X2_requireNotWaiting (l : Launch) (hst : l.stackTraces = false) (D : va_G) (g : Nat → ClassId) (A : Nat → Prop) (xa : Nat → Nat) (I : VV) (O : OO) (L : List Nat) (K : Nat → Nat) {N : Nat} (hB : BdN I N) (hN : N ≤ 2 ^ 30) {V : VV} (hT : RT V I O L K) (t : Nat) (ht : t < V 16 0) (a : Nat) (ha : tx O t = a) : CM l yX2_requireNotWaiting wsX2_requireNotWaiting ({ frames := 6, cells := 1, slots := 6, locals := 82 } : Room) 1 6 D g A xa [.ref a] I O L K (fun r I1 O1 L1 K1 => (I1 = I ∧ O1 = O ∧ L1 = L ∧ K1 = K) ∧ V 8 t ≠ 1 ∧ r = none) (fun E => E = xIS ∧ V 8 t = 1) := by
  subst ha
  refine x_ofW [(0, .ref (tx O t))] (by decide) rfl (Nat.le_of_ble_eq_true rfl) rfl (by simp [Value.category, vcat_rf]) ?_
  intro p e s m args below meth c C T9 hx9
  have i1 : ∀ w ∈ wsX10, w ∈ wsX2_requireNotWaiting := by decide +kernel
  obtain ⟨-, tL, tK, -, h13, -, h16, -, -⟩ := hT t ht
  have h8 : V 8 t < N := by rw [← h16]; exact hB 16 (tx O t)
  first | refine g_aload_n C dX2_requireNotWaiting_0 rfl ?_ | refine g_aload_nq C _ dX2_requireNotWaiting_0 rfl ?_
  refine tg_state C (by assumption) (by assumption) i1 (by decide +kernel) dX2_requireNotWaiting_1 ?_
  rw [h16]
  refine g_iconst C 1 dX2_requireNotWaiting_4 (by decide) ?_
  refine g_icmp_ne C 18 dX2_requireNotWaiting_5 (by decide) (by omega) (by decide) (fun c5 => ?_) (fun c5 => ?_)
  · exact x_ret (g_vret C dX2_requireNotWaiting_18 rfl (⟨I, O, L, K, rfl, ⟨rfl, rfl, rfl, rfl⟩, c5, rfl⟩))
  · exact x_throw C hst T9 hx9 "the transaction waits" (Or.inr ⟨rfl, rfl, rfl⟩) (by decide +kernel) (by decide +kernel) (fun w hw => List.mem_cons_of_mem _ (List.mem_append_right _ hw)) (by decide) dX2_requireNotWaiting_8 dX2_requireNotWaiting_11 dX2_requireNotWaiting_12 dX2_requireNotWaiting_14 dX2_requireNotWaiting_17 (Nat.le_of_ble_eq_true rfl) (Nat.le_of_ble_eq_true rfl) (Nat.le_of_ble_eq_true rfl) (Nat.le_of_ble_eq_true rfl) ⟨rfl, rfl, c5⟩ (Nat.le_of_ble_eq_true rfl) (Nat.le_of_ble_eq_true rfl)
set_option maxRecDepth 100000 in
set_option maxHeartbeats 1000000 in
theorem k_X2_requireOpenWriter (l : Launch) (hst : l.stackTraces = false) (D : va_G) (g : Nat → ClassId) (A : Nat → Prop) (xa : Nat → Nat) (I : VV) (O : OO) (L : List Nat) (K : Nat → Nat) {N : Nat} (hB : BdN I N) (hN : N ≤ 2 ^ 30) {V : VV} (hT : RT V I O L K) (t : Nat) (ht : t < V 16 0) (a : Nat) (ha : tx O t = a) : CM l yX2_requireOpenWriter wsX2_requireOpenWriter ({ frames := 6, cells := 1, slots := 6, locals := 82 } : Room) 1 6 D g A xa [.ref a] I O L K (fun r I1 O1 L1 K1 => (I1 = I ∧ O1 = O ∧ L1 = L ∧ K1 = K) ∧ (V 8 t = 0 ∧ 0 < V 6 t) ∧ r = none) (fun E => E = xIS ∧ ¬ (V 8 t = 0 ∧ 0 < V 6 t)) := by
  subst ha
  refine x_ofW [(0, .ref (tx O t))] (by decide) rfl (Nat.le_of_ble_eq_true rfl) rfl (by simp [Value.category, vcat_rf]) ?_
  intro p e s m args below meth c C T9 hx9
  have i1 : ∀ w ∈ wsX10, w ∈ wsX2_requireOpenWriter := by decide +kernel
  obtain ⟨-, tL, tK, -, h13, -, h16, -, -⟩ := hT t ht
  have h8 : V 8 t < N := by rw [← h16]; exact hB 16 (tx O t)
  have h6 : V 6 t < N := by rw [← h13]; exact hB 13 (tx O t)
  first | refine g_aload_n C dX2_requireOpenWriter_0 rfl ?_ | refine g_aload_nq C _ dX2_requireOpenWriter_0 rfl ?_
  refine tg_writer C (by assumption) (by assumption) i1 (by decide +kernel) dX2_requireOpenWriter_1 ?_
  rw [h13]
  refine g_if_eq C 14 dX2_requireOpenWriter_4 (by decide) (by omega) (fun c4 => ?_) (fun c4 => ?_)
  · exact x_throw C hst T9 hx9 "not an open writer" (Or.inr ⟨rfl, rfl, rfl⟩) (by decide +kernel) (by decide +kernel) (fun w hw => List.mem_cons_of_mem _ (List.mem_append_right _ hw)) (by decide) dX2_requireOpenWriter_14 dX2_requireOpenWriter_17 dX2_requireOpenWriter_18 dX2_requireOpenWriter_20 dX2_requireOpenWriter_23 (Nat.le_of_ble_eq_true rfl) (Nat.le_of_ble_eq_true rfl) (Nat.le_of_ble_eq_true rfl) (Nat.le_of_ble_eq_true rfl) ⟨rfl, rfl, fun q => by have := q.2; omega⟩ (Nat.le_of_ble_eq_true rfl) (Nat.le_of_ble_eq_true rfl)
  · first | refine g_aload_n C dX2_requireOpenWriter_7 rfl ?_ | refine g_aload_nq C _ dX2_requireOpenWriter_7 rfl ?_
    refine tg_state C (by assumption) (by assumption) i1 (by decide +kernel) dX2_requireOpenWriter_8 ?_
    rw [h16]
    refine g_if_eq C 24 dX2_requireOpenWriter_11 (by decide) (by omega) (fun c11 => ?_) (fun c11 => ?_)
    · exact x_ret (g_vret C dX2_requireOpenWriter_24 rfl (⟨I, O, L, K, rfl, ⟨rfl, rfl, rfl, rfl⟩, ⟨c11, by omega⟩, rfl⟩))
    · exact x_throw C hst T9 hx9 "not an open writer" (Or.inr ⟨rfl, rfl, rfl⟩) (by decide +kernel) (by decide +kernel) (fun w hw => List.mem_cons_of_mem _ (List.mem_append_right _ hw)) (by decide) dX2_requireOpenWriter_14 dX2_requireOpenWriter_17 dX2_requireOpenWriter_18 dX2_requireOpenWriter_20 dX2_requireOpenWriter_23 (Nat.le_of_ble_eq_true rfl) (Nat.le_of_ble_eq_true rfl) (Nat.le_of_ble_eq_true rfl) (Nat.le_of_ble_eq_true rfl) ⟨rfl, rfl, fun q => by have := q.1; omega⟩ (Nat.le_of_ble_eq_true rfl) (Nat.le_of_ble_eq_true rfl)
