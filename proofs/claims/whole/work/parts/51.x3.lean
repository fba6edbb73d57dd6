/-- what a call of the class leaves -/
def CR (N : Nat) (V' : VV) (I1 : VV) (O1 : OO) (L1 : List Nat) (K1 : Nat → Nat) : Prop := BdN I1 (N + 4000) ∧ I1 1 0 = V' 3 0 ∧ ∃ own1, RC V' I1 O1 L1 K1 own1
theorem tel_nI {V : VV} {j : Nat} (h : j < 2 ^ 31) : tel V (nI j) ↔ vLK V ≤ j ∧ j ≤ V 4 0 := by
  unfold tel
  rw [nI_toInt h]
  omega
theorem RC.pin {V I : VV} {O : OO} {L : List Nat} {K own : Nat → Nat} {j v : Nat} (h : RC V I O L K own) : RC (u2 V 5 j v) (u2 I 5 j v) O L K own := by
  obtain ⟨hS, hT, hM, hH, hNw, hQ⟩ := h
  refine ⟨?_, hT.cong ⟨rfl, rfl, rfl, rfl, rfl, rfl, rfl, rfl⟩ ⟨rfl, rfl, rfl, rfl, rfl, rfl, rfl⟩ ⟨rfl, rfl⟩, hM.cong ⟨rfl, rfl⟩ ⟨rfl, fun g9 => by simp only [u2]; rw [if_neg (by omega)]⟩ ⟨rfl, rfl⟩, hH.cong ⟨rfl, rfl⟩ rfl ⟨rfl, rfl⟩, hNw.cong ⟨rfl, rfl, rfl, rfl⟩ ⟨rfl, rfl⟩ ⟨rfl, rfl⟩, hQ.cong ⟨rfl, rfl, rfl⟩ ⟨rfl, rfl, rfl, rfl⟩⟩
  obtain ⟨q1, q2, q3, q4, q5, q6, q7, q8⟩ := hS
  refine ⟨q1, q2, q3, q4, fun k hk => ?_, q6, q7, q8⟩
  rw [u2_eq, u2_eq]
  split
  · rfl
  · exact q5 k hk
set_option maxRecDepth 100000 in
set_option maxHeartbeats 1000000 in
theorem k_X2_state (l : Launch) (hst : l.stackTraces = false) (D : va_G) (g : Nat → ClassId) (A : Nat → Prop) (xa : Nat → Nat) (I : VV) (O : OO) (L : List Nat) (K : Nat → Nat) {N : Nat} (hB : BdN I N) (hN4 : N + 4000 ≤ 2 ^ 30) {V : VV} {own : Nat → Nat} (hN2 : 20000 ≤ N) (hV : Inv V) (hR : RC V I O L K own) (hrc : I 1 0 = V 3 0) (x : Int32) : CM l yX2_state wsX2_state ({ frames := 7, cells := 1, slots := 6, locals := 103 } : Room) 1 6 D g A xa [.ref (xa 0), .int x] I O L K (fun r I1 O1 L1 K1 => (I1 = I ∧ O1 = O ∧ L1 = L ∧ K1 = K) ∧ ∃ j, x = nI j ∧ j < 2 ^ 31 ∧ j < V 16 0 ∧ r = some (.int (nI (V 8 j)))) (fun E => E = xIA ∧ ¬ inR x (V 16 0)) := by
  refine x_ofW [(0, .ref (xa 0)), (1, .int x)] (by decide) rfl (Nat.le_of_ble_eq_true rfl) rfl (by simp [Value.category, vcat_rf]) ?_
  intro p e s m args below meth c C T9 hx9
  have i1 : ∀ w ∈ wsX10, w ∈ wsX2_state := by decide +kernel
  have i2 : ∀ w ∈ wsX20, w ∈ wsX2_state := by decide +kernel
  have hN : N ≤ 2 ^ 30 := by omega
  have hC := hV.1.1
  have hla := hV.1.lat
  have hSt : ∀ i, i < V 16 0 → V 8 i ≤ 4 := fun i _ => hV.2.2.1.2.2.1 i
  obtain ⟨hS, hT, hM, hH, hNw, hQ⟩ := id hR
  first | refine g_aload_n C dX2_state_0 rfl ?_ | refine g_aload_nq C _ dX2_state_0 rfl ?_
  refine g_iload_n C dX2_state_1 rfl ?_
  refine x_callC C T9 hx9 (k_X2_known l hst D g A xa _ _ _ _ hB hN hS hT hC x) gX2_state_X2_known dX2_state_2 (n := 1) rfl rfl rfl (by decide +kernel) ⟨Nat.le_of_ble_eq_true rfl, Nat.le_of_ble_eq_true rfl⟩ rfl rfl (Nat.le_of_ble_eq_true rfl) ⟨Nat.le_of_ble_eq_true rfl, Nat.le_of_ble_eq_true rfl⟩ (fun r I1 O1 L1 K1 hq => ?_) (fun E hE => hE) (Nat.le_of_ble_eq_true rfl) (Nat.le_of_ble_eq_true rfl)
  obtain ⟨⟨e1, e2, e3, e4⟩, hq⟩ := hq
  rw [e1, e2, e3, e4]
  obtain ⟨j, rfl, hj, hjc, hr⟩ := hq
  rw [hr]
  have hxj := (rfl : nI j = nI j)
  have hix : inR (nI j) (V 16 0) := (inR_nI hj).mpr hjc
  obtain ⟨t2, tL, tK, h12, h13, h14, h16, hO7, hwt⟩ := hT j hjc
  refine tg_state C (by assumption) (by assumption) i1 (by decide +kernel) dX2_state_5 ?_
  exact x_ret (g_iret C dX2_state_8 rfl (⟨I, O, L, K, rfl, ⟨rfl, rfl, rfl, rfl⟩, j, hxj, hj, hjc, by rw [h16]⟩))
set_option maxRecDepth 100000 in
set_option maxHeartbeats 1000000 in
theorem k_X2_waits (l : Launch) (hst : l.stackTraces = false) (D : va_G) (g : Nat → ClassId) (A : Nat → Prop) (xa : Nat → Nat) (I : VV) (O : OO) (L : List Nat) (K : Nat → Nat) {N : Nat} (hB : BdN I N) (hN4 : N + 4000 ≤ 2 ^ 30) {V : VV} {own : Nat → Nat} (hN2 : 20000 ≤ N) (hV : Inv V) (hR : RC V I O L K own) (hrc : I 1 0 = V 3 0) (x : Int32) : CM l yX2_waits wsX2_waits ({ frames := 7, cells := 1, slots := 6, locals := 103 } : Room) 1 6 D g A xa [.ref (xa 0), .int x] I O L K (fun r I1 O1 L1 K1 => (I1 = I ∧ O1 = O ∧ L1 = L ∧ K1 = K) ∧ ∃ j, x = nI j ∧ j < 2 ^ 31 ∧ j < V 16 0 ∧ r = some (.int (if V 8 j = 1 then nI (V 11 j) - 1 else -1))) (fun E => E = xIA ∧ ¬ inR x (V 16 0)) := by
  refine x_ofW [(0, .ref (xa 0)), (1, .int x)] (by decide) rfl (Nat.le_of_ble_eq_true rfl) rfl (by simp [Value.category, vcat_rf]) ?_
  intro p e s m args below meth c C T9 hx9
  have i1 : ∀ w ∈ wsX10, w ∈ wsX2_waits := by decide +kernel
  have i2 : ∀ w ∈ wsX20, w ∈ wsX2_waits := by decide +kernel
  have hN : N ≤ 2 ^ 30 := by omega
  have hC := hV.1.1
  have hla := hV.1.lat
  have hSt : ∀ i, i < V 16 0 → V 8 i ≤ 4 := fun i _ => hV.2.2.1.2.2.1 i
  obtain ⟨hS, hT, hM, hH, hNw, hQ⟩ := id hR
  first | refine g_aload_n C dX2_waits_0 rfl ?_ | refine g_aload_nq C _ dX2_waits_0 rfl ?_
  refine g_iload_n C dX2_waits_1 rfl ?_
  refine x_callC C T9 hx9 (k_X2_known l hst D g A xa _ _ _ _ hB hN hS hT hC x) gX2_waits_X2_known dX2_waits_2 (n := 1) rfl rfl rfl (by decide +kernel) ⟨Nat.le_of_ble_eq_true rfl, Nat.le_of_ble_eq_true rfl⟩ rfl rfl (Nat.le_of_ble_eq_true rfl) ⟨Nat.le_of_ble_eq_true rfl, Nat.le_of_ble_eq_true rfl⟩ (fun r I1 O1 L1 K1 hq => ?_) (fun E hE => hE) (Nat.le_of_ble_eq_true rfl) (Nat.le_of_ble_eq_true rfl)
  obtain ⟨⟨e1, e2, e3, e4⟩, hq⟩ := hq
  rw [e1, e2, e3, e4]
  obtain ⟨j, rfl, hj, hjc, hr⟩ := hq
  rw [hr]
  have hxj := (rfl : nI j = nI j)
  have hix : inR (nI j) (V 16 0) := (inR_nI hj).mpr hjc
  obtain ⟨t2, tL, tK, h12, h13, h14, h16, hO7, hwt⟩ := hT j hjc
  refine tg_waitsFor C (by assumption) (by assumption) i1 (by decide +kernel) dX2_waits_5 ?_
  first | refine g_astore_n C dX2_waits_8 (by decide) ?_ | refine g_astore_nq C dX2_waits_8 (by decide) ?_
  refine g_aload_nq C (O 7 (tx O j)) dX2_waits_9 rfl ?_
  refine g_ifnonnull C 17 dX2_waits_10 (by decide) (fun a10 c10 => ?_) (fun c10 => ?_)
  · have h81 : V 8 j = 1 := by
      by_cases z : V 8 j = 1
      · exact z
      · rw [hO7, if_neg z] at c10; exact absurd c10 (by simp)
    have h9 := hV.1.2.1 j hjc h81
    obtain ⟨-, wL, wK, w12, -⟩ := hT (V 11 j - 1) (by omega)
    rw [if_pos h81] at hO7
    first | refine g_aload_n C dX2_waits_17 rfl ?_ | refine g_aload_nq C _ dX2_waits_17 rfl ?_
    rw [hO7]
    refine tg_number C (by assumption) (by assumption) i1 (by decide +kernel) dX2_waits_18 ?_
    exact x_ret (g_iret C dX2_waits_21 rfl (⟨I, O, L, K, rfl, ⟨rfl, rfl, rfl, rfl⟩, j, hxj, hj, hjc, by rw [if_pos h81, w12, sh_pos h9.1]⟩))
  · have h81 : ¬ V 8 j = 1 := fun z => by rw [hO7, if_pos z] at c10; exact absurd c10 (by simp)
    refine g_iconstm C dX2_waits_13 ?_
    refine g_goto C 21 dX2_waits_14 (by decide) ?_
    exact x_ret (g_iret C dX2_waits_21 rfl (⟨I, O, L, K, rfl, ⟨rfl, rfl, rfl, rfl⟩, j, hxj, hj, hjc, by rw [if_neg h81]⟩))
set_option maxRecDepth 100000 in
set_option maxHeartbeats 1000000 in
theorem k_X2_ring (l : Launch) (D : va_G) (g : Nat → ClassId) (A : Nat → Prop) (xa : Nat → Nat) (I : VV) (O : OO) (L : List Nat) (K : Nat → Nat) {N : Nat} (hB : BdN I N) (hN : N ≤ 2 ^ 30) {V : VV} (hS : RS V I) (hG : V 22 0 ≤ 60) (x : Int32) : CC l yX2_ring wsX2_ring ({ frames := 0, cells := 0, slots := 0, locals := 0 } : Room) 0 0 D g A xa [.ref (xa 0), .int x] I O L K (fun r I1 O1 L1 K1 => (I1 = I ∧ O1 = O ∧ L1 = L ∧ K1 = K) ∧ r = some (.int (if inR x (V 22 0) then nI (V 21 (ix x)) else -1))) := by
  refine k_ofW [(0, .ref (xa 0)), (1, .int x)] (by decide) rfl (Nat.le_of_ble_eq_true rfl) rfl (by simp [Value.category, vcat_rf]) ?_
  intro p e s m args below meth c C
  have i2 : ∀ w ∈ wsX20, w ∈ wsX2_ring := by decide +kernel
  have h3 : I 3 0 = V 22 0 := hS.2.2.1
  have h9 := hS.2.2.2.2.2.2.2
  refine g_iload_n C dX2_ring_0 rfl ?_
  refine g_ifx_lt C 21 dX2_ring_1 (by decide) (fun c1 => ?_) (fun c1 => ?_)
  · refine g_iconstm C dX2_ring_21 ?_
    exact g_iret C dX2_ring_22 rfl (⟨I, O, L, K, rfl, ⟨rfl, rfl, rfl, rfl⟩, by rw [if_neg (inR_neg c1)]⟩)
  · obtain ⟨j, hj, rfl⟩ := nI_of c1
    refine g_iload_n C dX2_ring_4 rfl ?_
    first | refine g_aload_n C dX2_ring_5 rfl ?_ | refine g_aload_nq C _ dX2_ring_5 rfl ?_
    refine cg_ringSize C i2 (by decide +kernel) dX2_ring_6 ?_
    rw [h3]
    refine g_icmp_ge C 21 dX2_ring_9 (by decide) (by omega) (by omega) (fun c9 => ?_) (fun c9 => ?_)
    · refine g_iconstm C dX2_ring_21 ?_
      exact g_iret C dX2_ring_22 rfl (⟨I, O, L, K, rfl, ⟨rfl, rfl, rfl, rfl⟩, by rw [if_neg (fun q => absurd ((inR_nI hj).mp q) (Nat.not_lt.mpr c9))]⟩)
    · first | refine g_aload_n C dX2_ring_12 rfl ?_ | refine g_aload_nq C _ dX2_ring_12 rfl ?_
      refine cg_ringMembers C i2 (by decide +kernel) dX2_ring_13 ?_
      refine g_iload_n C dX2_ring_16 rfl ?_
      refine cl_ringMembers C dX2_ring_17 (by omega) ?_
      refine g_goto C 22 dX2_ring_18 (by decide) ?_
      exact g_iret C dX2_ring_22 rfl (⟨I, O, L, K, rfl, ⟨rfl, rfl, rfl, rfl⟩, by rw [if_pos ((inR_nI hj).mpr c9), ix_nI hj, h9 j (by omega)]⟩)
set_option maxRecDepth 100000 in
set_option maxHeartbeats 1000000 in
theorem k_X2_conflicts (l : Launch) (hst : l.stackTraces = false) (D : va_G) (g : Nat → ClassId) (A : Nat → Prop) (xa : Nat → Nat) (I : VV) (O : OO) (L : List Nat) (K : Nat → Nat) {N : Nat} (hB : BdN I N) (hN4 : N + 4000 ≤ 2 ^ 30) {V : VV} {own : Nat → Nat} (hN2 : 20000 ≤ N) (hV : Inv V) (hR : RC V I O L K own) (hrc : I 1 0 = V 3 0) (x y : Int32) : CM l yX2_conflicts wsX2_conflicts ({ frames := 7, cells := 2, slots := 12, locals := 102 } : Room) 2 12 D g A xa [.ref (xa 0), .int x, .int y] I O L K (fun r I1 O1 L1 K1 => (I1 = I ∧ O1 = O ∧ L1 = L ∧ K1 = K) ∧ ((x = nI 0 ∧ (∃ k, y = nI k ∧ k < 200 ∧ r = some (.int (nI (V 23 k))))) ∨ (x = nI 1 ∧ (∃ k, y = nI k ∧ k < 4 ∧ r = some (.int (nI (V 24 k))))))) (fun E => E = xIA ∧ ¬ (x = nI 0 ∧ inR y 200) ∧ ¬ (x = nI 1 ∧ inR y 4)) := by
  refine x_ofW [(0, .ref (xa 0)), (1, .int x), (2, .int y)] (by decide) rfl (Nat.le_of_ble_eq_true rfl) rfl (by simp [Value.category, vcat_rf]) ?_
  intro p e s m args below meth c C T9 hx9
  have i2 : ∀ w ∈ wsX20, w ∈ wsX2_conflicts := by decide +kernel
  have hN : N ≤ 2 ^ 30 := by omega
  have hC := hV.1.1
  have hla := hV.1.lat
  have hSt : ∀ i, i < V 16 0 → V 8 i ≤ 4 := fun i _ => hV.2.2.1.2.2.1 i
  obtain ⟨hS, hT, hM, hH, hNw, hQ⟩ := id hR
  refine g_iload_n C dX2_conflicts_0 rfl ?_
  refine x_callCS C T9 hx9 (k_X2_requireKind l hst D g A xa _ _ _ _ x) gX2_conflicts_X2_requireKind dX2_conflicts_1 (n := 1) rfl rfl rfl (by decide +kernel) ⟨Nat.le_of_ble_eq_true rfl, Nat.le_of_ble_eq_true rfl⟩ rfl rfl (Nat.le_of_ble_eq_true rfl) ⟨Nat.le_of_ble_eq_true rfl, Nat.le_of_ble_eq_true rfl⟩ (fun r I1 O1 L1 K1 hq => ?_) (fun E hE => ⟨hE.1, fun z => hE.2 (Or.inl z.1), fun z => hE.2 (Or.inr z.1)⟩) (Nat.le_of_ble_eq_true rfl) (Nat.le_of_ble_eq_true rfl)
  obtain ⟨⟨e1, e2, e3, e4⟩, hq⟩ := hq
  rw [e1, e2, e3, e4]
  obtain ⟨hkind, hr⟩ := hq
  rw [hr]
  refine g_iload_n C dX2_conflicts_4 rfl ?_
  refine g_ifx_ne C 19 dX2_conflicts_5 (by decide) (fun c5 => ?_) (fun c5 => ?_)
  · have hx1 : x = nI 1 := hkind.resolve_left (fun z => c5 (z.trans nI_0))
    refine g_iload_n C dX2_conflicts_19 rfl ?_
    refine x_callCS C T9 hx9 (k_X2_requireGraph l hst D g A xa _ _ _ _ y) gX2_conflicts_X2_requireGraph dX2_conflicts_20 (n := 1) rfl rfl rfl (by decide +kernel) ⟨Nat.le_of_ble_eq_true rfl, Nat.le_of_ble_eq_true rfl⟩ rfl rfl (Nat.le_of_ble_eq_true rfl) ⟨Nat.le_of_ble_eq_true rfl, Nat.le_of_ble_eq_true rfl⟩ (fun r I1 O1 L1 K1 hq => ?_) (fun E hE => ⟨hE.1, fun z => absurd (hx1.symm.trans z.1) (by decide), fun z => hE.2 z.2⟩) (Nat.le_of_ble_eq_true rfl) (Nat.le_of_ble_eq_true rfl)
    obtain ⟨⟨e1, e2, e3, e4⟩, hq⟩ := hq
    rw [e1, e2, e3, e4]
    obtain ⟨hin, hr⟩ := hq
    rw [hr]
    obtain ⟨k, hk, hk2, rfl⟩ := inR_ex hin
    first | refine g_aload_n C dX2_conflicts_23 rfl ?_ | refine g_aload_nq C _ dX2_conflicts_23 rfl ?_
    refine cg_refusedForGraph C i2 (by decide +kernel) dX2_conflicts_24 ?_
    refine g_iload_n C dX2_conflicts_27 rfl ?_
    refine cl_refusedForGraph C dX2_conflicts_28 (by omega) ?_
    exact x_ret (g_iret C dX2_conflicts_29 rfl (⟨I, O, L, K, rfl, ⟨rfl, rfl, rfl, rfl⟩, Or.inr ⟨hx1, k, rfl, hk, by rw [hS.2.2.2.2.2.2.1 k hk]⟩⟩))
  · have hx0 : x = nI 0 := c5.trans nI_0.symm
    refine g_iload_n C dX2_conflicts_8 rfl ?_
    refine x_callCS C T9 hx9 (k_X2_requireTriple l hst D g A xa _ _ _ _ y) gX2_conflicts_X2_requireTriple dX2_conflicts_9 (n := 1) rfl rfl rfl (by decide +kernel) ⟨Nat.le_of_ble_eq_true rfl, Nat.le_of_ble_eq_true rfl⟩ rfl rfl (Nat.le_of_ble_eq_true rfl) ⟨Nat.le_of_ble_eq_true rfl, Nat.le_of_ble_eq_true rfl⟩ (fun r I1 O1 L1 K1 hq => ?_) (fun E hE => ⟨hE.1, fun z => hE.2 z.2, fun z => absurd (hx0.symm.trans z.1) (by decide)⟩) (Nat.le_of_ble_eq_true rfl) (Nat.le_of_ble_eq_true rfl)
    obtain ⟨⟨e1, e2, e3, e4⟩, hq⟩ := hq
    rw [e1, e2, e3, e4]
    obtain ⟨hin, hr⟩ := hq
    rw [hr]
    obtain ⟨k, hk, hk2, rfl⟩ := inR_ex hin
    first | refine g_aload_n C dX2_conflicts_12 rfl ?_ | refine g_aload_nq C _ dX2_conflicts_12 rfl ?_
    refine cg_failedByTriple C i2 (by decide +kernel) dX2_conflicts_13 ?_
    refine g_iload_n C dX2_conflicts_16 rfl ?_
    refine cl_failedByTriple C dX2_conflicts_17 (by omega) ?_
    exact x_ret (g_iret C dX2_conflicts_18 rfl (⟨I, O, L, K, rfl, ⟨rfl, rfl, rfl, rfl⟩, Or.inl ⟨hx0, k, rfl, hk, by rw [hS.2.2.2.2.2.1 k hk]⟩⟩))
set_option maxRecDepth 100000 in
set_option maxHeartbeats 1000000 in
theorem k_X2_told (l : Launch) (hst : l.stackTraces = false) (D : va_G) (g : Nat → ClassId) (A : Nat → Prop) (xa : Nat → Nat) (I : VV) (O : OO) (L : List Nat) (K : Nat → Nat) {N : Nat} (hB : BdN I N) (hN4 : N + 4000 ≤ 2 ^ 30) {V : VV} {own : Nat → Nat} (hN2 : 20000 ≤ N) (hV : Inv V) (hR : RC V I O L K own) (hrc : I 1 0 = V 3 0) (x y : Int32) : CM l yX2_told wsX2_told ({ frames := 7, cells := 2, slots := 12, locals := 103 } : Room) 2 12 D g A xa [.ref (xa 0), .int x, .int y] I O L K (fun r I1 O1 L1 K1 => (I1 = I ∧ O1 = O ∧ L1 = L ∧ K1 = K) ∧ ∃ j k, x = nI j ∧ j ≤ V 4 0 ∧ vLK V ≤ j ∧ y = nI k ∧ k < 200 ∧ ((vThere V k j ∧ r = some (.int (nI 1))) ∨ (¬ vThere V k j ∧ r = some (.int (nI 0))))) (fun E => E = xIA ∧ ¬ (tel V x ∧ inR y 200)) := by
  refine x_ofW [(0, .ref (xa 0)), (1, .int x), (2, .int y)] (by decide) rfl (Nat.le_of_ble_eq_true rfl) rfl (by simp [Value.category, vcat_rf]) ?_
  intro p e s m args below meth c C T9 hx9
  have i0 : ∀ w ∈ wsX00, w ∈ wsX2_told := by decide +kernel
  have i1 : ∀ w ∈ wsX10, w ∈ wsX2_told := by decide +kernel
  have i2 : ∀ w ∈ wsX20, w ∈ wsX2_told := by decide +kernel
  have hN : N ≤ 2 ^ 30 := by omega
  have hC := hV.1.1
  have hla := hV.1.lat
  have hSt : ∀ i, i < V 16 0 → V 8 i ≤ 4 := fun i _ => hV.2.2.1.2.2.1 i
  obtain ⟨hS, hT, hM, hH, hNw, hQ⟩ := id hR
  first | refine g_aload_n C dX2_told_0 rfl ?_ | refine g_aload_nq C _ dX2_told_0 rfl ?_
  refine g_iload_n C dX2_told_1 rfl ?_
  refine x_callC C T9 hx9 (k_X2_requireVersion l hst D g A xa _ _ _ _ hB hN hS hT hC hla hSt x) gX2_told_X2_requireVersion dX2_told_2 (n := 1) rfl rfl rfl (by decide +kernel) ⟨Nat.le_of_ble_eq_true rfl, Nat.le_of_ble_eq_true rfl⟩ rfl rfl (Nat.le_of_ble_eq_true rfl) ⟨Nat.le_of_ble_eq_true rfl, Nat.le_of_ble_eq_true rfl⟩ (fun r I1 O1 L1 K1 hq => ?_) (fun E hE => ⟨hE.1, fun z => hE.2 z.1⟩) (Nat.le_of_ble_eq_true rfl) (Nat.le_of_ble_eq_true rfl)
  obtain ⟨⟨e1, e2, e3, e4⟩, hq⟩ := hq
  rw [e1, e2, e3, e4]
  obtain ⟨⟨j, rfl, hj1, hj2⟩, hr⟩ := hq
  rw [hr]
  have hxj := (rfl : nI j = nI j)
  have hj : j < 2 ^ 31 := by omega
  have htl : tel V (nI j) := (tel_nI hj).mpr ⟨hj2, hj1⟩
  refine g_iload_n C dX2_told_5 rfl ?_
  refine x_callCS C T9 hx9 (k_X2_requireTriple l hst D g A xa _ _ _ _ y) gX2_told_X2_requireTriple dX2_told_6 (n := 1) rfl rfl rfl (by decide +kernel) ⟨Nat.le_of_ble_eq_true rfl, Nat.le_of_ble_eq_true rfl⟩ rfl rfl (Nat.le_of_ble_eq_true rfl) ⟨Nat.le_of_ble_eq_true rfl, Nat.le_of_ble_eq_true rfl⟩ (fun r I1 O1 L1 K1 hq => ?_) (fun E hE => ⟨hE.1, fun z => hE.2 z.2⟩) (Nat.le_of_ble_eq_true rfl) (Nat.le_of_ble_eq_true rfl)
  obtain ⟨⟨e1, e2, e3, e4⟩, hq⟩ := hq
  rw [e1, e2, e3, e4]
  obtain ⟨hin, hr⟩ := hq
  rw [hr]
  obtain ⟨k, hk, hk2, rfl⟩ := inR_ex hin
  have hyk := (rfl : nI k = nI k)
  first | refine g_aload_n C dX2_told_9 rfl ?_ | refine g_aload_nq C _ dX2_told_9 rfl ?_
  refine g_iload_n C dX2_told_10 rfl ?_
  refine g_iload_n C dX2_told_11 rfl ?_
  refine g_callC C (k_X2_isThere l D g A xa _ _ _ _ hB hN k j hk (by omega) (hNw k hk)) gX2_told_X2_isThere dX2_told_12 (n := 2) rfl rfl rfl (by decide +kernel) ⟨Nat.le_of_ble_eq_true rfl, Nat.le_of_ble_eq_true rfl⟩ rfl rfl (Nat.le_of_ble_eq_true rfl) ⟨Nat.le_of_ble_eq_true rfl, Nat.le_of_ble_eq_true rfl⟩ (fun r I1 O1 L1 K1 hq => ?_)
  obtain ⟨⟨e1, e2, e3, e4⟩, hq⟩ := hq
  rw [e1, e2, e3, e4]
  rw [thL_iff hV.2.1.2 _ (Nat.le_refl _)] at hq
  rcases hq with ⟨h12, rfl⟩ | ⟨h12, rfl⟩
  · exact x_ret (g_zret C dX2_told_15 rfl (by first | exact nar_boolV (by omega) | decide +kernel) (⟨I, O, L, K, rfl, ⟨rfl, rfl, rfl, rfl⟩, j, k, hxj, hj1, hj2, hyk, hk, Or.inl ⟨h12, rfl⟩⟩))
  · exact x_ret (g_zret C dX2_told_15 rfl (by first | exact nar_boolV (by omega) | decide +kernel) (⟨I, O, L, K, rfl, ⟨rfl, rfl, rfl, rfl⟩, j, k, hxj, hj1, hj2, hyk, hk, Or.inr ⟨h12, rfl⟩⟩))
set_option maxRecDepth 100000 in
set_option maxHeartbeats 1000000 in
theorem k_X2_read (l : Launch) (hst : l.stackTraces = false) (D : va_G) (g : Nat → ClassId) (A : Nat → Prop) (xa : Nat → Nat) (I : VV) (O : OO) (L : List Nat) (K : Nat → Nat) {N : Nat} (hB : BdN I N) (hN4 : N + 4000 ≤ 2 ^ 30) {V : VV} {own : Nat → Nat} (hN2 : 20000 ≤ N) (hV : Inv V) (hR : RC V I O L K own) (hrc : I 1 0 = V 3 0) (x y : Int32) : CM l yX2_read wsX2_read ({ frames := 7, cells := 3, slots := 18, locals := 103 } : Room) 3 18 D g A xa [.ref (xa 0), .int x, .int y] I O L K (fun r I1 O1 L1 K1 => (I1 = I ∧ O1 = O ∧ L1 = L ∧ K1 = K) ∧ ∃ j k, x = nI j ∧ j < 2 ^ 31 ∧ j < V 16 0 ∧ y = nI k ∧ k < 200 ∧ V 8 j < 3 ∧ ((vRead V j k ∧ r = some (.int (nI 1))) ∨ (¬ vRead V j k ∧ r = some (.int (nI 0))))) (fun E => (E = xIA ∧ ¬ (inR x (V 16 0) ∧ inR y 200)) ∨ (E = xIS ∧ inR x (V 16 0) ∧ inR y 200 ∧ 3 ≤ V 8 (ix x))) := by
  refine x_ofW [(0, .ref (xa 0)), (1, .int x), (2, .int y)] (by decide) rfl (Nat.le_of_ble_eq_true rfl) rfl (by simp [Value.category, vcat_rf]) ?_
  intro p e s m args below meth c C T9 hx9
  have i0 : ∀ w ∈ wsX00, w ∈ wsX2_read := by decide +kernel
  have i1 : ∀ w ∈ wsX10, w ∈ wsX2_read := by decide +kernel
  have i2 : ∀ w ∈ wsX20, w ∈ wsX2_read := by decide +kernel
  have hN : N ≤ 2 ^ 30 := by omega
  have hC := hV.1.1
  have hla := hV.1.lat
  have hSt : ∀ i, i < V 16 0 → V 8 i ≤ 4 := fun i _ => hV.2.2.1.2.2.1 i
  obtain ⟨hS, hT, hM, hH, hNw, hQ⟩ := id hR
  first | refine g_aload_n C dX2_read_0 rfl ?_ | refine g_aload_nq C _ dX2_read_0 rfl ?_
  refine g_iload_n C dX2_read_1 rfl ?_
  refine x_callC C T9 hx9 (k_X2_known l hst D g A xa _ _ _ _ hB hN hS hT hC x) gX2_read_X2_known dX2_read_2 (n := 1) rfl rfl rfl (by decide +kernel) ⟨Nat.le_of_ble_eq_true rfl, Nat.le_of_ble_eq_true rfl⟩ rfl rfl (Nat.le_of_ble_eq_true rfl) ⟨Nat.le_of_ble_eq_true rfl, Nat.le_of_ble_eq_true rfl⟩ (fun r I1 O1 L1 K1 hq => ?_) (fun E hE => Or.inl ⟨hE.1, fun z => hE.2 z.1⟩) (Nat.le_of_ble_eq_true rfl) (Nat.le_of_ble_eq_true rfl)
  obtain ⟨⟨e1, e2, e3, e4⟩, hq⟩ := hq
  rw [e1, e2, e3, e4]
  obtain ⟨j, rfl, hj, hjc, hr⟩ := hq
  rw [hr]
  have hxj := (rfl : nI j = nI j)
  have hix : inR (nI j) (V 16 0) := (inR_nI hj).mpr hjc
  obtain ⟨t2, tL, tK, h12, h13, h14, h16, hO7, hwt⟩ := hT j hjc
  first | refine g_astore_n C dX2_read_5 (by decide) ?_ | refine g_astore_nq C dX2_read_5 (by decide) ?_
  refine g_iload_n C dX2_read_6 rfl ?_
  refine x_callCS C T9 hx9 (k_X2_requireTriple l hst D g A xa _ _ _ _ y) gX2_read_X2_requireTriple dX2_read_7 (n := 1) rfl rfl rfl (by decide +kernel) ⟨Nat.le_of_ble_eq_true rfl, Nat.le_of_ble_eq_true rfl⟩ rfl rfl (Nat.le_of_ble_eq_true rfl) ⟨Nat.le_of_ble_eq_true rfl, Nat.le_of_ble_eq_true rfl⟩ (fun r I1 O1 L1 K1 hq => ?_) (fun E hE => Or.inl ⟨hE.1, fun z => hE.2 z.2⟩) (Nat.le_of_ble_eq_true rfl) (Nat.le_of_ble_eq_true rfl)
  obtain ⟨⟨e1, e2, e3, e4⟩, hq⟩ := hq
  rw [e1, e2, e3, e4]
  obtain ⟨hin, hr⟩ := hq
  rw [hr]
  obtain ⟨k, hk, hk2, rfl⟩ := inR_ex hin
  have hyk := (rfl : nI k = nI k)
  first | refine g_aload_n C dX2_read_10 rfl ?_ | refine g_aload_nq C _ dX2_read_10 rfl ?_
  refine x_callCS C T9 hx9 (k_X2_requireNotEnded l hst D g A xa _ _ _ _ hB hN hT j hjc (hSt j hjc) (tx O j) rfl) gX2_read_X2_requireNotEnded dX2_read_11 (n := 1) rfl rfl rfl (by decide +kernel) ⟨Nat.le_of_ble_eq_true rfl, Nat.le_of_ble_eq_true rfl⟩ rfl rfl (Nat.le_of_ble_eq_true rfl) ⟨Nat.le_of_ble_eq_true rfl, Nat.le_of_ble_eq_true rfl⟩ (fun r I1 O1 L1 K1 hq => ?_) (fun E hE => Or.inr ⟨hE.1, hix, hin, by rw [ix_nI hj]; exact hE.2⟩) (Nat.le_of_ble_eq_true rfl) (Nat.le_of_ble_eq_true rfl)
  obtain ⟨⟨e1, e2, e3, e4⟩, hq⟩ := hq
  rw [e1, e2, e3, e4]
  obtain ⟨hl3, hr⟩ := hq
  rw [hr]
  have hg := hV.2.2.1.1 j k hjc hk hl3
  have hg2 := hV.2.2.1.2.1 (200 * j + k)
  have hold := RH.holds (t := j) hT hH hjc hV.1.2.2.1 k hk
  have hh2 := (hH k hk).2
  first | refine g_aload_n C dX2_read_14 rfl ?_ | refine g_aload_nq C _ dX2_read_14 rfl ?_
  refine cg_holder C i2 (by decide +kernel) dX2_read_15 ?_
  refine g_iload_n C dX2_read_18 rfl ?_
  refine cl_holder C dX2_read_19 (by omega) ?_
  first | refine g_aload_n C dX2_read_20 rfl ?_ | refine g_aload_nq C _ dX2_read_20 rfl ?_
  refine g_acmp_ne C _ (some (tx O j)) 33 dX2_read_21 (by decide) (fun c21 => ?_) (fun c21 => ?_)
  · have p21 : ¬ V 17 k = j + 1 := fun z => c21 (hold.mpr z)
    have h7 : V 7 j < N := by rw [← h14]; exact hB 14 (tx O j)
    first | refine g_aload_n C dX2_read_33 rfl ?_ | refine g_aload_nq C _ dX2_read_33 rfl ?_
    refine g_iload_n C dX2_read_34 rfl ?_
    first | refine g_aload_n C dX2_read_35 rfl ?_ | refine g_aload_nq C _ dX2_read_35 rfl ?_
    refine tg_sees C (by assumption) (by assumption) i1 (by decide +kernel) dX2_read_36 ?_
    rw [h14]
    refine g_callC C (k_X2_isThere l D g A xa _ _ _ _ hB hN k (V 7 j) hk (by omega) (hNw k hk)) gX2_read_X2_isThere dX2_read_39 (n := 2) rfl rfl rfl (by decide +kernel) ⟨Nat.le_of_ble_eq_true rfl, Nat.le_of_ble_eq_true rfl⟩ rfl rfl (Nat.le_of_ble_eq_true rfl) ⟨Nat.le_of_ble_eq_true rfl, Nat.le_of_ble_eq_true rfl⟩ (fun r I1 O1 L1 K1 hq => ?_)
    obtain ⟨⟨e1, e2, e3, e4⟩, hq⟩ := hq
    rw [e1, e2, e3, e4]
    rw [thL_iff hV.2.1.2 _ (Nat.le_refl _)] at hq
    rcases hq with ⟨h39, rfl⟩ | ⟨h39, rfl⟩
    · exact x_ret (g_zret C dX2_read_42 rfl (by first | exact nar_boolV (by omega) | decide +kernel) (⟨I, O, L, K, rfl, ⟨rfl, rfl, rfl, rfl⟩, j, k, hxj, hj, hjc, hyk, hk, hl3, Or.inl ⟨Or.inr ⟨by omega, h39⟩, rfl⟩⟩))
    · exact x_ret (g_zret C dX2_read_42 rfl (by first | exact nar_boolV (by omega) | decide +kernel) (⟨I, O, L, K, rfl, ⟨rfl, rfl, rfl, rfl⟩, j, k, hxj, hj, hjc, hyk, hk, hl3, Or.inr ⟨fun y => by rcases y with y | y; omega; exact h39 y.2, rfl⟩⟩))
  · have p21 : V 17 k = j + 1 := hold.mp c21
    rw [p21, show j + 1 - 1 = j by omega] at hh2
    have hh2 := hh2 (by omega)
    first | refine g_aload_n C dX2_read_24 rfl ?_ | refine g_aload_nq C _ dX2_read_24 rfl ?_
    refine cg_written C i2 (by decide +kernel) dX2_read_25 ?_
    refine g_iload_n C dX2_read_28 rfl ?_
    refine cl_written C dX2_read_29 hk ?_
    refine g_goto C 42 dX2_read_30 (by decide) ?_
    exact x_ret (g_zret C dX2_read_42 rfl (by first | exact nar_boolV (by omega) | decide +kernel) (⟨I, O, L, K, rfl, ⟨rfl, rfl, rfl, rfl⟩, j, k, hxj, hj, hjc, hyk, hk, hl3, by rcases (show I 6 k = 0 ∨ I 6 k = 1 by omega) with z | z; exact Or.inr ⟨fun y => by unfold vRead at y; rcases y with y | y; omega; have := y.1; omega, by rw [z]⟩; exact Or.inl ⟨Or.inl (by omega), by rw [z]⟩⟩))
set_option maxRecDepth 100000 in
set_option maxHeartbeats 1000000 in
theorem k_X2_pin (l : Launch) (hst : l.stackTraces = false) (D : va_G) (g : Nat → ClassId) (A : Nat → Prop) (xa : Nat → Nat) (I : VV) (O : OO) (L : List Nat) (K : Nat → Nat) {N : Nat} (hB : BdN I N) (hN4 : N + 4000 ≤ 2 ^ 30) {V : VV} {own : Nat → Nat} (hN2 : 20000 ≤ N) (hV : Inv V) (hR : RC V I O L K own) (hrc : I 1 0 = V 3 0) (x : Int32) : CM l yX2_pin wsX2_pin ({ frames := 7, cells := 1, slots := 6, locals := 103 } : Room) 1 6 D g A xa [.ref (xa 0), .int x] I O L K (fun r I1 O1 L1 K1 => ∃ j, x = nI j ∧ j ≤ V 4 0 ∧ vLK V ≤ j ∧ CR N (u2 V 5 j (V 5 j + 1)) I1 O1 L1 K1 ∧ r = some (.int (nI (V 5 j + 1)))) (fun E => E = xIA ∧ ¬ tel V x) := by
  refine x_ofW [(0, .ref (xa 0)), (1, .int x)] (by decide) rfl (Nat.le_of_ble_eq_true rfl) rfl (by simp [Value.category, vcat_rf]) ?_
  intro p e s m args below meth c C T9 hx9
  have i1 : ∀ w ∈ wsX10, w ∈ wsX2_pin := by decide +kernel
  have i2 : ∀ w ∈ wsX20, w ∈ wsX2_pin := by decide +kernel
  have hN : N ≤ 2 ^ 30 := by omega
  have hC := hV.1.1
  have hla := hV.1.lat
  have hSt : ∀ i, i < V 16 0 → V 8 i ≤ 4 := fun i _ => hV.2.2.1.2.2.1 i
  obtain ⟨hS, hT, hM, hH, hNw, hQ⟩ := id hR
  first | refine g_aload_n C dX2_pin_0 rfl ?_ | refine g_aload_nq C _ dX2_pin_0 rfl ?_
  refine g_iload_n C dX2_pin_1 rfl ?_
  refine x_callC C T9 hx9 (k_X2_requireVersion l hst D g A xa _ _ _ _ hB hN hS hT hC hla hSt x) gX2_pin_X2_requireVersion dX2_pin_2 (n := 1) rfl rfl rfl (by decide +kernel) ⟨Nat.le_of_ble_eq_true rfl, Nat.le_of_ble_eq_true rfl⟩ rfl rfl (Nat.le_of_ble_eq_true rfl) ⟨Nat.le_of_ble_eq_true rfl, Nat.le_of_ble_eq_true rfl⟩ (fun r I1 O1 L1 K1 hq => ?_) (fun E hE => hE) (Nat.le_of_ble_eq_true rfl) (Nat.le_of_ble_eq_true rfl)
  obtain ⟨⟨e1, e2, e3, e4⟩, hq⟩ := hq
  rw [e1, e2, e3, e4]
  obtain ⟨⟨j, rfl, hj1, hj2⟩, hr⟩ := hq
  rw [hr]
  have hxj := (rfl : nI j = nI j)
  have hj : j < 2 ^ 31 := by omega
  have htl : tel V (nI j) := (tel_nI hj).mpr ⟨hj2, hj1⟩
  have h5 := hS.2.2.2.2.1 j (by omega)
  first | refine g_aload_n C dX2_pin_5 rfl ?_ | refine g_aload_nq C _ dX2_pin_5 rfl ?_
  refine cg_pins C i2 (by decide +kernel) dX2_pin_6 ?_
  refine g_iload_n C dX2_pin_9 rfl ?_
  refine g_dup2 C dX2_pin_10 (by first | rfl | exact vcat_rf _) (by first | rfl | exact vcat_rf _) ?_
  refine cl_pins C dX2_pin_11 (by omega) ?_
  refine g_iconst C 1 dX2_pin_12 (by decide) ?_
  rw [h5]
  first | refine g_iadd C dX2_pin_13 ?_ | refine g_iaddx C dX2_pin_13 ?_
  refine cs_pins C dX2_pin_14 (by omega) ?_
  first | refine g_aload_n C dX2_pin_15 rfl ?_ | refine g_aload_nq C _ dX2_pin_15 rfl ?_
  refine cg_pins C i2 (by decide +kernel) dX2_pin_16 ?_
  refine g_iload_n C dX2_pin_19 rfl ?_
  refine cl_pins C dX2_pin_20 (by omega) ?_
  exact x_ret (g_iret C dX2_pin_21 rfl (⟨_, _, _, _, rfl, j, hxj, hj1, hj2, ⟨(hB.mono (by omega)).up (by have := hB 5 j; omega), hrc, own, hR.pin⟩, by rw [u2_same]⟩))
set_option maxRecDepth 100000 in
set_option maxHeartbeats 1000000 in
theorem k_X2_unpin (l : Launch) (hst : l.stackTraces = false) (D : va_G) (g : Nat → ClassId) (A : Nat → Prop) (xa : Nat → Nat) (I : VV) (O : OO) (L : List Nat) (K : Nat → Nat) {N : Nat} (hB : BdN I N) (hN4 : N + 4000 ≤ 2 ^ 30) {V : VV} {own : Nat → Nat} (hN2 : 20000 ≤ N) (hV : Inv V) (hR : RC V I O L K own) (hrc : I 1 0 = V 3 0) (x : Int32) : CM l yX2_unpin wsX2_unpin ({ frames := 7, cells := 1, slots := 6, locals := 103 } : Room) 1 6 D g A xa [.ref (xa 0), .int x] I O L K (fun r I1 O1 L1 K1 => ∃ j, x = nI j ∧ j ≤ V 4 0 ∧ 0 < V 5 j ∧ CR N (u2 V 5 j (V 5 j - 1)) I1 O1 L1 K1 ∧ r = some (.int (nI (V 5 j - 1)))) (fun E => E = xIA ∧ ¬ (inR x 64 ∧ 0 < V 5 (ix x))) := by
  refine x_ofW [(0, .ref (xa 0)), (1, .int x)] (by decide) rfl (Nat.le_of_ble_eq_true rfl) rfl (by simp [Value.category, vcat_rf]) ?_
  intro p e s m args below meth c C T9 hx9
  have i2 : ∀ w ∈ wsX20, w ∈ wsX2_unpin := by decide +kernel
  have hN : N ≤ 2 ^ 30 := by omega
  have hC := hV.1.1
  have hla := hV.1.lat
  have hSt : ∀ i, i < V 16 0 → V 8 i ≤ 4 := fun i _ => hV.2.2.1.2.2.1 i
  obtain ⟨hS, hT, hM, hH, hNw, hQ⟩ := id hR
  first | refine g_aload_n C dX2_unpin_0 rfl ?_ | refine g_aload_nq C _ dX2_unpin_0 rfl ?_
  refine g_iload_n C dX2_unpin_1 rfl ?_
  refine x_callC C T9 hx9 (k_X2_requirePinned l hst D g A xa _ _ _ _ hB hN hS hla hV.2.2.2.1.2.1 x) gX2_unpin_X2_requirePinned dX2_unpin_2 (n := 1) rfl rfl rfl (by decide +kernel) ⟨Nat.le_of_ble_eq_true rfl, Nat.le_of_ble_eq_true rfl⟩ rfl rfl (Nat.le_of_ble_eq_true rfl) ⟨Nat.le_of_ble_eq_true rfl, Nat.le_of_ble_eq_true rfl⟩ (fun r I1 O1 L1 K1 hq => ?_) (fun E hE => hE) (Nat.le_of_ble_eq_true rfl) (Nat.le_of_ble_eq_true rfl)
  obtain ⟨⟨e1, e2, e3, e4⟩, hq⟩ := hq
  rw [e1, e2, e3, e4]
  obtain ⟨⟨j, rfl, hj1, hj2⟩, hr⟩ := hq
  rw [hr]
  have hxj := (rfl : nI j = nI j)
  have h5 := hS.2.2.2.2.1 j (by omega)
  first | refine g_aload_n C dX2_unpin_5 rfl ?_ | refine g_aload_nq C _ dX2_unpin_5 rfl ?_
  refine cg_pins C i2 (by decide +kernel) dX2_unpin_6 ?_
  refine g_iload_n C dX2_unpin_9 rfl ?_
  refine g_dup2 C dX2_unpin_10 (by first | rfl | exact vcat_rf _) (by first | rfl | exact vcat_rf _) ?_
  refine cl_pins C dX2_unpin_11 (by omega) ?_
  refine g_iconst C 1 dX2_unpin_12 (by decide) ?_
  rw [h5]
  first | refine g_isub C dX2_unpin_13 (by omega) ?_ | refine g_isubx C dX2_unpin_13 ?_
  refine cs_pins C dX2_unpin_14 (by omega) ?_
  first | refine g_aload_n C dX2_unpin_15 rfl ?_ | refine g_aload_nq C _ dX2_unpin_15 rfl ?_
  refine cg_pins C i2 (by decide +kernel) dX2_unpin_16 ?_
  refine g_iload_n C dX2_unpin_19 rfl ?_
  refine cl_pins C dX2_unpin_20 (by omega) ?_
  exact x_ret (g_iret C dX2_unpin_21 rfl (⟨_, _, _, _, rfl, j, hxj, hj1, hj2, ⟨(hB.mono (by omega)).up (by have := hB 5 j; omega), hrc, own, hR.pin⟩, by rw [u2_same]⟩))
set_option maxRecDepth 100000 in
set_option maxHeartbeats 1000000 in
theorem k_X2_rows (l : Launch) (D : va_G) (g : Nat → ClassId) (A : Nat → Prop) (xa : Nat → Nat) (I : VV) (O : OO) (L : List Nat) (K : Nat → Nat) {V : VV} (hrc : I 1 0 = V 3 0) : CC l yX2_rows wsX2_rows ({ frames := 0, cells := 0, slots := 0, locals := 0 } : Room) 0 0 D g A xa [.ref (xa 0)] I O L K (fun r I1 O1 L1 K1 => (I1 = I ∧ O1 = O ∧ L1 = L ∧ K1 = K) ∧ r = some (.int (nI (V 3 0)))) := by
  refine k_ofW [(0, .ref (xa 0))] (by decide) rfl (Nat.le_of_ble_eq_true rfl) rfl (by simp [Value.category, vcat_rf]) ?_
  intro p e s m args below meth c C
  have i2 : ∀ w ∈ wsX20, w ∈ wsX2_rows := by decide +kernel
  first | refine g_aload_n C dX2_rows_0 rfl ?_ | refine g_aload_nq C _ dX2_rows_0 rfl ?_
  refine cg_rowCount C i2 (by decide +kernel) dX2_rows_1 ?_
  exact g_iret C dX2_rows_4 rfl (⟨I, O, L, K, rfl, ⟨rfl, rfl, rfl, rfl⟩, by rw [hrc]⟩)
set_option maxRecDepth 100000 in
set_option maxHeartbeats 1000000 in
theorem k_X2_latest (l : Launch) (D : va_G) (g : Nat → ClassId) (A : Nat → Prop) (xa : Nat → Nat) (I : VV) (O : OO) (L : List Nat) (K : Nat → Nat) {V : VV} (hS : RS V I) : CC l yX2_latest wsX2_latest ({ frames := 0, cells := 0, slots := 0, locals := 0 } : Room) 0 0 D g A xa [.ref (xa 0)] I O L K (fun r I1 O1 L1 K1 => (I1 = I ∧ O1 = O ∧ L1 = L ∧ K1 = K) ∧ r = some (.int (nI (V 4 0)))) := by
  refine k_ofW [(0, .ref (xa 0))] (by decide) rfl (Nat.le_of_ble_eq_true rfl) rfl (by simp [Value.category, vcat_rf]) ?_
  intro p e s m args below meth c C
  have i2 : ∀ w ∈ wsX20, w ∈ wsX2_latest := by decide +kernel
  first | refine g_aload_n C dX2_latest_0 rfl ?_ | refine g_aload_nq C _ dX2_latest_0 rfl ?_
  refine cg_latestVersion C i2 (by decide +kernel) dX2_latest_1 ?_
  exact g_iret C dX2_latest_4 rfl (⟨I, O, L, K, rfl, ⟨rfl, rfl, rfl, rfl⟩, by rw [hS.2.1]⟩)
set_option maxRecDepth 100000 in
set_option maxHeartbeats 1000000 in
theorem k_X2_least (l : Launch) (D : va_G) (g : Nat → ClassId) (A : Nat → Prop) (xa : Nat → Nat) (I : VV) (O : OO) (L : List Nat) (K : Nat → Nat) {N : Nat} (hB : BdN I N) (hN : N ≤ 2 ^ 30) {V : VV} (hS : RS V I) (hT : RT V I O L K) (hC : V 16 0 ≤ 60) (hLa : V 4 0 ≤ 60) (hSt : ∀ i, i < V 16 0 → V 8 i ≤ 4) : CC l yX2_least wsX2_least ({ frames := 2, cells := 0, slots := 0, locals := 42 } : Room) 0 0 D g A xa [.ref (xa 0)] I O L K (fun r I1 O1 L1 K1 => (I1 = I ∧ O1 = O ∧ L1 = L ∧ K1 = K) ∧ r = some (.int (nI (vLK V)))) := by
  refine k_ofW [(0, .ref (xa 0))] (by decide) rfl (Nat.le_of_ble_eq_true rfl) rfl (by simp [Value.category, vcat_rf]) ?_
  intro p e s m args below meth c C
  have i1 : ∀ w ∈ wsX10, w ∈ wsX2_least := by decide +kernel
  have i2 : ∀ w ∈ wsX20, w ∈ wsX2_least := by decide +kernel
  first | refine g_aload_n C dX2_least_0 rfl ?_ | refine g_aload_nq C _ dX2_least_0 rfl ?_
  refine g_callC C (k_X2_leastKept l D g A xa _ _ _ _ hB hN hS hT hC hLa hSt) gX2_least_X2_leastKept dX2_least_1 (n := 0) rfl rfl rfl (by decide +kernel) ⟨Nat.le_of_ble_eq_true rfl, Nat.le_of_ble_eq_true rfl⟩ rfl rfl (Nat.le_of_ble_eq_true rfl) ⟨by omega, by omega⟩ (fun r I1 O1 L1 K1 hq => ?_)
  obtain ⟨⟨e1, e2, e3, e4⟩, hq⟩ := hq
  rw [e1, e2, e3, e4]
  rw [hq]
  exact g_iret C dX2_least_4 rfl (⟨I, O, L, K, rfl, ⟨rfl, rfl, rfl, rfl⟩, rfl⟩)
set_option maxRecDepth 100000 in
set_option maxHeartbeats 1000000 in
theorem k_X2_begin (l : Launch) (hst : l.stackTraces = false) (D : va_G) (g : Nat → ClassId) (A : Nat → Prop) (xa : Nat → Nat) (I : VV) (O : OO) (L : List Nat) (K : Nat → Nat) {N : Nat} (hB : BdN I N) (hN4 : N + 4000 ≤ 2 ^ 30) {V : VV} {own : Nat → Nat} (hN2 : 20000 ≤ N) (hV : Inv V) (hR : RC V I O L K own) (hrc : I 1 0 = V 3 0) : CM l yX2_begin wsX2_begin ({ frames := 7, cells := 2, slots := 15, locals := 105 } : Room) 2 15 D g A xa [.ref (xa 0)] I O L K (fun r I1 O1 L1 K1 => V 16 0 < 60 ∧ CR N (vStart V 1 (V 4 0)) I1 O1 L1 K1 ∧ r = some (.int (nI (V 16 0)))) (fun E => E = xIS ∧ 60 ≤ V 16 0) := by
  refine x_ofW [(0, .ref (xa 0))] (by decide) rfl (Nat.le_of_ble_eq_true rfl) rfl (by simp [Value.category, vcat_rf]) ?_
  intro p e s m args below meth c C T9 hx9
  have i1 : ∀ w ∈ wsX10, w ∈ wsX2_begin := by decide +kernel
  have i2 : ∀ w ∈ wsX20, w ∈ wsX2_begin := by decide +kernel
  have hN : N ≤ 2 ^ 30 := by omega
  have hC := hV.1.1
  have hla := hV.1.lat
  have hSt : ∀ i, i < V 16 0 → V 8 i ≤ 4 := fun i _ => hV.2.2.1.2.2.1 i
  obtain ⟨hS, hT, hM, hH, hNw, hQ⟩ := id hR
  first | refine g_aload_n C dX2_begin_0 rfl ?_ | refine g_aload_nq C _ dX2_begin_0 rfl ?_
  refine g_iconst C 1 dX2_begin_1 (by decide) ?_
  first | refine g_aload_n C dX2_begin_2 rfl ?_ | refine g_aload_nq C _ dX2_begin_2 rfl ?_
  refine cg_latestVersion C i2 (by decide +kernel) dX2_begin_3 ?_
  rw [hS.2.1]
  refine x_callC C T9 hx9 (k_X2_enter l hst D g A xa _ _ _ _ hB hN hN2 hV hR 1 (V 4 0) (by decide) (Nat.le_refl _)) gX2_begin_X2_enter dX2_begin_6 (n := 2) rfl rfl rfl (by decide +kernel) ⟨Nat.le_of_ble_eq_true rfl, Nat.le_of_ble_eq_true rfl⟩ rfl rfl (Nat.le_of_ble_eq_true rfl) ⟨Nat.le_of_ble_eq_true rfl, Nat.le_of_ble_eq_true rfl⟩ (fun r I2 O2 L2 K2 hq => ?_) (fun E hE => hE) (Nat.le_of_ble_eq_true rfl) (Nat.le_of_ble_eq_true rfl)
  obtain ⟨hc60, hB1, hI1, hR1, hr⟩ := hq
  rw [hr]
  exact x_ret (g_iret C dX2_begin_9 rfl (⟨I2, O2, L2, K2, rfl, hc60, ⟨hB1.mono (by omega), by rw [hI1]; exact hrc, own, hR1⟩, rfl⟩))
set_option maxRecDepth 100000 in
set_option maxHeartbeats 1000000 in
theorem k_X2_look (l : Launch) (hst : l.stackTraces = false) (D : va_G) (g : Nat → ClassId) (A : Nat → Prop) (xa : Nat → Nat) (I : VV) (O : OO) (L : List Nat) (K : Nat → Nat) {N : Nat} (hB : BdN I N) (hN4 : N + 4000 ≤ 2 ^ 30) {V : VV} {own : Nat → Nat} (hN2 : 20000 ≤ N) (hV : Inv V) (hR : RC V I O L K own) (hrc : I 1 0 = V 3 0) (x : Int32) : CM l yX2_look wsX2_look ({ frames := 7, cells := 3, slots := 21, locals := 105 } : Room) 3 21 D g A xa [.ref (xa 0), .int x] I O L K (fun r I1 O1 L1 K1 => ∃ j, x = nI j ∧ j ≤ V 4 0 ∧ vLK V ≤ j ∧ V 16 0 < 60 ∧ CR N (vStart V 0 j) I1 O1 L1 K1 ∧ r = some (.int (nI (V 16 0)))) (fun E => (E = xIA ∧ ¬ tel V x) ∨ (E = xIS ∧ tel V x ∧ 60 ≤ V 16 0)) := by
  refine x_ofW [(0, .ref (xa 0)), (1, .int x)] (by decide) rfl (Nat.le_of_ble_eq_true rfl) rfl (by simp [Value.category, vcat_rf]) ?_
  intro p e s m args below meth c C T9 hx9
  have i1 : ∀ w ∈ wsX10, w ∈ wsX2_look := by decide +kernel
  have i2 : ∀ w ∈ wsX20, w ∈ wsX2_look := by decide +kernel
  have hN : N ≤ 2 ^ 30 := by omega
  have hC := hV.1.1
  have hla := hV.1.lat
  have hSt : ∀ i, i < V 16 0 → V 8 i ≤ 4 := fun i _ => hV.2.2.1.2.2.1 i
  obtain ⟨hS, hT, hM, hH, hNw, hQ⟩ := id hR
  first | refine g_aload_n C dX2_look_0 rfl ?_ | refine g_aload_nq C _ dX2_look_0 rfl ?_
  refine g_iload_n C dX2_look_1 rfl ?_
  refine x_callC C T9 hx9 (k_X2_requireVersion l hst D g A xa _ _ _ _ hB hN hS hT hC hla hSt x) gX2_look_X2_requireVersion dX2_look_2 (n := 1) rfl rfl rfl (by decide +kernel) ⟨Nat.le_of_ble_eq_true rfl, Nat.le_of_ble_eq_true rfl⟩ rfl rfl (Nat.le_of_ble_eq_true rfl) ⟨Nat.le_of_ble_eq_true rfl, Nat.le_of_ble_eq_true rfl⟩ (fun r I1 O1 L1 K1 hq => ?_) (fun E hE => Or.inl hE) (Nat.le_of_ble_eq_true rfl) (Nat.le_of_ble_eq_true rfl)
  obtain ⟨⟨e1, e2, e3, e4⟩, hq⟩ := hq
  rw [e1, e2, e3, e4]
  obtain ⟨⟨j, rfl, hj1, hj2⟩, hr⟩ := hq
  rw [hr]
  have hxj := (rfl : nI j = nI j)
  have hj : j < 2 ^ 31 := by omega
  have htl : tel V (nI j) := (tel_nI hj).mpr ⟨hj2, hj1⟩
  first | refine g_aload_n C dX2_look_5 rfl ?_ | refine g_aload_nq C _ dX2_look_5 rfl ?_
  refine g_iconst C 0 dX2_look_6 (by decide) ?_
  refine g_iload_n C dX2_look_7 rfl ?_
  refine x_callC C T9 hx9 (k_X2_enter l hst D g A xa _ _ _ _ hB hN hN2 hV hR 0 j (by decide) hj1) gX2_look_X2_enter dX2_look_8 (n := 2) rfl rfl rfl (by decide +kernel) ⟨Nat.le_of_ble_eq_true rfl, Nat.le_of_ble_eq_true rfl⟩ rfl rfl (Nat.le_of_ble_eq_true rfl) ⟨Nat.le_of_ble_eq_true rfl, Nat.le_of_ble_eq_true rfl⟩ (fun r I2 O2 L2 K2 hq => ?_) (fun E hE => Or.inr ⟨hE.1, htl, hE.2⟩) (Nat.le_of_ble_eq_true rfl) (Nat.le_of_ble_eq_true rfl)
  obtain ⟨hc60, hB1, hI1, hR1, hr⟩ := hq
  rw [hr]
  exact x_ret (g_iret C dX2_look_11 rfl (⟨I2, O2, L2, K2, rfl, j, hxj, hj1, hj2, hc60, ⟨hB1.mono (by omega), by rw [hI1]; exact hrc, own, hR1⟩, rfl⟩))
