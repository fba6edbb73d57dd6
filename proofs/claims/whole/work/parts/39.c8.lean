set_option maxRecDepth 100000 in
set_option maxHeartbeats 1000000 in
theorem k_X0_init (l : Launch) (D : va_G) (g : Nat → ClassId) (A : Nat → Prop) (xa : Nat → Nat) (I : VV) (O : OO) (L : List Nat) (K : Nat → Nat) (q nx b : Nat) (o : Option Nat) (hqL : q ∈ L) (hqK : K q = 0) (hb : b ≤ 1) : CC l yX0_init wsX0_init ({ frames := 1, cells := 0, slots := 0, locals := 12 } : Room) 0 0 D g A xa [.ref q, .int (nI nx), .int (nI b), va_rf o] I O L K (fun r I1 O1 L1 K1 => I1 = u2 (u2 I 10 q nx) 11 q b ∧ O1 = u2 O 5 q o ∧ L1 = L ∧ K1 = K ∧ r = none) := by
  have i0 : ∀ w ∈ wsX00, w ∈ wsX0_init := by decide +kernel
  cases o with
  | none =>
    refine k_ofWI [(0, .ref q), (1, .int (nI nx)), (2, .int (nI b)), (3, .null)] (by decide) rfl (Nat.le_of_ble_eq_true rfl) rfl (by simp [Value.category]) ?_
    intro p e s m args below meth c C hin2
    have hin2 : meth.name = "<init>" := hin2
    first | refine g_aload_n C dX0_init_0 rfl ?_ | refine g_aload_nq C _ dX0_init_0 rfl ?_
    refine g_objInit C (by decide +kernel) (by decide +kernel) (List.mem_of_getElem? (i := 3) rfl) dX0_init_1 (Nat.le_of_ble_eq_true rfl) (Nat.le_of_ble_eq_true rfl) ?_
    first | refine g_aload_n C dX0_init_4 rfl ?_ | refine g_aload_nq C _ dX0_init_4 rfl ?_
    refine g_iload_n C dX0_init_5 rfl ?_
    refine rp_version C hin2 rfl (by assumption) (by assumption) i0 (by decide +kernel) dX0_init_6 ?_
    first | refine g_aload_n C dX0_init_9 rfl ?_ | refine g_aload_nq C _ dX0_init_9 rfl ?_
    refine g_iload_n C dX0_init_10 rfl ?_
    refine rp_there C (by omega) hin2 rfl (by assumption) (by assumption) i0 (by decide +kernel) dX0_init_11 ?_
    first | refine g_aload_n C dX0_init_14 rfl ?_ | refine g_aload_nq C _ dX0_init_14 rfl ?_
    refine g_aload_nq C none dX0_init_15 rfl ?_
    first | refine rp_older (r := some _) C (by assumption) (by assumption) i0 (by decide +kernel) dX0_init_16 ?_ | refine rp_older C (by assumption) (by assumption) i0 (by decide +kernel) dX0_init_16 ?_
    exact g_vret C dX0_init_19 rfl (⟨_, _, _, _, rfl, rfl, rfl, rfl, rfl, rfl⟩)
  | some x =>
    refine k_ofWI [(0, .ref q), (1, .int (nI nx)), (2, .int (nI b)), (3, .ref x)] (by decide) rfl (Nat.le_of_ble_eq_true rfl) rfl (by simp [Value.category]) ?_
    intro p e s m args below meth c C hin2
    have hin2 : meth.name = "<init>" := hin2
    first | refine g_aload_n C dX0_init_0 rfl ?_ | refine g_aload_nq C _ dX0_init_0 rfl ?_
    refine g_objInit C (by decide +kernel) (by decide +kernel) (List.mem_of_getElem? (i := 3) rfl) dX0_init_1 (Nat.le_of_ble_eq_true rfl) (Nat.le_of_ble_eq_true rfl) ?_
    first | refine g_aload_n C dX0_init_4 rfl ?_ | refine g_aload_nq C _ dX0_init_4 rfl ?_
    refine g_iload_n C dX0_init_5 rfl ?_
    refine rp_version C hin2 rfl (by assumption) (by assumption) i0 (by decide +kernel) dX0_init_6 ?_
    first | refine g_aload_n C dX0_init_9 rfl ?_ | refine g_aload_nq C _ dX0_init_9 rfl ?_
    refine g_iload_n C dX0_init_10 rfl ?_
    refine rp_there C (by omega) hin2 rfl (by assumption) (by assumption) i0 (by decide +kernel) dX0_init_11 ?_
    first | refine g_aload_n C dX0_init_14 rfl ?_ | refine g_aload_nq C _ dX0_init_14 rfl ?_
    first | refine g_aload_n C dX0_init_15 rfl ?_ | refine g_aload_nq C _ dX0_init_15 rfl ?_
    first | refine rp_older (r := some _) C (by assumption) (by assumption) i0 (by decide +kernel) dX0_init_16 ?_ | refine rp_older C (by assumption) (by assumption) i0 (by decide +kernel) dX0_init_16 ?_
    exact g_vret C dX0_init_19 rfl (⟨_, _, _, _, rfl, rfl, rfl, rfl, rfl, rfl⟩)
set_option maxRecDepth 100000 in
set_option maxHeartbeats 1000000 in
theorem k_X2_isGraphChangedSince (l : Launch) (D : va_G) (g : Nat → ClassId) (A : Nat → Prop) (xa : Nat → Nat) (I : VV) (O : OO) (L : List Nat) (K : Nat → Nat) {N : Nat} (hB : BdN I N) (hN : N ≤ 2 ^ 30) {V : VV} {own : Nat → Nat} (hNw : RN V I O L K own) (hRw : Rw V) (gr v : Nat) (hg : gr < 4) (hv : v < 2 ^ 30) : CC l yX2_isGraphChangedSince wsX2_isGraphChangedSince ({ frames := 1, cells := 0, slots := 0, locals := 22 } : Room) 0 0 D g A xa [.ref (xa 0), .int (nI gr), .int (nI v)] I O L K (fun r I1 O1 L1 K1 => (I1 = I ∧ O1 = O ∧ L1 = L ∧ K1 = K) ∧ (((vAny V (50 * gr) v 50 = true) ∧ r = some (.int (nI 1))) ∨ (¬ (vAny V (50 * gr) v 50 = true) ∧ r = some (.int (nI 0))))) := by
  refine k_ofW [(0, .ref (xa 0)), (1, .int (nI gr)), (2, .int (nI v))] (by decide) rfl (Nat.le_of_ble_eq_true rfl) rfl (by simp [Value.category, vcat_rf]) ?_
  intro p e s m args below meth c C
  have i0 : ∀ w ∈ wsX00, w ∈ wsX2_isGraphChangedSince := by decide +kernel
  have i2 : ∀ w ∈ wsX20, w ∈ wsX2_isGraphChangedSince := by decide +kernel
  have loop : ∀ (n k : Nat), 50 - k = n → k ≤ 50 → vAny V (50 * gr) v k = false → GG p l e ({ frames := 1, cells := 0, slots := 0, locals := 22 } : Room) s m args below meth c (cQ below D g A xa args s 0 0 (fun r I1 O1 L1 K1 => (I1 = I ∧ O1 = O ∧ L1 = L ∧ K1 = K) ∧ (((vAny V (50 * gr) v 50 = true) ∧ r = some (.int (nI 1))) ∨ (¬ (vAny V (50 * gr) v 50 = true) ∧ r = some (.int (nI 0)))))) 5 D A s.heap (cW g xa I O L K) (0) (0) 8 [(0, .ref (xa 0)), (1, .int (nI gr)), (2, .int (nI v)), (3, .int (nI (50 * gr))), (4, .int (nI (50 * gr + k)))] [] := by
    intro n
    induction n using Nat.strongRecOn with
    | _ n ih =>
      intro k hn hk ha
      refine g_iload C dX2_isGraphChangedSince_8 rfl ?_
      refine g_iload_n C dX2_isGraphChangedSince_10 rfl ?_
      refine g_bipush C 50 dX2_isGraphChangedSince_11 (by decide) ?_
      first | refine g_iadd C dX2_isGraphChangedSince_13 ?_ | refine g_iaddx C dX2_isGraphChangedSince_13 ?_
      refine g_icmp_ge C 35 dX2_isGraphChangedSince_14 (by decide) (by omega) (by omega) (fun c14 => ?_) (fun c14 => ?_)
      · refine g_iconst C 0 dX2_isGraphChangedSince_35 (by decide) ?_
        exact g_zret C dX2_isGraphChangedSince_36 rfl (by first | exact nar_boolV (by omega) | decide +kernel) (⟨I, O, L, K, rfl, ⟨rfl, rfl, rfl, rfl⟩, Or.inr ⟨fun z => by rw [show vAny V (50 * gr) v 50 = false from (show k = 50 by omega) ▸ ha] at z; exact absurd z (by decide), rfl⟩⟩)
      · first | refine g_aload_n C dX2_isGraphChangedSince_17 rfl ?_ | refine g_aload_nq C _ dX2_isGraphChangedSince_17 rfl ?_
        refine g_iload C dX2_isGraphChangedSince_18 rfl ?_
        refine g_iload_n C dX2_isGraphChangedSince_20 rfl ?_
        refine g_callC C (k_X2_isChangedSince l D g A xa _ _ _ _ hB hN (50 * gr + k) v (by omega) hv (hNw _ (by omega))) gX2_isGraphChangedSince_X2_isChangedSince dX2_isGraphChangedSince_21 (n := 2) rfl rfl rfl (by decide +kernel) ⟨Nat.le_of_ble_eq_true rfl, Nat.le_of_ble_eq_true rfl⟩ rfl rfl (Nat.le_of_ble_eq_true rfl) ⟨by omega, by omega⟩ (fun r I1 O1 L1 K1 hq => ?_)
        obtain ⟨⟨e1, e2, e3, e4⟩, hq⟩ := hq
        rw [e1, e2, e3, e4]
        rw [hdL_iff hRw.2 _ (Nat.le_refl _)] at hq
        rcases hq with ⟨h21, rfl⟩ | ⟨h21, rfl⟩
        · refine g_if_eq C 29 dX2_isGraphChangedSince_24 (by decide) (by decide) (fun c24 => absurd c24 (by decide)) (fun c24 => ?_)
          refine g_iconst C 1 dX2_isGraphChangedSince_27 (by decide) ?_
          exact g_zret C dX2_isGraphChangedSince_28 rfl (by first | exact nar_boolV (by omega) | decide +kernel) (⟨I, O, L, K, rfl, ⟨rfl, rfl, rfl, rfl⟩, Or.inl ⟨vAny_true (by omega) h21, rfl⟩⟩)
        · refine g_if_eq C 29 dX2_isGraphChangedSince_24 (by decide) (by decide) (fun c24 => ?_) (fun c24 => absurd c24 (by decide))
          refine g_iinc C dX2_isGraphChangedSince_29 rfl (by decide) ?_
          refine g_goto C 8 dX2_isGraphChangedSince_32 (by decide) ?_
          exact ih _ (by omega) (k + 1) rfl (by omega) (by show (vAny V (50 * gr) v k || vAb V (50 * gr + k) v (V 3 0)) = false; rw [ha]; cases hz : vAb V (50 * gr + k) v (V 3 0) with | false => rfl | true => exact absurd hz h21)
  refine g_iload_n C dX2_isGraphChangedSince_0 rfl ?_
  refine g_bipush C 50 dX2_isGraphChangedSince_1 (by decide) ?_
  refine g_imul C dX2_isGraphChangedSince_3 ?_
  rw [Nat.mul_comm gr 50]
  refine g_istore_n C dX2_isGraphChangedSince_4 (by decide) ?_
  refine g_iload_n C dX2_isGraphChangedSince_5 rfl ?_
  refine g_istore C dX2_isGraphChangedSince_6 (by decide) ?_
  exact loop _ 0 rfl (by omega) rfl
set_option maxRecDepth 100000 in
set_option maxHeartbeats 1000000 in
theorem k_X2_leastChangedNote (l : Launch) (D : va_G) (g : Nat → ClassId) (A : Nat → Prop) (xa : Nat → Nat) (I : VV) (O : OO) (L : List Nat) (K : Nat → Nat) {N : Nat} (hB : BdN I N) (hN : N ≤ 2 ^ 30) {V : VV} {own : Nat → Nat} (hR : RC V I O L K own) (hRw : Rw V) (t : Nat) (ht : t < V 16 0) (a : Nat) (ha : tx O t = a) : CC l yX2_leastChangedNote wsX2_leastChangedNote ({ frames := 2, cells := 0, slots := 0, locals := 46 } : Room) 0 0 D g A xa [.ref (xa 0), .ref a] I O L K (fun r I1 O1 L1 K1 => (I1 = I ∧ O1 = O ∧ L1 = L ∧ K1 = K) ∧ r = some (.int (nI (vCh V t 4 0) - 1))) := by
  subst ha
  refine k_ofW [(0, .ref (xa 0)), (1, .ref (tx O t))] (by decide) rfl (Nat.le_of_ble_eq_true rfl) rfl (by simp [Value.category, vcat_rf]) ?_
  intro p e s m args below meth c C
  have i0 : ∀ w ∈ wsX00, w ∈ wsX2_leastChangedNote := by decide +kernel
  have i1 : ∀ w ∈ wsX10, w ∈ wsX2_leastChangedNote := by decide +kernel
  have i2 : ∀ w ∈ wsX20, w ∈ wsX2_leastChangedNote := by decide +kernel
  obtain ⟨hS, hT, hM, hH, hNw, hQ⟩ := hR
  obtain ⟨-, tL, tK, -, -, h14, -, -, -⟩ := hT t ht
  obtain ⟨na, hna, nL, nK, -, hbits⟩ := hM.1 t ht
  have h7 : V 7 t < N := by rw [← h14]; exact hB 14 (tx O t)
  have loop : ∀ (f i : Nat), i + f = 4 → vCh V t f i = vCh V t 4 0 → GG p l e ({ frames := 2, cells := 0, slots := 0, locals := 46 } : Room) s m args below meth c (cQ below D g A xa args s 0 0 (fun r I1 O1 L1 K1 => (I1 = I ∧ O1 = O ∧ L1 = L ∧ K1 = K) ∧ r = some (.int (nI (vCh V t 4 0) - 1)))) 3 D A s.heap (cW g xa I O L K) (0) (0) 2 [(0, .ref (xa 0)), (1, .ref (tx O t)), (2, .int (nI i))] [] := by
    intro f
    induction f with
    | zero =>
      intro i hi hv
      refine g_iload_n C dX2_leastChangedNote_2 rfl ?_
      refine g_iconst C 4 dX2_leastChangedNote_3 (by decide) ?_
      refine g_icmp_ge C 36 dX2_leastChangedNote_4 (by decide) (by omega) (by decide) (fun c4 => ?_) (fun c4 => ?_)
      · refine g_iconstm C dX2_leastChangedNote_36 ?_
        exact g_iret C dX2_leastChangedNote_37 rfl (⟨I, O, L, K, rfl, ⟨rfl, rfl, rfl, rfl⟩, by rw [← hv, show vCh V t 0 i = 0 from rfl, sh0]⟩)
      · exact absurd c4 (by omega)
    | succ f ihf =>
      intro i hi hv
      have hv2 : vCh V t (f + 1) i = if vBit (V 9 t) i = 1 ∧ vAny V (50 * i) (V 7 t) 50 = true then i + 1 else vCh V t f (i + 1) := rfl
      refine g_iload_n C dX2_leastChangedNote_2 rfl ?_
      refine g_iconst C 4 dX2_leastChangedNote_3 (by decide) ?_
      refine g_icmp_ge C 36 dX2_leastChangedNote_4 (by decide) (by omega) (by decide) (fun c4 => ?_) (fun c4 => ?_)
      · exact absurd c4 (by omega)
      · first | refine g_aload_n C dX2_leastChangedNote_7 rfl ?_ | refine g_aload_nq C _ dX2_leastChangedNote_7 rfl ?_
        refine tg_noted C (by assumption) (by assumption) i1 (by decide +kernel) dX2_leastChangedNote_8 ?_
        rw [hna]
        refine g_iload_n C dX2_leastChangedNote_11 rfl ?_
        refine nl_noted C (by assumption) (by assumption) dX2_leastChangedNote_12 (by omega) ?_
        rw [hbits i (by omega)]
        refine g_if_eq C 30 dX2_leastChangedNote_13 (by decide) (by have := nt_bit1 (V 9 t) i; omega) (fun c13 => ?_) (fun c13 => ?_)
        · refine g_iinc C dX2_leastChangedNote_30 rfl (by decide) ?_
          refine g_goto C 2 dX2_leastChangedNote_33 (by decide) ?_
          exact ihf (i + 1) (by omega) (by rw [← hv, hv2, if_neg (fun q => by have := q.1; omega)])
        · have c13 : vBit (V 9 t) i = 1 := by have := nt_bit1 (V 9 t) i; omega
          first | refine g_aload_n C dX2_leastChangedNote_16 rfl ?_ | refine g_aload_nq C _ dX2_leastChangedNote_16 rfl ?_
          refine g_iload_n C dX2_leastChangedNote_17 rfl ?_
          first | refine g_aload_n C dX2_leastChangedNote_18 rfl ?_ | refine g_aload_nq C _ dX2_leastChangedNote_18 rfl ?_
          refine tg_sees C (by assumption) (by assumption) i1 (by decide +kernel) dX2_leastChangedNote_19 ?_
          rw [h14]
          refine g_callC C (k_X2_isGraphChangedSince l D g A xa _ _ _ _ hB hN hNw hRw i (V 7 t) (by omega) (by omega)) gX2_leastChangedNote_X2_isGraphChangedSince dX2_leastChangedNote_22 (n := 2) rfl rfl rfl (by decide +kernel) ⟨Nat.le_of_ble_eq_true rfl, Nat.le_of_ble_eq_true rfl⟩ rfl rfl (Nat.le_of_ble_eq_true rfl) ⟨by omega, by omega⟩ (fun r I1 O1 L1 K1 hq => ?_)
          obtain ⟨⟨e1, e2, e3, e4⟩, hq⟩ := hq
          rw [e1, e2, e3, e4]
          rcases hq with ⟨h22, rfl⟩ | ⟨h22, rfl⟩
          · refine g_if_eq C 30 dX2_leastChangedNote_25 (by decide) (by decide) (fun c25 => absurd c25 (by decide)) (fun c25 => ?_)
            refine g_iload_n C dX2_leastChangedNote_28 rfl ?_
            exact g_iret C dX2_leastChangedNote_29 rfl (⟨I, O, L, K, rfl, ⟨rfl, rfl, rfl, rfl⟩, by rw [← hv, hv2, if_pos ⟨c13, h22⟩, sh_pos (Nat.succ_pos _)]; rfl⟩)
          · refine g_if_eq C 30 dX2_leastChangedNote_25 (by decide) (by decide) (fun c25 => ?_) (fun c25 => absurd c25 (by decide))
            refine g_iinc C dX2_leastChangedNote_30 rfl (by decide) ?_
            refine g_goto C 2 dX2_leastChangedNote_33 (by decide) ?_
            exact ihf (i + 1) (by omega) (by rw [← hv, hv2, if_neg (fun q => h22 q.2)])
  refine g_iconst C 0 dX2_leastChangedNote_0 (by decide) ?_
  refine g_istore_n C dX2_leastChangedNote_1 (by decide) ?_
  exact loop 4 0 rfl rfl
set_option maxRecDepth 100000 in
set_option maxHeartbeats 1000000 in
theorem k_X2_isRefused (l : Launch) (D : va_G) (g : Nat → ClassId) (A : Nat → Prop) (xa : Nat → Nat) (I : VV) (O : OO) (L : List Nat) (K : Nat → Nat) {N : Nat} (hB : BdN I N) (hN : N ≤ 2 ^ 30) {V : VV} {own : Nat → Nat} (hR : RC V I O L K own) (hRw : Rw V) (t : Nat) (ht : t < V 16 0) (a : Nat) (ha : tx O t = a) : CC l yX2_isRefused wsX2_isRefused ({ frames := 3, cells := 0, slots := 0, locals := 68 } : Room) 0 0 D g A xa [.ref (xa 0), .ref a] I O L K (fun r I1 O1 L1 K1 => (I1 = I ∧ O1 = O ∧ L1 = L ∧ K1 = K) ∧ (((V 8 t = 2 ∨ 0 < vCh V t 4 0) ∧ r = some (.int (nI 1))) ∨ (¬ (V 8 t = 2 ∨ 0 < vCh V t 4 0) ∧ r = some (.int (nI 0))))) := by
  subst ha
  refine k_ofW [(0, .ref (xa 0)), (1, .ref (tx O t))] (by decide) rfl (Nat.le_of_ble_eq_true rfl) rfl (by simp [Value.category, vcat_rf]) ?_
  intro p e s m args below meth c C
  have i0 : ∀ w ∈ wsX00, w ∈ wsX2_isRefused := by decide +kernel
  have i1 : ∀ w ∈ wsX10, w ∈ wsX2_isRefused := by decide +kernel
  have i2 : ∀ w ∈ wsX20, w ∈ wsX2_isRefused := by decide +kernel
  have hcl := vCh_le V t 4 0
  obtain ⟨-, tL, tK, -, -, -, h16, -, -⟩ := hR.2.1 t ht
  first | refine g_aload_n C dX2_isRefused_0 rfl ?_ | refine g_aload_nq C _ dX2_isRefused_0 rfl ?_
  refine tg_state C (by assumption) (by assumption) i1 (by decide +kernel) dX2_isRefused_1 ?_
  rw [h16]
  refine g_iconst C 2 dX2_isRefused_4 (by decide) ?_
  refine g_icmp_eq C 16 dX2_isRefused_5 (by decide) (by rw [← h16]; exact bd hB hN _ _) (by decide) (fun c5 => ?_) (fun c5 => ?_)
  · refine g_iconst C 1 dX2_isRefused_16 (by decide) ?_
    refine g_goto C 21 dX2_isRefused_17 (by decide) ?_
    exact g_zret C dX2_isRefused_21 rfl (by first | exact nar_boolV (by omega) | decide +kernel) (⟨I, O, L, K, rfl, ⟨rfl, rfl, rfl, rfl⟩, Or.inl ⟨Or.inl c5, rfl⟩⟩)
  · first | refine g_aload_n C dX2_isRefused_8 rfl ?_ | refine g_aload_nq C _ dX2_isRefused_8 rfl ?_
    first | refine g_aload_n C dX2_isRefused_9 rfl ?_ | refine g_aload_nq C _ dX2_isRefused_9 rfl ?_
    refine g_callC C (k_X2_leastChangedNote l D g A xa _ _ _ _ hB hN hR hRw t ht (tx O t) rfl) gX2_isRefused_X2_leastChangedNote dX2_isRefused_10 (n := 1) rfl rfl rfl (by decide +kernel) ⟨Nat.le_of_ble_eq_true rfl, Nat.le_of_ble_eq_true rfl⟩ rfl rfl (Nat.le_of_ble_eq_true rfl) ⟨by omega, by omega⟩ (fun r I1 O1 L1 K1 hq => ?_)
    obtain ⟨⟨e1, e2, e3, e4⟩, hq⟩ := hq
    rw [e1, e2, e3, e4]
    rw [hq]
    refine g_ifx_lt C 20 dX2_isRefused_13 (by decide) (fun c13 => ?_) (fun c13 => ?_)
    · have c13 : vCh V t 4 0 = 0 := (sh_lt (by omega)).mp c13
      refine g_iconst C 0 dX2_isRefused_20 (by decide) ?_
      exact g_zret C dX2_isRefused_21 rfl (by first | exact nar_boolV (by omega) | decide +kernel) (⟨I, O, L, K, rfl, ⟨rfl, rfl, rfl, rfl⟩, Or.inr ⟨fun z => z.elim c5 (fun y => by omega), rfl⟩⟩)
    · have c13 : 0 < vCh V t 4 0 := Nat.pos_of_ne_zero (fun z => c13 ((sh_lt (by omega)).mpr z))
      refine g_iconst C 1 dX2_isRefused_16 (by decide) ?_
      refine g_goto C 21 dX2_isRefused_17 (by decide) ?_
      exact g_zret C dX2_isRefused_21 rfl (by first | exact nar_boolV (by omega) | decide +kernel) (⟨I, O, L, K, rfl, ⟨rfl, rfl, rfl, rfl⟩, Or.inl ⟨Or.inr c13, rfl⟩⟩)
set_option maxRecDepth 100000 in
set_option maxHeartbeats 1000000 in
theorem k_X2_giveUp (l : Launch) (D : va_G) (g : Nat → ClassId) (A : Nat → Prop) (xa : Nat → Nat) (I : VV) (O : OO) (L : List Nat) (K : Nat → Nat) {N : Nat} (hB : BdN I N) (hN : N ≤ 2 ^ 30) {V : VV} {own : Nat → Nat} (hN2 : 20000 ≤ N) (hN3 : N + 1 ≤ 2 ^ 30) (hI : Iv V) (hR : RC V I O L K own) (hRw : Rw V) (t : Nat) (ht : t < V 16 0) (hem : V 19 0 = V 20 0) (hc : V 8 t = 2 ∨ 0 < vCh V t 4 0) (a : Nat) (ha : tx O t = a) : CC l yX2_giveUp wsX2_giveUp ({ frames := 3, cells := 0, slots := 0, locals := 71 } : Room) 0 0 D g A xa [.ref (xa 0), .ref a] I O L K (fun r I1 O1 L1 K1 => (L1 = L ∧ K1 = K ∧ I1 1 = I 1 ∧ O1 2 = O 2) ∧ BdN I1 (N + 1) ∧ RC (vEnd (vRef V t) t 4) I1 O1 L K own ∧ r = some (.int (nI 0))) := by
  subst ha
  refine k_ofW [(0, .ref (xa 0)), (1, .ref (tx O t))] (by decide) rfl (Nat.le_of_ble_eq_true rfl) rfl (by simp [Value.category, vcat_rf]) ?_
  intro p e s m args below meth c C
  have i0 : ∀ w ∈ wsX00, w ∈ wsX2_giveUp := by decide +kernel
  have i1 : ∀ w ∈ wsX10, w ∈ wsX2_giveUp := by decide +kernel
  have i2 : ∀ w ∈ wsX20, w ∈ wsX2_giveUp := by decide +kernel
  have hcl := vCh_le V t 4 0
  have hC := hI.1
  obtain ⟨-, tL, tK, -, -, -, h16, -, -⟩ := hR.2.1 t ht
  have hWW : ∀ i, i < V 16 0 → V 8 i = 1 → 0 < V 11 i ∧ V 11 i ≤ V 16 0 := fun i h1 h2 => ⟨(hI.2.1 i h1 h2).1, (hI.2.1 i h1 h2).2.1⟩
  first | refine g_aload_n C dX2_giveUp_0 rfl ?_ | refine g_aload_nq C _ dX2_giveUp_0 rfl ?_
  refine tg_state C (by assumption) (by assumption) i1 (by decide +kernel) dX2_giveUp_1 ?_
  rw [h16]
  refine g_iconst C 2 dX2_giveUp_4 (by decide) ?_
  refine g_icmp_eq C 28 dX2_giveUp_5 (by decide) (by rw [← h16]; exact bd hB hN _ _) (by decide) (fun c5 => ?_) (fun c5 => ?_)
  · first | refine g_aload_n C dX2_giveUp_28 rfl ?_ | refine g_aload_nq C _ dX2_giveUp_28 rfl ?_
    first | refine g_aload_n C dX2_giveUp_29 rfl ?_ | refine g_aload_nq C _ dX2_giveUp_29 rfl ?_
    refine g_iconst C 4 dX2_giveUp_30 (by decide) ?_
    refine g_callC C (k_X2_finish l D g A xa _ _ _ _ (hB.mono (Nat.le_succ N)) (by omega) (by omega) hR t 4 ht (by decide) (by decide) hC hI.2.2.1 hWW (by omega) (fun j h1 h2 => by omega) (tx O t) rfl) gX2_giveUp_X2_finish dX2_giveUp_31 (n := 2) rfl rfl rfl (by decide +kernel) ⟨Nat.le_of_ble_eq_true rfl, Nat.le_of_ble_eq_true rfl⟩ rfl rfl (Nat.le_of_ble_eq_true rfl) ⟨by omega, by omega⟩ (fun r I1 O1 L1 K1 hq => ?_)
    obtain ⟨⟨x1, x2, x3, x4⟩, hB3, hR3, rfl⟩ := hq
    rw [x1, x2]
    refine g_iconst C 0 dX2_giveUp_34 (by decide) ?_
    exact g_iret C dX2_giveUp_35 rfl (⟨I1, O1, L, K, rfl, ⟨rfl, rfl, x3 1 (by decide), x4 2 (by decide) (by decide) (by decide) (by decide) (by decide)⟩, hB3, by unfold vRef; rw [if_pos c5]; exact hR3, rfl⟩)
  · first | refine g_aload_n C dX2_giveUp_8 rfl ?_ | refine g_aload_nq C _ dX2_giveUp_8 rfl ?_
    first | refine g_aload_n C dX2_giveUp_9 rfl ?_ | refine g_aload_nq C _ dX2_giveUp_9 rfl ?_
    refine g_callC C (k_X2_leastChangedNote l D g A xa _ _ _ _ hB hN hR hRw t ht (tx O t) rfl) gX2_giveUp_X2_leastChangedNote dX2_giveUp_10 (n := 1) rfl rfl rfl (by decide +kernel) ⟨Nat.le_of_ble_eq_true rfl, Nat.le_of_ble_eq_true rfl⟩ rfl rfl (Nat.le_of_ble_eq_true rfl) ⟨by omega, by omega⟩ (fun r I1 O1 L1 K1 hq => ?_)
    obtain ⟨⟨e1, e2, e3, e4⟩, hq⟩ := hq
    rw [e1, e2, e3, e4]
    rw [hq]
    refine g_istore_n C dX2_giveUp_13 (by decide) ?_
    refine g_iload_n C dX2_giveUp_14 rfl ?_
    refine g_ifx_lt C 28 dX2_giveUp_15 (by decide) (fun c15 => ?_) (fun c15 => ?_)
    · exact absurd ((sh_lt (by omega)).mp c15) (by have := hc.resolve_left c5; omega)
    · have c15 : 0 < vCh V t 4 0 := Nat.pos_of_ne_zero (fun z => c15 ((sh_lt (by omega)).mpr z))
      first | refine g_aload_n C dX2_giveUp_18 rfl ?_ | refine g_aload_nq C _ dX2_giveUp_18 rfl ?_
      refine cg_refusedForGraph C i2 (by decide +kernel) dX2_giveUp_19 ?_
      refine g_iload_n C dX2_giveUp_22 rfl ?_
      refine g_top C (sh_pos c15) ?_
      refine g_dup2 C dX2_giveUp_23 (by first | rfl | exact vcat_rf _) (by first | rfl | exact vcat_rf _) ?_
      refine cl_refusedForGraph C dX2_giveUp_24 (by omega) ?_
      refine g_iconst C 1 dX2_giveUp_25 (by decide) ?_
      first | refine g_iadd C dX2_giveUp_26 ?_ | refine g_iaddx C dX2_giveUp_26 ?_
      refine cs_refusedForGraph C dX2_giveUp_27 (by omega) ?_
      have hi8 : I 8 (vCh V t 4 0 - 1) = V 24 (vCh V t 4 0 - 1) := hR.1.2.2.2.2.2.2.1 _ (by omega)
      have hB2 : BdN (u2 I 8 (vCh V t 4 0 - 1) (I 8 (vCh V t 4 0 - 1) + 1)) (N + 1) := (hB.mono (Nat.le_succ N)).up (Nat.succ_lt_succ (hB 8 _))
      have hR2 : RC (u2 V 24 (vCh V t 4 0 - 1) (V 24 (vCh V t 4 0 - 1) + 1)) (u2 I 8 (vCh V t 4 0 - 1) (I 8 (vCh V t 4 0 - 1) + 1)) O L K own := by
        obtain ⟨hS, hT, hM, hH, hNw, hQ⟩ := hR
        refine ⟨?_, hT.cong ⟨rfl, rfl, rfl, rfl, rfl, rfl, rfl, rfl⟩ ⟨rfl, rfl, rfl, rfl, rfl, rfl, rfl⟩ ⟨rfl, rfl⟩, hM.cong ⟨rfl, rfl⟩ ⟨rfl, fun g9 => by simp only [u2]; rw [if_neg (by omega)]⟩ ⟨rfl, rfl⟩, hH.cong ⟨rfl, rfl⟩ rfl ⟨rfl, rfl⟩, hNw.cong ⟨rfl, rfl, rfl, rfl⟩ ⟨rfl, rfl⟩ ⟨rfl, rfl⟩, hQ.cong ⟨rfl, rfl, rfl⟩ ⟨rfl, rfl, rfl, rfl⟩⟩
        obtain ⟨q1, q2, q3, q4, q5, q6, q7, q8⟩ := hS
        refine ⟨q1, q2, q3, q4, q5, q6, fun k9 h9 => ?_, q8⟩
        by_cases y : k9 = vCh V t 4 0 - 1
        · rw [y, u2_same, u2_same, hi8]
        · rw [u2_ni _ _ _ _ y, u2_ni _ _ _ _ y]
          exact q7 k9 h9
      first | refine g_aload_n C dX2_giveUp_28 rfl ?_ | refine g_aload_nq C _ dX2_giveUp_28 rfl ?_
      first | refine g_aload_n C dX2_giveUp_29 rfl ?_ | refine g_aload_nq C _ dX2_giveUp_29 rfl ?_
      refine g_iconst C 4 dX2_giveUp_30 (by decide) ?_
      refine g_callC C (k_X2_finish l D g A xa _ _ _ _ hB2 (by omega) (by omega) hR2 t 4 ht (by decide) (by decide) hC hI.2.2.1 hWW (show V 19 0 ≤ V 20 0 by omega) (fun j (h1 : V 19 0 ≤ j) (h2 : j < V 20 0) => by omega) (tx O t) rfl) gX2_giveUp_X2_finish dX2_giveUp_31 (n := 2) rfl rfl rfl (by decide +kernel) ⟨Nat.le_of_ble_eq_true rfl, Nat.le_of_ble_eq_true rfl⟩ rfl rfl (Nat.le_of_ble_eq_true rfl) ⟨by omega, by omega⟩ (fun r I1 O1 L1 K1 hq => ?_)
      obtain ⟨⟨x1, x2, x3, x4⟩, hB3, hR3, rfl⟩ := hq
      rw [x1, x2]
      refine g_iconst C 0 dX2_giveUp_34 (by decide) ?_
      exact g_iret C dX2_giveUp_35 rfl (⟨I1, O1, L, K, rfl, ⟨rfl, rfl, x3 1 (by decide), x4 2 (by decide) (by decide) (by decide) (by decide) (by decide)⟩, hB3, by unfold vRef; rw [if_neg c5]; exact hR3, rfl⟩)
