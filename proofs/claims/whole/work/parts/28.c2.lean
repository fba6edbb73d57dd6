def outAns (s : Nat) : Int32 := if s = 1 then 0 else if s = 2 then -1 else if s = 4 then -2 else 1
set_option maxRecDepth 100000 in
set_option maxHeartbeats 1000000 in
theorem k_X2_outcomeOfWrite (l : Launch) (D : va_G) (g : Nat → ClassId) (A : Nat → Prop) (xa : Nat → Nat) (I : VV) (O : OO) (L : List Nat) (K : Nat → Nat) {N : Nat} (hB : BdN I N) (hN : N ≤ 2 ^ 30) (a : Nat) (haL : a ∈ L) (haK : K a = 1) (h4 : I 16 a ≤ 4) : CC l yX2_outcomeOfWrite wsX2_outcomeOfWrite ({ frames := 0, cells := 0, slots := 0, locals := 0 } : Room) 0 0 D g A xa [.ref a] I O L K (fun r I1 O1 L1 K1 => (I1 = I ∧ O1 = O ∧ L1 = L ∧ K1 = K) ∧ r = some (.int (outAns (I 16 a)))) := by
  refine k_ofW [(0, .ref a)] (by decide) rfl (Nat.le_of_ble_eq_true rfl) rfl (by simp [Value.category, vcat_rf]) ?_
  intro p e s m args below meth c C
  have i1 : ∀ w ∈ wsX10, w ∈ wsX2_outcomeOfWrite := by decide +kernel
  first | refine g_aload_n C dX2_outcomeOfWrite_0 rfl ?_ | refine g_aload_nq C _ dX2_outcomeOfWrite_0 rfl ?_
  refine tg_state C (by assumption) (by assumption) i1 (by decide +kernel) dX2_outcomeOfWrite_1 ?_
  rcases (show I 16 a = 0 ∨ I 16 a = 1 ∨ I 16 a = 2 ∨ I 16 a = 3 ∨ I 16 a = 4 by omega) with e | e | e | e | e <;> rw [e]
  · refine g_tableOut C 43 dX2_outcomeOfWrite_4 (by decide) (by decide) ?_
    refine g_iconst C 1 dX2_outcomeOfWrite_43 (by decide) ?_
    exact g_iret C dX2_outcomeOfWrite_44 rfl (⟨I, O, L, K, rfl, ⟨rfl, rfl, rfl, rfl⟩, by first | rfl | decide⟩)
  · refine g_tableIn C (off := 32) 36 dX2_outcomeOfWrite_4 (by decide) (by decide) (by decide) (by decide) ?_
    refine g_iconst C 0 dX2_outcomeOfWrite_36 (by decide) ?_
    exact g_iret C dX2_outcomeOfWrite_37 rfl (⟨I, O, L, K, rfl, ⟨rfl, rfl, rfl, rfl⟩, by first | rfl | decide⟩)
  · refine g_tableIn C (off := 34) 38 dX2_outcomeOfWrite_4 (by decide) (by decide) (by decide) (by decide) ?_
    refine g_iconstm C dX2_outcomeOfWrite_38 ?_
    exact g_iret C dX2_outcomeOfWrite_39 rfl (⟨I, O, L, K, rfl, ⟨rfl, rfl, rfl, rfl⟩, by first | rfl | decide⟩)
  · refine g_tableIn C (off := 39) 43 dX2_outcomeOfWrite_4 (by decide) (by decide) (by decide) (by decide) ?_
    refine g_iconst C 1 dX2_outcomeOfWrite_43 (by decide) ?_
    exact g_iret C dX2_outcomeOfWrite_44 rfl (⟨I, O, L, K, rfl, ⟨rfl, rfl, rfl, rfl⟩, by first | rfl | decide⟩)
  · refine g_tableIn C (off := 36) 40 dX2_outcomeOfWrite_4 (by decide) (by decide) (by decide) (by decide) ?_
    refine g_bipushx C dX2_outcomeOfWrite_40 rfl ?_
    exact g_iret C dX2_outcomeOfWrite_42 rfl (⟨I, O, L, K, rfl, ⟨rfl, rfl, rfl, rfl⟩, by first | rfl | decide⟩)
set_option maxRecDepth 100000 in
set_option maxHeartbeats 1000000 in
theorem k_X2_countOwnWrites (l : Launch) (D : va_G) (g : Nat → ClassId) (A : Nat → Prop) (xa : Nat → Nat) (I : VV) (O : OO) (L : List Nat) (K : Nat → Nat) {V : VV} (hT : RT V I O L K) (hH : RH V I O) (t : Nat) (ht : t < V 16 0) (h17 : ∀ k, k < 200 → V 17 k ≤ V 16 0) (hw : ∀ k, k < 200 → (0 < V 10 (200 * t + k) ↔ V 17 k = t + 1)) (a : Nat) (ha : tx O t = a) : CC l yX2_countOwnWrites wsX2_countOwnWrites ({ frames := 0, cells := 0, slots := 0, locals := 0 } : Room) 0 0 D g A xa [.ref (xa 0), .ref a] I O L K (fun r I1 O1 L1 K1 => (I1 = I ∧ O1 = O ∧ L1 = L ∧ K1 = K) ∧ r = some (.int (nI (vWc V t 200)))) := by
  subst ha
  refine k_ofW [(0, .ref (xa 0)), (1, .ref (tx O t))] (by decide) rfl (Nat.le_of_ble_eq_true rfl) rfl (by simp [Value.category, vcat_rf]) ?_
  intro p e s m args below meth c C
  have i2 : ∀ w ∈ wsX20, w ∈ wsX2_countOwnWrites := by decide +kernel
  have hold : ∀ k, k < 200 → (O 4 k = some (tx O t) ↔ V 17 k = t + 1) := RH.holds hT hH ht h17
  have loop : ∀ (n i : Nat), 200 - i = n → i ≤ 200 → GG p l e ({ frames := 0, cells := 0, slots := 0, locals := 0 } : Room) s m args below meth c (cQ below D g A xa args s 0 0 (fun r I1 O1 L1 K1 => (I1 = I ∧ O1 = O ∧ L1 = L ∧ K1 = K) ∧ r = some (.int (nI (vWc V t 200))))) 4 D A s.heap (cW g xa I O L K) (0) (0) 4 [(0, .ref (xa 0)), (1, .ref (tx O t)), (2, .int (nI (vWc V t i))), (3, .int (nI i))] [] := by
    intro n
    induction n using Nat.strongRecOn with
    | _ n ih =>
      intro i hn hi
      refine g_iload_n C dX2_countOwnWrites_4 rfl ?_
      refine g_sipush C 200 dX2_countOwnWrites_5 (by decide) ?_
      refine g_icmp_ge C 30 dX2_countOwnWrites_8 (by decide) (by omega) (by decide) (fun c8 => ?_) (fun c8 => ?_)
      · refine g_iload_n C dX2_countOwnWrites_30 rfl ?_
        exact g_iret C dX2_countOwnWrites_31 rfl (⟨I, O, L, K, rfl, ⟨rfl, rfl, rfl, rfl⟩, by rw [show i = 200 by omega]⟩)
      · first | refine g_aload_n C dX2_countOwnWrites_11 rfl ?_ | refine g_aload_nq C _ dX2_countOwnWrites_11 rfl ?_
        refine cg_holder C i2 (by decide +kernel) dX2_countOwnWrites_12 ?_
        refine g_iload_n C dX2_countOwnWrites_15 rfl ?_
        refine cl_holder C dX2_countOwnWrites_16 (by omega) ?_
        first | refine g_aload_n C dX2_countOwnWrites_17 rfl ?_ | refine g_aload_nq C _ dX2_countOwnWrites_17 rfl ?_
        refine g_acmp_ne C _ (some (tx O t)) 24 dX2_countOwnWrites_18 (by decide) (fun c18 => ?_) (fun c18 => ?_)
        · refine g_iinc C dX2_countOwnWrites_24 rfl (by decide) ?_
          refine g_goto C 4 dX2_countOwnWrites_27 (by decide) ?_
          have e9 : vWc V t (i + 1) = vWc V t i := by show vWc V t i + (if 0 < V 10 (200 * t + i) then 1 else 0) = vWc V t i + 0; rw [if_neg (fun z => c18 ((hold i (by omega)).mpr ((hw i (by omega)).mp z)))]
          have ih9 := ih _ (by omega) (i + 1) rfl (by omega)
          rw [e9] at ih9
          exact ih9
        · refine g_iinc C dX2_countOwnWrites_21 rfl (by decide) ?_
          refine g_iinc C dX2_countOwnWrites_24 rfl (by decide) ?_
          refine g_goto C 4 dX2_countOwnWrites_27 (by decide) ?_
          have e9 : vWc V t (i + 1) = vWc V t i + 1 := by show vWc V t i + (if 0 < V 10 (200 * t + i) then 1 else 0) = vWc V t i + 1; rw [if_pos ((hw i (by omega)).mpr ((hold i (by omega)).mp c18))]
          have ih9 := ih _ (by omega) (i + 1) rfl (by omega)
          rw [e9] at ih9
          exact ih9
  refine g_iconst C 0 dX2_countOwnWrites_0 (by decide) ?_
  refine g_istore_n C dX2_countOwnWrites_1 (by decide) ?_
  refine g_iconst C 0 dX2_countOwnWrites_2 (by decide) ?_
  refine g_istore_n C dX2_countOwnWrites_3 (by decide) ?_
  exact loop _ 0 rfl (Nat.zero_le _)
set_option maxRecDepth 100000 in
set_option maxHeartbeats 1000000 in
theorem k_X2_sizeOfRingThrough (l : Launch) (D : va_G) (g : Nat → ClassId) (A : Nat → Prop) (xa : Nat → Nat) (I : VV) (O : OO) (L : List Nat) (K : Nat → Nat) {V : VV} (hT : RT V I O L K) (t : Nat) (ht : t < V 16 0) (hW : ∀ i, i < V 16 0 → V 8 i = 1 → 0 < V 11 i ∧ V 11 i ≤ V 16 0) (a : Nat) (ha : tx O t = a) : CC l yX2_sizeOfRingThrough wsX2_sizeOfRingThrough ({ frames := 0, cells := 0, slots := 0, locals := 0 } : Room) 0 0 D g A xa [.ref (xa 0), .ref a] I O L K (fun r I1 O1 L1 K1 => (I1 = I ∧ O1 = O ∧ L1 = L ∧ K1 = K) ∧ r = some (.int (nI (vLk V t 60 t 0)))) := by
  subst ha
  refine k_ofW [(0, .ref (xa 0)), (1, .ref (tx O t))] (by decide) rfl (Nat.le_of_ble_eq_true rfl) rfl (by simp [Value.category, vcat_rf]) ?_
  intro p e s m args below meth c C
  have i1 : ∀ w ∈ wsX10, w ∈ wsX2_sizeOfRingThrough := by decide +kernel
  have loop : ∀ (f a n : Nat), n + f = 60 → vLk V t f a n = vLk V t 60 t 0 → a < V 16 0 → GG p l e ({ frames := 0, cells := 0, slots := 0, locals := 0 } : Room) s m args below meth c (cQ below D g A xa args s 0 0 (fun r I1 O1 L1 K1 => (I1 = I ∧ O1 = O ∧ L1 = L ∧ K1 = K) ∧ r = some (.int (nI (vLk V t 60 t 0))))) 4 D A s.heap (cW g xa I O L K) (0) (0) 7 [(0, .ref (xa 0)), (1, .ref (tx O t)), (2, va_rf (O 7 (tx O a))), (3, .int (nI (n + 1)))] [] := by
    intro f
    induction f with
    | zero =>
      intro a n hn hv ha
      refine g_iload_n C dX2_sizeOfRingThrough_7 rfl ?_
      refine g_bipush C 60 dX2_sizeOfRingThrough_8 (by decide) ?_
      refine g_icmp_gt C 35 dX2_sizeOfRingThrough_10 (by decide) (by omega) (by decide) (fun c10 => ?_) (fun c10 => ?_)
      · refine g_iconst C 0 dX2_sizeOfRingThrough_35 (by decide) ?_
        exact g_iret C dX2_sizeOfRingThrough_36 rfl (⟨I, O, L, K, rfl, ⟨rfl, rfl, rfl, rfl⟩, by rw [← hv]; rfl⟩)
      · exact absurd c10 (by omega)
    | succ f ihf =>
      intro a n hn hv ha
      have h7 := (hT a ha).2.2.2.2.2.2.2.1
      have hv2 : vLk V t (f + 1) a n = if V 8 a = 1 then (if V 11 a - 1 = t then n + 1 else vLk V t f (V 11 a - 1) (n + 1)) else 0 := rfl
      refine g_iload_n C dX2_sizeOfRingThrough_7 rfl ?_
      refine g_bipush C 60 dX2_sizeOfRingThrough_8 (by decide) ?_
      refine g_icmp_gt C 35 dX2_sizeOfRingThrough_10 (by decide) (by omega) (by decide) (fun c10 => ?_) (fun c10 => ?_)
      · refine g_iconst C 0 dX2_sizeOfRingThrough_35 (by decide) ?_
        exact g_iret C dX2_sizeOfRingThrough_36 rfl (⟨I, O, L, K, rfl, ⟨rfl, rfl, rfl, rfl⟩, absurd c10 (by omega)⟩)
      · refine g_aload_nq C (O 7 (tx O a)) dX2_sizeOfRingThrough_13 rfl ?_
        refine g_ifnull C 35 dX2_sizeOfRingThrough_14 (by decide) (fun c14 => ?_) (fun a14 c14 => ?_)
        · refine g_iconst C 0 dX2_sizeOfRingThrough_35 (by decide) ?_
          exact g_iret C dX2_sizeOfRingThrough_36 rfl (⟨I, O, L, K, rfl, ⟨rfl, rfl, rfl, rfl⟩, by rw [← hv, hv2, if_neg (fun z => by rw [if_pos z] at h7; exact absurd (c14.symm.trans h7) (by simp))]⟩)
        · have c8 : V 8 a = 1 := by by_cases z : V 8 a = 1; exact z; rw [if_neg z] at h7; exact absurd (h7.symm.trans c14) (by simp)
          rw [if_pos c8] at h7
          have hw := hW a ha c8
          obtain ⟨-, tL, tK, -⟩ := hT (V 11 a - 1) (by omega)
          refine g_aload_nq C (O 7 (tx O a)) dX2_sizeOfRingThrough_17 rfl ?_
          first | refine g_aload_n C dX2_sizeOfRingThrough_18 rfl ?_ | refine g_aload_nq C _ dX2_sizeOfRingThrough_18 rfl ?_
          refine g_acmp_ne C _ (some (tx O t)) 24 dX2_sizeOfRingThrough_19 (by decide) (fun c19 => ?_) (fun c19 => ?_)
          · refine g_aload_nq C (O 7 (tx O a)) dX2_sizeOfRingThrough_24 rfl ?_
            rw [h7]
            refine tg_waitsFor C (by assumption) (by assumption) i1 (by decide +kernel) dX2_sizeOfRingThrough_25 ?_
            first | refine g_astore_n C dX2_sizeOfRingThrough_28 (by decide) ?_ | refine g_astore_nq C dX2_sizeOfRingThrough_28 (by decide) ?_
            refine g_iinc C dX2_sizeOfRingThrough_29 rfl (by decide) ?_
            refine g_goto C 7 dX2_sizeOfRingThrough_32 (by decide) ?_
            exact ihf (V 11 a - 1) (n + 1) (by omega) (by rw [← hv, hv2, if_pos c8, if_neg (fun z => c19 (by rw [h7, z]))]) (by omega)
          · refine g_iload_n C dX2_sizeOfRingThrough_22 rfl ?_
            exact g_iret C dX2_sizeOfRingThrough_23 rfl (⟨I, O, L, K, rfl, ⟨rfl, rfl, rfl, rfl⟩, by rw [← hv, hv2, if_pos c8, if_pos (hT.inj (by omega) ht (Option.some.inj (h7.symm.trans c19)))]⟩)
  obtain ⟨-, tL, tK, -⟩ := hT t ht
  first | refine g_aload_n C dX2_sizeOfRingThrough_0 rfl ?_ | refine g_aload_nq C _ dX2_sizeOfRingThrough_0 rfl ?_
  refine tg_waitsFor C (by assumption) (by assumption) i1 (by decide +kernel) dX2_sizeOfRingThrough_1 ?_
  first | refine g_astore_n C dX2_sizeOfRingThrough_4 (by decide) ?_ | refine g_astore_nq C dX2_sizeOfRingThrough_4 (by decide) ?_
  refine g_iconst C 1 dX2_sizeOfRingThrough_5 (by decide) ?_
  refine g_istore_n C dX2_sizeOfRingThrough_6 (by decide) ?_
  exact loop 60 t 0 rfl rfl ht
set_option maxRecDepth 100000 in
set_option maxHeartbeats 1000000 in
theorem k_X2_firstWaitingFor (l : Launch) (D : va_G) (g : Nat → ClassId) (A : Nat → Prop) (xa : Nat → Nat) (I : VV) (O : OO) (L : List Nat) (K : Nat → Nat) {N : Nat} (hB : BdN I N) (hN : N ≤ 2 ^ 30) {V : VV} (hS : RS V I) (hT : RT V I O L K) (t lp : Nat) (ht : t < V 16 0) (hlp : lp < 2 ^ 30) (hC : V 16 0 ≤ 60) (hW : ∀ i, i < V 16 0 → V 8 i = 1 → 0 < V 11 i ∧ V 11 i ≤ V 16 0) (a : Nat) (ha : tx O t = a) : CC l yX2_firstWaitingFor wsX2_firstWaitingFor ({ frames := 0, cells := 0, slots := 0, locals := 0 } : Room) 0 0 D g A xa [.ref (xa 0), .ref a, .int (nI lp)] I O L K (fun r I1 O1 L1 K1 => (I1 = I ∧ O1 = O ∧ L1 = L ∧ K1 = K) ∧ r = some (va_rf (if vNx V t lp (V 16 0) = 0 then none else some (tx O (vNx V t lp (V 16 0) - 1))))) := by
  subst ha
  refine k_ofW [(0, .ref (xa 0)), (1, .ref (tx O t)), (2, .int (nI lp))] (by decide) rfl (Nat.le_of_ble_eq_true rfl) rfl (by simp [Value.category, vcat_rf]) ?_
  intro p e s m args below meth c C
  have i1 : ∀ w ∈ wsX10, w ∈ wsX2_firstWaitingFor := by decide +kernel
  have i2 : ∀ w ∈ wsX20, w ∈ wsX2_firstWaitingFor := by decide +kernel
  have hbeg : I 0 0 = V 16 0 := hS.1
  have loop : ∀ (n i b : Nat), V 16 0 - i = n → i ≤ V 16 0 → vNx V t lp i = b → GG p l e ({ frames := 0, cells := 0, slots := 0, locals := 0 } : Room) s m args below meth c (cQ below D g A xa args s 0 0 (fun r I1 O1 L1 K1 => (I1 = I ∧ O1 = O ∧ L1 = L ∧ K1 = K) ∧ r = some (va_rf (if vNx V t lp (V 16 0) = 0 then none else some (tx O (vNx V t lp (V 16 0) - 1)))))) 6 D A s.heap (cW g xa I O L K) (0) (0) 5 [(0, .ref (xa 0)), (1, .ref (tx O t)), (2, .int (nI lp)), (3, va_rf (if b = 0 then none else some (tx O (b - 1)))), (4, .int (nI i))] [] := by
    intro n
    induction n using Nat.strongRecOn with
    | _ n ih =>
      intro i b hn hi hb
      have hnx : vNx V t lp (i + 1) = if V 8 i = 1 ∧ V 11 i = t + 1 ∧ lp ≤ V 14 i ∧ (vNx V t lp i = 0 ∨ V 14 i < V 14 (vNx V t lp i - 1)) then i + 1 else vNx V t lp i := rfl
      have hbs := vNx_spec V t lp i
      refine g_iload C dX2_firstWaitingFor_5 rfl ?_
      first | refine g_aload_n C dX2_firstWaitingFor_7 rfl ?_ | refine g_aload_nq C _ dX2_firstWaitingFor_7 rfl ?_
      refine cg_begun C i2 (by decide +kernel) dX2_firstWaitingFor_8 ?_
      rw [hbeg]
      refine g_icmp_ge C 66 dX2_firstWaitingFor_11 (by decide) (by omega) (by omega) (fun c11 => ?_) (fun c11 => ?_)
      · refine g_aload_nq C (if b = 0 then none else some (tx O (b - 1))) dX2_firstWaitingFor_66 rfl ?_
        exact g_aret C (r := _) dX2_firstWaitingFor_67 rfl (⟨I, O, L, K, rfl, ⟨rfl, rfl, rfl, rfl⟩, by rw [show V 16 0 = i by omega, hb]⟩)
      · obtain ⟨t2, tL, tK, -, -, -, h16, h7, hwt⟩ := hT i (by omega)
        first | refine g_aload_n C dX2_firstWaitingFor_14 rfl ?_ | refine g_aload_nq C _ dX2_firstWaitingFor_14 rfl ?_
        refine cg_transactions C i2 (by decide +kernel) dX2_firstWaitingFor_15 ?_
        refine g_iload C dX2_firstWaitingFor_18 rfl ?_
        refine cl_transactions C dX2_firstWaitingFor_20 (by omega) ?_
        rw [t2]
        first | refine g_astore C dX2_firstWaitingFor_21 (by decide) ?_ | refine g_astoreq C dX2_firstWaitingFor_21 (by decide) ?_
        first | refine g_aload C dX2_firstWaitingFor_23 rfl ?_ | refine g_aloadq C _ dX2_firstWaitingFor_23 rfl ?_
        refine tg_waitsFor C (by assumption) (by assumption) i1 (by decide +kernel) dX2_firstWaitingFor_25 ?_
        first | refine g_aload_n C dX2_firstWaitingFor_28 rfl ?_ | refine g_aload_nq C _ dX2_firstWaitingFor_28 rfl ?_
        refine g_acmp_ne C _ (some (tx O t)) 60 dX2_firstWaitingFor_29 (by decide) (fun c29 => ?_) (fun c29 => ?_)
        · refine g_iinc C dX2_firstWaitingFor_60 rfl (by decide) ?_
          refine g_goto C 5 dX2_firstWaitingFor_63 (by decide) ?_
          exact g_lv (lv' := [(0, .ref (xa 0)), (1, .ref (tx O t)), (2, .int (nI lp)), (3, _), (4, .int (nI (i + 1)))]) (fun q hq => List.mem_append_left [(5, _)] hq) (ih _ (by omega) (i + 1) b rfl (by omega) (by rw [hnx, if_neg (fun q => c29 (by rw [h7, if_pos q.1, q.2.1]; rfl))]; exact hb))
        · have w8 : V 8 i = 1 := by by_cases z : V 8 i = 1; exact z; rw [if_neg z] at h7; exact absurd (h7.symm.trans c29) (by simp)
          have w11 : V 11 i = t + 1 := by have hw := hW i (by omega) w8; rw [if_pos w8] at h7; have := hT.inj (by omega) ht (Option.some.inj (h7.symm.trans c29)); omega
          have w19 := (hwt w8).2.2
          first | refine g_aload C dX2_firstWaitingFor_32 rfl ?_ | refine g_aloadq C _ dX2_firstWaitingFor_32 rfl ?_
          refine tg_beganToWait C (by assumption) (by assumption) i1 (by decide +kernel) dX2_firstWaitingFor_34 ?_
          refine g_iload_n C dX2_firstWaitingFor_37 rfl ?_
          refine g_icmp_le C 60 dX2_firstWaitingFor_38 (by decide) (bd hB hN _ _) (by omega) (fun c38 => ?_) (fun c38 => ?_)
          · rw [w19] at c38
            refine g_iinc C dX2_firstWaitingFor_60 rfl (by decide) ?_
            refine g_goto C 5 dX2_firstWaitingFor_63 (by decide) ?_
            exact g_lv (lv' := [(0, .ref (xa 0)), (1, .ref (tx O t)), (2, .int (nI lp)), (3, _), (4, .int (nI (i + 1)))]) (fun q hq => List.mem_append_left [(5, _)] hq) (ih _ (by omega) (i + 1) b rfl (by omega) (by rw [hnx, if_neg (fun q => by have := q.2.2.1; omega)]; exact hb))
          · rw [w19] at c38
            refine g_aload_nq C (if b = 0 then none else some (tx O (b - 1))) dX2_firstWaitingFor_41 rfl ?_
            refine g_ifnull C 57 dX2_firstWaitingFor_42 (by decide) (fun c42 => ?_) (fun a42 c42 => ?_)
            · have c42b : b = 0 := by by_cases z : b = 0; exact z; rw [if_neg z] at c42; exact absurd c42 (by simp)
              first | refine g_aload C dX2_firstWaitingFor_57 rfl ?_ | refine g_aloadq C _ dX2_firstWaitingFor_57 rfl ?_
              first | refine g_astore_n C dX2_firstWaitingFor_59 (by decide) ?_ | refine g_astore_nq C dX2_firstWaitingFor_59 (by decide) ?_
              refine g_iinc C dX2_firstWaitingFor_60 rfl (by decide) ?_
              refine g_goto C 5 dX2_firstWaitingFor_63 (by decide) ?_
              have ih9 := ih _ (by omega) (i + 1) (i + 1) rfl (by omega) (by rw [hnx, if_pos ⟨w8, w11, by omega, Or.inl (by rw [hb]; exact c42b)⟩])
              rw [if_neg (show ¬ i + 1 = 0 by omega)] at ih9
              exact g_lv (lv' := [(0, .ref (xa 0)), (1, .ref (tx O t)), (2, .int (nI lp)), (3, _), (4, .int (nI (i + 1)))]) (fun q hq => List.mem_append_left [(5, _)] hq) ih9
            · have c42b : 0 < b := Nat.pos_of_ne_zero (fun z => by rw [if_pos z] at c42; exact absurd c42 (by simp))
              have hbs := hbs (by rw [hb]; exact c42b)
              rw [hb] at hbs
              obtain ⟨-, uL, uK, -, -, -, -, -, hwu⟩ := hT (b - 1) (by omega)
              have u19 := (hwu hbs.2.1).2.2
              first | refine g_aload C dX2_firstWaitingFor_45 rfl ?_ | refine g_aloadq C _ dX2_firstWaitingFor_45 rfl ?_
              refine tg_beganToWait C (by assumption) (by assumption) i1 (by decide +kernel) dX2_firstWaitingFor_47 ?_
              refine g_aload_nq C (if b = 0 then none else some (tx O (b - 1))) dX2_firstWaitingFor_50 rfl ?_
              rw [if_neg (show ¬ b = 0 by omega)]
              refine tg_beganToWait C (by assumption) (by assumption) i1 (by decide +kernel) dX2_firstWaitingFor_51 ?_
              refine g_icmp_ge C 60 dX2_firstWaitingFor_54 (by decide) (bd hB hN _ _) (bd hB hN _ _) (fun c54 => ?_) (fun c54 => ?_)
              · rw [w19, u19] at c54
                refine g_iinc C dX2_firstWaitingFor_60 rfl (by decide) ?_
                refine g_goto C 5 dX2_firstWaitingFor_63 (by decide) ?_
                have ih9 := ih _ (by omega) (i + 1) b rfl (by omega) (by rw [hnx, hb, if_neg (fun q => q.2.2.2.elim (fun z => by omega) (fun z => by omega))])
                rw [if_neg (show ¬ b = 0 by omega)] at ih9
                exact g_lv (lv' := [(0, .ref (xa 0)), (1, .ref (tx O t)), (2, .int (nI lp)), (3, _), (4, .int (nI (i + 1)))]) (fun q hq => List.mem_append_left [(5, _)] hq) ih9
              · rw [w19, u19] at c54
                first | refine g_aload C dX2_firstWaitingFor_57 rfl ?_ | refine g_aloadq C _ dX2_firstWaitingFor_57 rfl ?_
                first | refine g_astore_n C dX2_firstWaitingFor_59 (by decide) ?_ | refine g_astore_nq C dX2_firstWaitingFor_59 (by decide) ?_
                refine g_iinc C dX2_firstWaitingFor_60 rfl (by decide) ?_
                refine g_goto C 5 dX2_firstWaitingFor_63 (by decide) ?_
                have ih9 := ih _ (by omega) (i + 1) (i + 1) rfl (by omega) (by rw [hnx, if_pos ⟨w8, w11, by omega, Or.inr (by rw [hb]; omega)⟩])
                rw [if_neg (show ¬ i + 1 = 0 by omega)] at ih9
                exact g_lv (lv' := [(0, .ref (xa 0)), (1, .ref (tx O t)), (2, .int (nI lp)), (3, _), (4, .int (nI (i + 1)))]) (fun q hq => List.mem_append_left [(5, _)] hq) ih9
  refine g_null C dX2_firstWaitingFor_0 ?_
  first | refine g_astore_n C dX2_firstWaitingFor_1 (by decide) ?_ | refine g_astore_nq C dX2_firstWaitingFor_1 (by decide) ?_
  refine g_iconst C 0 dX2_firstWaitingFor_2 (by decide) ?_
  refine g_istore C dX2_firstWaitingFor_3 (by decide) ?_
  exact loop _ 0 0 rfl (Nat.zero_le _) rfl
