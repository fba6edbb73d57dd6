set_option maxRecDepth 100000 in
set_option maxHeartbeats 1000000 in
theorem k_X2_addRingMember (l : Launch) (D : va_G) (g : Nat → ClassId) (A : Nat → Prop) (xa : Nat → Nat) (I : VV) (O : OO) (L : List Nat) (K : Nat → Nat) {N : Nat} (hB : BdN I N) (hN : N ≤ 2 ^ 30) (x : Nat) (hx : x < 2 ^ 30) (h3 : I 3 0 < 60) : CC l yX2_addRingMember wsX2_addRingMember ({ frames := 0, cells := 0, slots := 0, locals := 0 } : Room) 0 0 D g A xa [.ref (xa 0), .int (nI x)] I O L K (fun r I1 O1 L1 K1 => (O1 = O ∧ L1 = L ∧ K1 = K) ∧ I1 = u2 (cIns x (I 3 0) I) 3 0 (I 3 0 + 1) ∧ r = none) := by
  refine k_ofW [(0, .ref (xa 0)), (1, .int (nI x))] (by decide) rfl (Nat.le_of_ble_eq_true rfl) rfl (by simp [Value.category, vcat_rf]) ?_
  intro p e s m args below meth c C
  have i2 : ∀ w ∈ wsX20, w ∈ wsX2_addRingMember := by decide +kernel
  have loop : ∀ (to : Nat) (J : VV), cIns x to J = cIns x (I 3 0) I → to ≤ I 3 0 → BdN J N → J 3 0 = I 3 0 → GG p l e ({ frames := 0, cells := 0, slots := 0, locals := 0 } : Room) s m args below meth c (cQ below D g A xa args s 0 0 (fun r I1 O1 L1 K1 => (O1 = O ∧ L1 = L ∧ K1 = K) ∧ I1 = u2 (cIns x (I 3 0) I) 3 0 (I 3 0 + 1) ∧ r = none)) 3 D A s.heap (cW g xa J O L K) (0) (0) 5 [(0, .ref (xa 0)), (1, .int (nI x)), (2, .int (nI to))] [] := by
    intro to
    induction to with
    | zero =>
      intro J hJ hto hBJ h30
      refine g_iload_n C dX2_addRingMember_5 rfl ?_
      refine g_if_le C 41 dX2_addRingMember_6 (by decide) (by decide) (fun c6 => ?_) (fun c6 => ?_)
      · first | refine g_aload_n C dX2_addRingMember_41 rfl ?_ | refine g_aload_nq C _ dX2_addRingMember_41 rfl ?_
        refine cg_ringMembers C i2 (by decide +kernel) dX2_addRingMember_42 ?_
        refine g_iload_n C dX2_addRingMember_45 rfl ?_
        refine g_iload_n C dX2_addRingMember_46 rfl ?_
        refine cs_ringMembers C dX2_addRingMember_47 (by omega) ?_
        first | refine g_aload_n C dX2_addRingMember_48 rfl ?_ | refine g_aload_nq C _ dX2_addRingMember_48 rfl ?_
        refine g_dup C dX2_addRingMember_49 (by first | rfl | exact vcat_rf _) ?_
        refine cg_ringSize C i2 (by decide +kernel) dX2_addRingMember_50 ?_
        refine g_iconst C 1 dX2_addRingMember_53 (by decide) ?_
        first | refine g_iadd C dX2_addRingMember_54 ?_ | refine g_iaddx C dX2_addRingMember_54 ?_
        refine cp_ringSize C i2 (by decide +kernel) dX2_addRingMember_55 ?_
        exact g_vret C dX2_addRingMember_58 rfl (⟨_, O, L, K, rfl, ⟨rfl, rfl, rfl⟩, by rw [← hJ, show u2 J 9 0 x 3 0 = I 3 0 from h30]; rfl, rfl⟩)
      · exact absurd c6 (by decide)
    | succ to iht =>
      intro J hJ hto hBJ h30
      refine g_iload_n C dX2_addRingMember_5 rfl ?_
      refine g_if_le C 41 dX2_addRingMember_6 (by decide) (by omega) (fun c6 => ?_) (fun c6 => ?_)
      · exact absurd c6 (by omega)
      · first | refine g_aload_n C dX2_addRingMember_9 rfl ?_ | refine g_aload_nq C _ dX2_addRingMember_9 rfl ?_
        refine cg_ringMembers C i2 (by decide +kernel) dX2_addRingMember_10 ?_
        refine g_iload_n C dX2_addRingMember_13 rfl ?_
        refine g_iconst C 1 dX2_addRingMember_14 (by decide) ?_
        first | refine g_isub C dX2_addRingMember_15 (by omega) ?_ | refine g_isubx C dX2_addRingMember_15 ?_
        refine cl_ringMembers C dX2_addRingMember_16 (by omega) ?_
        refine g_iload_n C dX2_addRingMember_17 rfl ?_
        refine g_icmp_le C 41 dX2_addRingMember_18 (by decide) (bd hBJ hN _ _) (by omega) (fun c18 => ?_) (fun c18 => ?_)
        · first | refine g_aload_n C dX2_addRingMember_41 rfl ?_ | refine g_aload_nq C _ dX2_addRingMember_41 rfl ?_
          refine cg_ringMembers C i2 (by decide +kernel) dX2_addRingMember_42 ?_
          refine g_iload_n C dX2_addRingMember_45 rfl ?_
          refine g_iload_n C dX2_addRingMember_46 rfl ?_
          refine cs_ringMembers C dX2_addRingMember_47 (by omega) ?_
          first | refine g_aload_n C dX2_addRingMember_48 rfl ?_ | refine g_aload_nq C _ dX2_addRingMember_48 rfl ?_
          refine g_dup C dX2_addRingMember_49 (by first | rfl | exact vcat_rf _) ?_
          refine cg_ringSize C i2 (by decide +kernel) dX2_addRingMember_50 ?_
          refine g_iconst C 1 dX2_addRingMember_53 (by decide) ?_
          first | refine g_iadd C dX2_addRingMember_54 ?_ | refine g_iaddx C dX2_addRingMember_54 ?_
          refine cp_ringSize C i2 (by decide +kernel) dX2_addRingMember_55 ?_
          exact g_vret C dX2_addRingMember_58 rfl (⟨_, O, L, K, rfl, ⟨rfl, rfl, rfl⟩, by rw [← hJ, show u2 J 9 (to + 1) x 3 0 = I 3 0 from h30]; show _ = u2 (if x < J 9 to then cIns x to (u2 J 9 (to + 1) (J 9 to)) else u2 J 9 (to + 1) x) 3 0 _; rw [if_neg (show ¬ x < J 9 to from Nat.not_lt.mpr c18)], rfl⟩)
        · first | refine g_aload_n C dX2_addRingMember_21 rfl ?_ | refine g_aload_nq C _ dX2_addRingMember_21 rfl ?_
          refine cg_ringMembers C i2 (by decide +kernel) dX2_addRingMember_22 ?_
          refine g_iload_n C dX2_addRingMember_25 rfl ?_
          first | refine g_aload_n C dX2_addRingMember_26 rfl ?_ | refine g_aload_nq C _ dX2_addRingMember_26 rfl ?_
          refine cg_ringMembers C i2 (by decide +kernel) dX2_addRingMember_27 ?_
          refine g_iload_n C dX2_addRingMember_30 rfl ?_
          refine g_iconst C 1 dX2_addRingMember_31 (by decide) ?_
          first | refine g_isub C dX2_addRingMember_32 (by omega) ?_ | refine g_isubx C dX2_addRingMember_32 ?_
          refine cl_ringMembers C dX2_addRingMember_33 (by omega) ?_
          refine cs_ringMembers C dX2_addRingMember_34 (by omega) ?_
          refine g_idec C dX2_addRingMember_35 rfl (by decide) ?_
          refine g_goto C 5 dX2_addRingMember_38 (by decide) ?_
          exact iht (u2 J 9 (to + 1) (J 9 to)) (by rw [← hJ]; show _ = (if x < J 9 to then cIns x to (u2 J 9 (to + 1) (J 9 to)) else u2 J 9 (to + 1) x); rw [if_pos (show x < J 9 to from c18)]) (by omega) (hBJ.up (hBJ 9 to)) h30
  first | refine g_aload_n C dX2_addRingMember_0 rfl ?_ | refine g_aload_nq C _ dX2_addRingMember_0 rfl ?_
  refine cg_ringSize C i2 (by decide +kernel) dX2_addRingMember_1 ?_
  refine g_istore_n C dX2_addRingMember_4 (by decide) ?_
  exact loop (I 3 0) I rfl (Nat.le_refl _) hB rfl
set_option maxRecDepth 100000 in
set_option maxHeartbeats 1000000 in
theorem k_X2_keepRing (l : Launch) (D : va_G) (g : Nat → ClassId) (A : Nat → Prop) (xa : Nat → Nat) (I : VV) (O : OO) (L : List Nat) (K : Nat → Nat) {N : Nat} (hB : BdN I N) (hN : N ≤ 2 ^ 30) {V : VV} (hN2 : 20000 ≤ N) (hT : RT V I O L K) (t n : Nat) (hn : n ≤ 60) (hC : V 16 0 ≤ 60) (hp : ∀ i, i < n → pth V t i < V 16 0 ∧ V 8 (pth V t i) = 1) (h0 : 0 < n) (a : Nat) (ha : tx O t = a) : CC l yX2_keepRing wsX2_keepRing ({ frames := 1, cells := 0, slots := 0, locals := 22 } : Room) 0 0 D g A xa [.ref (xa 0), .ref a, .int (nI n)] I O L K (fun r I1 O1 L1 K1 => (O1 = O ∧ L1 = L ∧ K1 = K) ∧ I1 = cTk V n (u2 I 3 0 0) t ∧ r = none) := by
  subst ha
  refine k_ofW [(0, .ref (xa 0)), (1, .ref (tx O t)), (2, .int (nI n))] (by decide) rfl (Nat.le_of_ble_eq_true rfl) rfl (by simp [Value.category, vcat_rf]) ?_
  intro p e s m args below meth c C
  have i1 : ∀ w ∈ wsX10, w ∈ wsX2_keepRing := by decide +kernel
  have i2 : ∀ w ∈ wsX20, w ∈ wsX2_keepRing := by decide +kernel
  have loop : ∀ (rem : Nat) (J : VV) (a k : Nat) (o : Option Nat), k + rem = n → cTk V rem J a = cTk V n (u2 I 3 0 0) t → J 3 0 = k → (0 < rem → o = some (tx O a)) → (∀ i, i < rem → pth V a i < V 16 0 ∧ V 8 (pth V a i) = 1) → BdN J N → (∀ b, b ≠ 9 → b ≠ 3 → J b = I b) → GG p l e ({ frames := 1, cells := 0, slots := 0, locals := 22 } : Room) s m args below meth c (cQ below D g A xa args s 0 0 (fun r I1 O1 L1 K1 => (O1 = O ∧ L1 = L ∧ K1 = K) ∧ I1 = cTk V n (u2 I 3 0 0) t ∧ r = none)) 5 D A s.heap (cW g xa J O L K) (0) (0) 10 [(0, .ref (xa 0)), (1, .ref (tx O t)), (2, .int (nI n)), (3, va_rf o), (4, .int (nI k))] [] := by
    intro rem
    induction rem with
    | zero =>
      intro J a k o hk hJ h3 ho hpp hBJ hJk
      refine g_iload C dX2_keepRing_10 rfl ?_
      refine g_iload_n C dX2_keepRing_12 rfl ?_
      refine g_icmp_ge C 39 dX2_keepRing_13 (by decide) (by omega) (by omega) (fun c13 => ?_) (fun c13 => ?_)
      · exact g_vret C dX2_keepRing_39 rfl (⟨_, O, L, K, rfl, ⟨rfl, rfl, rfl⟩, hJ, rfl⟩)
      · exact absurd c13 (by omega)
    | succ rem ihr =>
      intro J a k o hk hJ h3 ho hpp hBJ hJk
      have ho := ho (by omega)
      subst ho
      have hpa := hpp 0 (by omega)
      have ha1 : a < V 16 0 := hpa.1
      have ha2 : V 8 a = 1 := hpa.2
      obtain ⟨-, tL, tK, h12, -, -, -, h7, -⟩ := hT a ha1
      rw [if_pos ha2] at h7
      have hJ12 : J 12 (tx O a) = a := by rw [hJk 12 (by decide) (by decide)]; exact h12
      refine g_iload C dX2_keepRing_10 rfl ?_
      refine g_iload_n C dX2_keepRing_12 rfl ?_
      refine g_icmp_ge C 39 dX2_keepRing_13 (by decide) (by omega) (by omega) (fun c13 => ?_) (fun c13 => ?_)
      · exact absurd c13 (by omega)
      · refine g_aload_nq C (some (tx O a)) dX2_keepRing_16 rfl ?_
        refine g_ifnull C 39 dX2_keepRing_17 (by decide) (fun c17 => ?_) (fun a17 c17 => ?_)
        · exact absurd c17 (by simp)
        · first | refine g_aload_n C dX2_keepRing_20 rfl ?_ | refine g_aload_nq C _ dX2_keepRing_20 rfl ?_
          refine g_aload_nq C (some (tx O a)) dX2_keepRing_21 rfl ?_
          refine tg_number C (by assumption) (by assumption) i1 (by decide +kernel) dX2_keepRing_22 ?_
          rw [hJ12]
          refine g_callC C (k_X2_addRingMember l D g A xa _ _ _ _ hBJ hN a (by omega) (by omega)) gX2_keepRing_X2_addRingMember dX2_keepRing_25 (n := 1) rfl rfl rfl (by decide +kernel) ⟨Nat.le_of_ble_eq_true rfl, Nat.le_of_ble_eq_true rfl⟩ rfl rfl (Nat.le_of_ble_eq_true rfl) ⟨by omega, by omega⟩ (fun r I1 O1 L1 K1 hq => ?_)
          obtain ⟨⟨e1, e2, e3⟩, e4, rfl⟩ := hq
          rw [e1, e2, e3, e4]
          refine g_aload_nq C (some (tx O a)) dX2_keepRing_28 rfl ?_
          refine tg_waitsFor C (by assumption) (by assumption) i1 (by decide +kernel) dX2_keepRing_29 ?_
          first | refine g_astore_n C dX2_keepRing_32 (by decide) ?_ | refine g_astore_nq C dX2_keepRing_32 (by decide) ?_
          refine g_iinc C dX2_keepRing_33 rfl (by decide) ?_
          refine g_goto C 10 dX2_keepRing_36 (by decide) ?_
          exact ihr _ (V 11 a - 1) (k + 1) _ (by omega) hJ (by rw [u2_same, h3]) (fun _ => h7) (fun i hi => hpp (i + 1) (by omega)) ((hBJ.cins (x := a) (by omega) (k := J 3 0)).up (by omega)) (fun b h1 h2 => by rw [← hJk b h1 h2]; show (if b = 3 then _ else _) = _; rw [if_neg h2]; exact cIns_k _ _ _ _ h1)
  first | refine g_aload_n C dX2_keepRing_0 rfl ?_ | refine g_aload_nq C _ dX2_keepRing_0 rfl ?_
  refine g_iconst C 0 dX2_keepRing_1 (by decide) ?_
  refine cp_ringSize C i2 (by decide +kernel) dX2_keepRing_2 ?_
  first | refine g_aload_n C dX2_keepRing_5 rfl ?_ | refine g_aload_nq C _ dX2_keepRing_5 rfl ?_
  first | refine g_astore_n C dX2_keepRing_6 (by decide) ?_ | refine g_astore_nq C dX2_keepRing_6 (by decide) ?_
  refine g_iconst C 0 dX2_keepRing_7 (by decide) ?_
  refine g_istore C dX2_keepRing_8 (by decide) ?_
  exact loop n _ t 0 (some (tx O t)) (by omega) rfl (u2_same _ _ _ _) (fun _ => rfl) hp (hB.up (by omega)) (fun b h1 h2 => by show (if b = 3 then _ else _) = _; rw [if_neg h2])
set_option maxRecDepth 100000 in
set_option maxHeartbeats 1000000 in
theorem k_X2_addToQueue (l : Launch) (D : va_G) (g : Nat → ClassId) (A : Nat → Prop) (xa : Nat → Nat) (I : VV) (O : OO) (L : List Nat) (K : Nat → Nat) {V : VV} (hT : RT V I O L K) (hQ : RQ V O) (w : Nat) (hw : w < V 16 0) (hft : V 19 0 ≤ V 20 0) (hq9 : ∀ j, V 19 0 ≤ j → j < V 20 0 → V 18 j < V 16 0 ∧ V 18 j ≠ w) (a : Nat) (ha : tx O w = a) : CC l yX2_addToQueue wsX2_addToQueue ({ frames := 0, cells := 0, slots := 0, locals := 0 } : Room) 0 0 D g A xa [.ref (xa 0), .ref a] I O L K (fun r I1 O1 L1 K1 => (I1 = I ∧ L1 = L ∧ K1 = K) ∧ (∀ b, b ≠ 0 → b ≠ 1 → b ≠ 8 → O1 b = O b) ∧ RQ (vPush V w) O1 ∧ r = none) := by
  subst ha
  refine k_ofW [(0, .ref (xa 0)), (1, .ref (tx O w))] (by decide) rfl (Nat.le_of_ble_eq_true rfl) rfl (by simp [Value.category, vcat_rf]) ?_
  intro p e s m args below meth c C
  have i1 : ∀ w ∈ wsX10, w ∈ wsX2_addToQueue := by decide +kernel
  have i2 : ∀ w ∈ wsX20, w ∈ wsX2_addToQueue := by decide +kernel
  obtain ⟨-, tL, tK, -⟩ := hT w hw
  first | refine g_aload_n C dX2_addToQueue_0 rfl ?_ | refine g_aload_nq C _ dX2_addToQueue_0 rfl ?_
  refine g_null C dX2_addToQueue_1 ?_
  first | refine tp_nextInQueue (r := some _) C (by assumption) (by assumption) i1 (by decide +kernel) dX2_addToQueue_2 ?_ | refine tp_nextInQueue C (by assumption) (by assumption) i1 (by decide +kernel) dX2_addToQueue_2 ?_
  first | refine g_aload_n C dX2_addToQueue_5 rfl ?_ | refine g_aload_nq C _ dX2_addToQueue_5 rfl ?_
  refine cg_lastInQueue C i2 (by decide +kernel) dX2_addToQueue_6 ?_
  refine g_ifnonnull C 20 dX2_addToQueue_9 (by decide) (fun a9 c9 => ?_) (fun c9 => ?_)
  · have hlt : V 19 0 < V 20 0 := by rcases (show V 19 0 = V 20 0 ∨ V 19 0 < V 20 0 by omega) with z | z; exact absurd ((hQ.1 z).2.symm.trans c9) (by simp); exact z
    have hla := (hQ.2 hlt).2.1
    have hlq := hq9 (V 20 0 - 1) (by omega) (by omega)
    obtain ⟨-, uL, uK, -⟩ := hT _ hlq.1
    have hne : tx O (V 18 (V 20 0 - 1)) ≠ tx O w := fun z => hlq.2 (hT.inj hlq.1 hw z)
    first | refine g_aload_n C dX2_addToQueue_20 rfl ?_ | refine g_aload_nq C _ dX2_addToQueue_20 rfl ?_
    refine cg_lastInQueue C i2 (by decide +kernel) dX2_addToQueue_21 ?_
    rw [show u2 O 8 (tx O w) none 1 0 = some (tx O (V 18 (V 20 0 - 1))) from hla]
    first | refine g_aload_n C dX2_addToQueue_24 rfl ?_ | refine g_aload_nq C _ dX2_addToQueue_24 rfl ?_
    first | refine tp_nextInQueue (r := some _) C (by assumption) (by assumption) i1 (by decide +kernel) dX2_addToQueue_25 ?_ | refine tp_nextInQueue C (by assumption) (by assumption) i1 (by decide +kernel) dX2_addToQueue_25 ?_
    first | refine g_aload_n C dX2_addToQueue_28 rfl ?_ | refine g_aload_nq C _ dX2_addToQueue_28 rfl ?_
    first | refine g_aload_n C dX2_addToQueue_29 rfl ?_ | refine g_aload_nq C _ dX2_addToQueue_29 rfl ?_
    first | refine cp_lastInQueue (r := some _) C i2 (by decide +kernel) dX2_addToQueue_30 ?_ | refine cp_lastInQueue C i2 (by decide +kernel) dX2_addToQueue_30 ?_
    exact g_vret C dX2_addToQueue_33 rfl (⟨I, _, L, K, rfl, ⟨rfl, rfl, rfl⟩, fun b h0 h1 h8 => by simp only [u2, if_neg h0, if_neg h1, if_neg h8], RQ.push hQ hT hw hft hq9 rfl (by rw [if_neg (show ¬ V 19 0 = V 20 0 by omega)]; rfl) (u2_same _ _ _ _) (by show u2 (u2 O 8 (tx O w) none) 8 (tx O (V 18 (V 20 0 - 1))) (some (tx O w)) 8 (tx O w) = none; rw [u2_ni _ _ _ _ (Ne.symm hne), u2_same]) (fun _ => by show u2 (u2 O 8 (tx O w) none) 8 (tx O (V 18 (V 20 0 - 1))) (some (tx O w)) 8 _ = _; rw [u2_same]) (fun a h1 h2 => by show u2 (u2 O 8 (tx O w) none) 8 (tx O (V 18 (V 20 0 - 1))) (some (tx O w)) 8 a = _; rw [u2_ni _ _ _ _ (h2 hlt), u2_ni _ _ _ _ h1]), rfl⟩)
  · first | refine g_aload_n C dX2_addToQueue_12 rfl ?_ | refine g_aload_nq C _ dX2_addToQueue_12 rfl ?_
    first | refine g_aload_n C dX2_addToQueue_13 rfl ?_ | refine g_aload_nq C _ dX2_addToQueue_13 rfl ?_
    have hem : V 19 0 = V 20 0 := by rcases (show V 19 0 = V 20 0 ∨ V 19 0 < V 20 0 by omega) with z | z; exact z; exact absurd ((hQ.2 z).2.1.symm.trans c9) (by simp)
    first | refine cp_firstInQueue (r := some _) C i2 (by decide +kernel) dX2_addToQueue_14 ?_ | refine cp_firstInQueue C i2 (by decide +kernel) dX2_addToQueue_14 ?_
    refine g_goto C 28 dX2_addToQueue_17 (by decide) ?_
    first | refine g_aload_n C dX2_addToQueue_28 rfl ?_ | refine g_aload_nq C _ dX2_addToQueue_28 rfl ?_
    first | refine g_aload_n C dX2_addToQueue_29 rfl ?_ | refine g_aload_nq C _ dX2_addToQueue_29 rfl ?_
    first | refine cp_lastInQueue (r := some _) C i2 (by decide +kernel) dX2_addToQueue_30 ?_ | refine cp_lastInQueue C i2 (by decide +kernel) dX2_addToQueue_30 ?_
    exact g_vret C dX2_addToQueue_33 rfl (⟨I, _, L, K, rfl, ⟨rfl, rfl, rfl⟩, fun b h0 h1 h8 => by simp only [u2, if_neg h0, if_neg h1, if_neg h8], RQ.push hQ hT hw hft hq9 rfl (by rw [if_pos hem]; rfl) (u2_same _ _ _ _) (by show u2 O 8 (tx O w) none 8 (tx O w) = none; rw [u2_same]) (fun z => by omega) (fun a h1 h2 => by show u2 O 8 (tx O w) none 8 a = _; rw [u2_ni _ _ _ _ h1]), rfl⟩)
