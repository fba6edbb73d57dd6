set_option maxRecDepth 100000 in
set_option maxHeartbeats 1000000 in
theorem k_X2_tryWrite (l : Launch) (D : va_G) (g : Nat → ClassId) (A : Nat → Prop) (xa : Nat → Nat) (I : VV) (O : OO) (L : List Nat) (K : Nat → Nat) {N : Nat} (hB : BdN I N) (hN : N ≤ 2 ^ 30) {V : VV} {own : Nat → Nat} (hN2 : 20000 ≤ N) (hN3 : N + 1 ≤ 2 ^ 30) (hI : Iv V) (hJ : Jq V) (t k b : Nat) (ht : t < V 16 0) (hl : V 8 t < 3) (hk : k < 200) (hb : b ≤ 1) (hqt : ∀ j, V 19 0 ≤ j → j < V 20 0 → V 18 j ≠ t) (hR : RC V I O L K own) (hRw : Rw V) (a : Nat) (ha : tx O t = a) : CC l yX2_tryWrite wsX2_tryWrite ({ frames := 4, cells := 0, slots := 0, locals := 95 } : Room) 0 0 D g A xa [.ref (xa 0), .ref a, .int (nI k), .int (nI b)] I O L K (fun r I1 O1 L1 K1 => (L1 = L ∧ K1 = K ∧ I1 1 = I 1 ∧ O1 2 = O 2) ∧ BdN I1 (N + 1) ∧ RC (vWr V t k b) I1 O1 L K own ∧ r = none) := by
  subst ha
  refine k_ofW [(0, .ref (xa 0)), (1, .ref (tx O t)), (2, .int (nI k)), (3, .int (nI b))] (by decide) rfl (Nat.le_of_ble_eq_true rfl) rfl (by simp [Value.category, vcat_rf]) ?_
  intro p e s m args below meth c C
  have i0 : ∀ w ∈ wsX00, w ∈ wsX2_tryWrite := by decide +kernel
  have i1 : ∀ w ∈ wsX10, w ∈ wsX2_tryWrite := by decide +kernel
  have i2 : ∀ w ∈ wsX20, w ∈ wsX2_tryWrite := by decide +kernel
  obtain ⟨hS, hT, hM, hH, hNw, hQ⟩ := hR
  obtain ⟨-, tL, tK, -, -, h14, -, -, -⟩ := hT t ht
  have hC := hI.1
  have h7 : V 7 t < N := by rw [← h14]; exact hB 14 (tx O t)
  obtain ⟨W, hWd⟩ : ∃ W, W = (u2 (u2 V 11 t 0) 8 t 0) := ⟨_, rfl⟩
  obtain ⟨J, hJd⟩ : ∃ J, J = u2 I 16 (tx O t) 0 := ⟨_, rfl⟩
  obtain ⟨P, hPd⟩ : ∃ P, P = u2 O 7 (tx O t) none := ⟨_, rfl⟩
  have hBJ : BdN J N := by rw [hJd]; exact hB.up (by omega)
  have eP : ∀ x9, x9 ≠ 7 → P x9 = O x9 := fun x9 h9 => by rw [hPd]; show (if x9 = 7 then _ else _) = _; rw [if_neg h9]
  have etP : ∀ z, tx P z = tx O z := tx_cong (eP 2 (by decide))
  have eW : ∀ x9, x9 ≠ 8 → x9 ≠ 11 → W x9 = V x9 := fun x9 h1 h2 => by rw [hWd]; simp only [u2, if_neg h1, if_neg h2]
  have eJ : ∀ x9, x9 ≠ 16 → J x9 = I x9 := fun x9 h1 => by rw [hJd]; simp only [u2, if_neg h1]
  have hTW : RT W J P L K := by rw [hWd, hJd, hPd]; exact (hT.setS (z := 0) ht (by decide)).set11
  have hSW : RS W J := hS.cong ⟨eW 16 (by decide) (by decide), eW 4 (by decide) (by decide), eW 22 (by decide) (by decide), eW 15 (by decide) (by decide), eW 5 (by decide) (by decide), eW 23 (by decide) (by decide), eW 24 (by decide) (by decide), eW 21 (by decide) (by decide)⟩ ⟨eJ 0 (by decide), eJ 2 (by decide), eJ 3 (by decide), eJ 4 (by decide), eJ 5 (by decide), eJ 7 (by decide), eJ 8 (by decide), eJ 9 (by decide)⟩
  have hMW : RM W J P L K := hM.cong ⟨eW 16 (by decide) (by decide), eW 9 (by decide) (by decide)⟩ ⟨eJ 15 (by decide), fun g9 => eJ (20 + g9) (by omega)⟩ ⟨eP 2 (by decide), eP 6 (by decide)⟩
  have hHW : RH W J P := hH.cong ⟨eW 17 (by decide) (by decide), eW 10 (by decide) (by decide)⟩ (eJ 6 (by decide)) ⟨eP 2 (by decide), eP 4 (by decide)⟩
  have hNW : RN W J P L K own := hNw.cong ⟨eW 0 (by decide) (by decide), eW 1 (by decide) (by decide), eW 2 (by decide) (by decide), eW 3 (by decide) (by decide)⟩ ⟨eJ 10 (by decide), eJ 11 (by decide)⟩ ⟨eP 3 (by decide), eP 5 (by decide)⟩
  have hQW : RQ W P := hQ.cong ⟨eW 18 (by decide) (by decide), eW 19 (by decide) (by decide), eW 20 (by decide) (by decide)⟩ ⟨eP 0 (by decide), eP 1 (by decide), eP 2 (by decide), eP 8 (by decide)⟩
  have hchg : hdL (chV W k (W 3 0)) (V 7 t) ↔ vAb V k (V 7 t) (V 3 0) = true := by rw [chV_cong (eW 0 (by decide) (by decide)) (eW 1 (by decide) (by decide)) (eW 2 (by decide) (by decide)), eW 3 (by decide) (by decide)]; exact hdL_iff hRw.2 _ (Nat.le_refl _)
  have h17 := hI.2.2.1 k hk
  have hP4 : P 4 k = (if V 17 k = 0 then none else some (tx O (V 17 k - 1))) := by rw [eP 4 (by decide)]; exact (hH k hk).1
  first | refine g_aload_n C dX2_tryWrite_0 rfl ?_ | refine g_aload_nq C _ dX2_tryWrite_0 rfl ?_
  refine g_iconst C 0 dX2_tryWrite_1 (by decide) ?_
  refine tp_state C (by assumption) (by assumption) i1 (by decide +kernel) dX2_tryWrite_2 ?_
  first | refine g_aload_n C dX2_tryWrite_5 rfl ?_ | refine g_aload_nq C _ dX2_tryWrite_5 rfl ?_
  refine g_null C dX2_tryWrite_6 ?_
  first | refine tp_waitsFor (r := some _) C (by assumption) (by assumption) i1 (by decide +kernel) dX2_tryWrite_7 ?_ | refine tp_waitsFor C (by assumption) (by assumption) i1 (by decide +kernel) dX2_tryWrite_7 ?_
  rw [← hJd, ← hPd]
  first | refine g_aload_n C dX2_tryWrite_10 rfl ?_ | refine g_aload_nq C _ dX2_tryWrite_10 rfl ?_
  refine g_iload_n C dX2_tryWrite_11 rfl ?_
  first | refine g_aload_n C dX2_tryWrite_12 rfl ?_ | refine g_aload_nq C _ dX2_tryWrite_12 rfl ?_
  refine tg_sees C (by assumption) (by assumption) i1 (by decide +kernel) dX2_tryWrite_13 ?_
  rw [show J 14 (tx O t) = V 7 t by rw [eJ 14 (by decide)]; exact h14]
  refine g_callC C (k_X2_isChangedSince l D g A xa _ _ _ _ hBJ hN k (V 7 t) hk (by omega) (hNW k hk)) gX2_tryWrite_X2_isChangedSince dX2_tryWrite_16 (n := 2) rfl rfl rfl (by decide +kernel) ⟨Nat.le_of_ble_eq_true rfl, Nat.le_of_ble_eq_true rfl⟩ rfl rfl (Nat.le_of_ble_eq_true rfl) ⟨by omega, by omega⟩ (fun r I1 O1 L1 K1 hq => ?_)
  obtain ⟨⟨e1, e2, e3, e4⟩, hq⟩ := hq
  rw [e1, e2, e3, e4]
  rw [hchg] at hq
  rcases hq with ⟨h16, rfl⟩ | ⟨h16, rfl⟩
  · refine g_if_eq C 40 dX2_tryWrite_19 (by decide) (by decide) (fun c19 => absurd c19 (by decide)) (fun c19 => ?_)
    first | refine g_aload_n C dX2_tryWrite_22 rfl ?_ | refine g_aload_nq C _ dX2_tryWrite_22 rfl ?_
    refine g_iconst C 2 dX2_tryWrite_23 (by decide) ?_
    refine tp_state C (by assumption) (by assumption) i1 (by decide +kernel) dX2_tryWrite_24 ?_
    first | refine g_aload_n C dX2_tryWrite_27 rfl ?_ | refine g_aload_nq C _ dX2_tryWrite_27 rfl ?_
    refine cg_failedByTriple C i2 (by decide +kernel) dX2_tryWrite_28 ?_
    refine g_iload_n C dX2_tryWrite_31 rfl ?_
    refine g_dup2 C dX2_tryWrite_32 (by first | rfl | exact vcat_rf _) (by first | rfl | exact vcat_rf _) ?_
    refine cl_failedByTriple C dX2_tryWrite_33 (by omega) ?_
    refine g_iconst C 1 dX2_tryWrite_34 (by decide) ?_
    first | refine g_iadd C dX2_tryWrite_35 ?_ | refine g_iaddx C dX2_tryWrite_35 ?_
    refine cs_failedByTriple C dX2_tryWrite_36 (by omega) ?_
    refine g_goto C 83 dX2_tryWrite_37 (by decide) ?_
    exact g_vret C dX2_tryWrite_83 rfl (⟨_, P, L, K, rfl, ⟨rfl, rfl, by show J 1 = I 1; exact eJ 1 (by decide), eP 2 (by decide)⟩, ((hBJ.mono (Nat.le_succ N)).up (by omega)).up (Nat.succ_lt_succ (hBJ 7 k)), by
      unfold vWr
      rw [if_pos h16, ← hWd]
      have hT2 := hTW.setS (t := t) (z := 2) (by rw [eW 16 (by decide) (by decide)]; exact ht) (by decide)
      rw [etP, u2_idem P 7 (tx O t) none (by rw [hPd, u2_same])] at hT2
      have hJ7 : J 7 k = V 23 k := by rw [eJ 7 (by decide)]; exact hS.2.2.2.2.2.1 k hk
      refine ⟨?_, hT2.cong ⟨rfl, rfl, rfl, rfl, rfl, rfl, rfl, rfl⟩ ⟨rfl, rfl, rfl, rfl, rfl, rfl, rfl⟩ ⟨rfl, rfl⟩, hMW.cong ⟨rfl, rfl⟩ ⟨rfl, fun g9 => by simp only [u2]; rw [if_neg (by omega), if_neg (by omega)]⟩ ⟨rfl, rfl⟩, hHW.cong ⟨rfl, rfl⟩ rfl ⟨rfl, rfl⟩, hNW.cong ⟨rfl, rfl, rfl, rfl⟩ ⟨rfl, rfl⟩ ⟨rfl, rfl⟩, hQW.cong ⟨rfl, rfl, rfl⟩ ⟨rfl, rfl, rfl, rfl⟩⟩
      obtain ⟨q1, q2, q3, q4, q5, q6, q7, q8⟩ := hSW
      refine ⟨q1, q2, q3, q4, q5, fun k9 h9 => ?_, q7, q8⟩
      show u2 (u2 J 16 (tx O t) 2) 7 k (J 7 k + 1) 7 k9 = u2 (u2 W 8 t 2) 23 k (V 23 k + 1) 23 k9
      by_cases y : k9 = k
      · rw [y, u2_same, u2_same, hJ7]
      · rw [u2_ni _ _ _ _ y, u2_ni _ _ _ _ y]
        exact q6 k9 h9, rfl⟩)
  · refine g_if_eq C 40 dX2_tryWrite_19 (by decide) (by decide) (fun c19 => ?_) (fun c19 => absurd c19 (by decide))
    first | refine g_aload_n C dX2_tryWrite_40 rfl ?_ | refine g_aload_nq C _ dX2_tryWrite_40 rfl ?_
    refine cg_holder C i2 (by decide +kernel) dX2_tryWrite_41 ?_
    refine g_iload_n C dX2_tryWrite_44 rfl ?_
    refine cl_holder C dX2_tryWrite_45 (by omega) ?_
    refine g_ifnull C 69 dX2_tryWrite_46 (by decide) (fun c46 => ?_) (fun a46 c46 => ?_)
    · have p46 : V 17 k = 0 := by by_cases z : V 17 k = 0; exact z; rw [hP4, if_neg z] at c46; exact absurd c46 (by simp)
      first | refine g_aload_n C dX2_tryWrite_69 rfl ?_ | refine g_aload_nq C _ dX2_tryWrite_69 rfl ?_
      refine cg_holder C i2 (by decide +kernel) dX2_tryWrite_70 ?_
      refine g_iload_n C dX2_tryWrite_73 rfl ?_
      first | refine g_aload_n C dX2_tryWrite_74 rfl ?_ | refine g_aload_nq C _ dX2_tryWrite_74 rfl ?_
      first | refine csn_holder C dX2_tryWrite_75 (by omega) ?_ | refine css_holder C (by assumption) (by assumption) dX2_tryWrite_75 (by omega) ?_
      first | refine g_aload_n C dX2_tryWrite_76 rfl ?_ | refine g_aload_nq C _ dX2_tryWrite_76 rfl ?_
      refine cg_written C i2 (by decide +kernel) dX2_tryWrite_77 ?_
      refine g_iload_n C dX2_tryWrite_80 rfl ?_
      refine g_iload_n C dX2_tryWrite_81 rfl ?_
      refine cs_written C (by omega) dX2_tryWrite_82 hk ?_
      exact g_vret C dX2_tryWrite_83 rfl (⟨_, _, L, K, rfl, ⟨rfl, rfl, by show J 1 = I 1; exact eJ 1 (by decide), eP 2 (by decide)⟩, (hBJ.mono (Nat.le_succ N)).up (by omega), by
        unfold vWr
        rw [if_neg h16, if_neg (fun y => absurd y.1 (by omega)), ← hWd]
        have hH2 := RH.hold (t := t) (b := b) hHW hk (by rw [eW 17 (by decide) (by decide)]; exact Or.inl p46) (fun j h1 h2 y => by omega)
        rw [etP] at hH2
        exact ⟨hSW.cong ⟨rfl, rfl, rfl, rfl, rfl, rfl, rfl, rfl⟩ ⟨rfl, rfl, rfl, rfl, rfl, rfl, rfl, rfl⟩, hTW.cong ⟨rfl, rfl, rfl, rfl, rfl, rfl, rfl, rfl⟩ ⟨rfl, rfl, rfl, rfl, rfl, rfl, rfl⟩ ⟨rfl, rfl⟩, hMW.cong ⟨rfl, rfl⟩ ⟨rfl, fun g9 => by simp only [u2]; rw [if_neg (by omega)]⟩ ⟨rfl, rfl⟩, hH2, hNW.cong ⟨rfl, rfl, rfl, rfl⟩ ⟨rfl, rfl⟩ ⟨rfl, rfl⟩, hQW.cong ⟨rfl, rfl, rfl⟩ ⟨rfl, rfl, rfl, rfl⟩⟩, rfl⟩)
    · have p46 : 0 < V 17 k := Nat.pos_of_ne_zero (fun z => by rw [hP4, if_pos z] at c46; exact absurd c46 (by simp))
      first | refine g_aload_n C dX2_tryWrite_49 rfl ?_ | refine g_aload_nq C _ dX2_tryWrite_49 rfl ?_
      refine cg_holder C i2 (by decide +kernel) dX2_tryWrite_50 ?_
      refine g_iload_n C dX2_tryWrite_53 rfl ?_
      refine cl_holder C dX2_tryWrite_54 (by omega) ?_
      first | refine g_aload_n C dX2_tryWrite_55 rfl ?_ | refine g_aload_nq C _ dX2_tryWrite_55 rfl ?_
      refine g_acmp_eq C _ (some (tx O t)) 69 dX2_tryWrite_56 (by decide) (fun c56 => ?_) (fun c56 => ?_)
      · have p56 : V 17 k = t + 1 := by rw [hP4, if_neg (show ¬ V 17 k = 0 by omega)] at c56; have := hT.inj (by omega) ht (Option.some.inj c56); omega
        first | refine g_aload_n C dX2_tryWrite_69 rfl ?_ | refine g_aload_nq C _ dX2_tryWrite_69 rfl ?_
        refine cg_holder C i2 (by decide +kernel) dX2_tryWrite_70 ?_
        refine g_iload_n C dX2_tryWrite_73 rfl ?_
        first | refine g_aload_n C dX2_tryWrite_74 rfl ?_ | refine g_aload_nq C _ dX2_tryWrite_74 rfl ?_
        first | refine csn_holder C dX2_tryWrite_75 (by omega) ?_ | refine css_holder C (by assumption) (by assumption) dX2_tryWrite_75 (by omega) ?_
        first | refine g_aload_n C dX2_tryWrite_76 rfl ?_ | refine g_aload_nq C _ dX2_tryWrite_76 rfl ?_
        refine cg_written C i2 (by decide +kernel) dX2_tryWrite_77 ?_
        refine g_iload_n C dX2_tryWrite_80 rfl ?_
        refine g_iload_n C dX2_tryWrite_81 rfl ?_
        refine cs_written C (by omega) dX2_tryWrite_82 hk ?_
        exact g_vret C dX2_tryWrite_83 rfl (⟨_, _, L, K, rfl, ⟨rfl, rfl, by show J 1 = I 1; exact eJ 1 (by decide), eP 2 (by decide)⟩, (hBJ.mono (Nat.le_succ N)).up (by omega), by
          unfold vWr
          rw [if_neg h16, if_neg (fun y => y.2 p56), ← hWd]
          have hH2 := RH.hold (t := t) (b := b) hHW hk (by rw [eW 17 (by decide) (by decide)]; exact Or.inr p56) (fun j h1 h2 y => by omega)
          rw [etP] at hH2
          exact ⟨hSW.cong ⟨rfl, rfl, rfl, rfl, rfl, rfl, rfl, rfl⟩ ⟨rfl, rfl, rfl, rfl, rfl, rfl, rfl, rfl⟩, hTW.cong ⟨rfl, rfl, rfl, rfl, rfl, rfl, rfl, rfl⟩ ⟨rfl, rfl, rfl, rfl, rfl, rfl, rfl⟩ ⟨rfl, rfl⟩, hMW.cong ⟨rfl, rfl⟩ ⟨rfl, fun g9 => by simp only [u2]; rw [if_neg (by omega)]⟩ ⟨rfl, rfl⟩, hH2, hNW.cong ⟨rfl, rfl, rfl, rfl⟩ ⟨rfl, rfl⟩ ⟨rfl, rfl⟩, hQW.cong ⟨rfl, rfl, rfl⟩ ⟨rfl, rfl, rfl, rfl⟩⟩, rfl⟩)
      · have p56 : V 17 k ≠ t + 1 := fun z => c56 (by rw [hP4, if_neg (show ¬ V 17 k = 0 by omega), z]; rfl)
        first | refine g_aload_n C dX2_tryWrite_59 rfl ?_ | refine g_aload_nq C _ dX2_tryWrite_59 rfl ?_
        first | refine g_aload_n C dX2_tryWrite_60 rfl ?_ | refine g_aload_nq C _ dX2_tryWrite_60 rfl ?_
        refine g_iload_n C dX2_tryWrite_61 rfl ?_
        refine g_iload_n C dX2_tryWrite_62 rfl ?_
        refine g_callC C (k_X2_beginToWait l D g A xa _ _ _ _ hBJ hN hN2 hN3 hI hJ t k b ht hl hk hb hqt (hWd ▸ ⟨hSW, hTW, hMW, hHW, hNW, hQW⟩ : RC (u2 (u2 V 11 t 0) 8 t 0) J P L K own) p46 (tx O t) (etP t)) gX2_tryWrite_X2_beginToWait dX2_tryWrite_63 (n := 3) rfl rfl rfl (by decide +kernel) ⟨Nat.le_of_ble_eq_true rfl, Nat.le_of_ble_eq_true rfl⟩ rfl rfl (Nat.le_of_ble_eq_true rfl) ⟨by omega, by omega⟩ (fun r I1 O1 L1 K1 hq => ?_)
        obtain ⟨⟨x1, x2, x3, x4⟩, hB3, hR3, rfl⟩ := hq
        rw [x1, x2]
        refine g_goto C 83 dX2_tryWrite_66 (by decide) ?_
        exact g_vret C dX2_tryWrite_83 rfl (⟨I1, O1, L, K, rfl, ⟨rfl, rfl, x3.trans (eJ 1 (by decide)), x4.trans (eP 2 (by decide))⟩, hB3, by unfold vWr; rw [if_neg h16, if_pos ⟨p46, p56⟩]; exact hR3, rfl⟩)
set_option maxRecDepth 100000 in
set_option maxHeartbeats 1000000 in
theorem k_X2_retryQueued (l : Launch) (D : va_G) (g : Nat → ClassId) (A : Nat → Prop) (xa : Nat → Nat) (I : VV) (O : OO) (L : List Nat) (K : Nat → Nat) {N : Nat} (hB : BdN I N) (hN : N ≤ 2 ^ 30) {V : VV} {own : Nat → Nat} (hN2 : 20000 ≤ N) (hN3 : N + 3601 ≤ 2 ^ 30) (hI : Iv V) (hJ : Jq V) (hR : RC V I O L K own) (hRw : Rw V) : CC l yX2_retryQueued wsX2_retryQueued ({ frames := 5, cells := 0, slots := 0, locals := 118 } : Room) 0 0 D g A xa [.ref (xa 0)] I O L K (fun r I1 O1 L1 K1 => (L1 = L ∧ K1 = K ∧ I1 1 = I 1 ∧ O1 2 = O 2) ∧ BdN I1 (N + 3601) ∧ RC (vGoA V) I1 O1 L K own ∧ r = none) := by
  refine k_ofW [(0, .ref (xa 0))] (by decide) rfl (Nat.le_of_ble_eq_true rfl) rfl (by simp [Value.category, vcat_rf]) ?_
  intro p e s m args below meth c C
  have i0 : ∀ w ∈ wsX00, w ∈ wsX2_retryQueued := by decide +kernel
  have i1 : ∀ w ∈ wsX10, w ∈ wsX2_retryQueued := by decide +kernel
  have i2 : ∀ w ∈ wsX20, w ∈ wsX2_retryQueued := by decide +kernel
  have loop : ∀ (f : Nat) (W J : VV) (P : OO) (M n : Nat), Iv W → Jq W → Rw W → RC W J P L K own → BdN J M → 20000 ≤ M → M + f ≤ N + 3601 → n ≤ W 19 0 → 3600 - W 19 0 < f → vGo f W = vGoA V → (J 1 = I 1 ∧ P 2 = O 2) → GG p l e ({ frames := 5, cells := 0, slots := 0, locals := 118 } : Room) s m args below meth c (cQ below D g A xa args s 0 0 (fun r I1 O1 L1 K1 => (L1 = L ∧ K1 = K ∧ I1 1 = I 1 ∧ O1 2 = O 2) ∧ BdN I1 (N + 3601) ∧ RC (vGoA V) I1 O1 L K own ∧ r = none)) 3 D A s.heap (cW g xa J P L K) (0) (0) 2 [(0, .ref (xa 0)), (1, .int (nI n))] [] := by
    intro f
    induction f with
    | zero =>
      intro W J P M n _ _ _ _ _ _ _ _ h
      exact absurd h (Nat.not_lt_zero _)
    | succ f ihf =>
      intro W J P M n hI hJ hRw hR hBJ hM hMN hn hf hfin hfr
      have hq := hI.q
      have hC := hI.1
      have hft := hI.2.2.2.2.1
      obtain ⟨hS, hT, hMm, hH, hNw, hQ⟩ := hR
      refine g_iload_n C dX2_retryQueued_2 rfl ?_
      refine g_sipush C 3600 dX2_retryQueued_3 (by decide) ?_
      refine g_icmp_ge C 68 dX2_retryQueued_6 (by decide) (by omega) (by decide) (fun c6 => ?_) (fun c6 => ?_)
      · exact g_vret C dX2_retryQueued_68 rfl (⟨J, P, L, K, rfl, ⟨rfl, rfl, hfr.1, hfr.2⟩, hBJ.mono (by omega), by
          have hem : W 19 0 = W 20 0 := by omega
          rw [← hfin]
          show RC (if W 19 0 < W 20 0 then _ else _) J P L K own
          rw [if_neg (by omega)]
          exact ⟨hS.cong ⟨rfl, rfl, rfl, rfl, rfl, rfl, rfl, rfl⟩ ⟨rfl, rfl, rfl, rfl, rfl, rfl, rfl, rfl⟩, hT.cong ⟨rfl, rfl, rfl, rfl, rfl, rfl, rfl, rfl⟩ ⟨rfl, rfl, rfl, rfl, rfl, rfl, rfl⟩ ⟨rfl, rfl⟩, hMm.cong ⟨rfl, rfl⟩ ⟨rfl, fun _ => rfl⟩ ⟨rfl, rfl⟩, hH.cong ⟨rfl, rfl⟩ rfl ⟨rfl, rfl⟩, hNw.cong ⟨rfl, rfl, rfl, rfl⟩ ⟨rfl, rfl⟩ ⟨rfl, rfl⟩, ⟨fun _ => hQ.1 hem, fun z => by rw [u2_same] at z; omega⟩⟩, rfl⟩)
      · first | refine g_aload_n C dX2_retryQueued_9 rfl ?_ | refine g_aload_nq C _ dX2_retryQueued_9 rfl ?_
        refine cg_firstInQueue C i2 (by decide +kernel) dX2_retryQueued_10 ?_
        refine g_ifnull C 68 dX2_retryQueued_13 (by decide) (fun c13 => ?_) (fun a13 c13 => ?_)
        · exact g_vret C dX2_retryQueued_68 rfl (⟨J, P, L, K, rfl, ⟨rfl, rfl, hfr.1, hfr.2⟩, hBJ.mono (by omega), by
            have hem : W 19 0 = W 20 0 := by rcases (show W 19 0 = W 20 0 ∨ W 19 0 < W 20 0 by omega) with z | z; exact z; exact absurd ((hQ.2 z).1.symm.trans c13) (by simp)
            rw [← hfin]
            show RC (if W 19 0 < W 20 0 then _ else _) J P L K own
            rw [if_neg (by omega)]
            exact ⟨hS.cong ⟨rfl, rfl, rfl, rfl, rfl, rfl, rfl, rfl⟩ ⟨rfl, rfl, rfl, rfl, rfl, rfl, rfl, rfl⟩, hT.cong ⟨rfl, rfl, rfl, rfl, rfl, rfl, rfl, rfl⟩ ⟨rfl, rfl, rfl, rfl, rfl, rfl, rfl⟩ ⟨rfl, rfl⟩, hMm.cong ⟨rfl, rfl⟩ ⟨rfl, fun _ => rfl⟩ ⟨rfl, rfl⟩, hH.cong ⟨rfl, rfl⟩ rfl ⟨rfl, rfl⟩, hNw.cong ⟨rfl, rfl, rfl, rfl⟩ ⟨rfl, rfl⟩ ⟨rfl, rfl⟩, ⟨fun _ => hQ.1 hem, fun z => by rw [u2_same] at z; omega⟩⟩, rfl⟩)
        · have hlt : W 19 0 < W 20 0 := by rcases (show W 19 0 = W 20 0 ∨ W 19 0 < W 20 0 by omega) with z | z; exact absurd ((hQ.1 z).1.symm.trans c13) (by simp); exact z
          obtain ⟨hq0, hq1, hq8, hqn⟩ := hQ.2 hlt
          obtain ⟨t, htd⟩ : ∃ t, t = W 18 (W 19 0) := ⟨_, rfl⟩
          have htn : t < W 16 0 := by rw [htd]; exact hI.2.2.2.1 (W 19 0) (Nat.le_refl _) hlt
          rw [← htd] at hq0
          obtain ⟨-, tL, tK, -, -, -, h16, -, hwt⟩ := hT t htn
          have hgo : vGo (f + 1) W = vGo f (vGo1 W) := by show (if W 19 0 < W 20 0 then _ else _) = _; rw [if_pos hlt]
          have h19 := vGo1_19 W
          have hI1 := hI.go1 hlt
          have hJ1 := hJ.go1 hI hlt
          have hRw1 : Rw (vGo1 W) := hRw.cong (vGo1_k W (by omega)) (vGo1_k W (by omega)) (vGo1_k W (by omega)) (vGo1_k W (by omega)) (vGo1_k W (by omega))
          first | refine g_aload_n C dX2_retryQueued_16 rfl ?_ | refine g_aload_nq C _ dX2_retryQueued_16 rfl ?_
          refine cg_firstInQueue C i2 (by decide +kernel) dX2_retryQueued_17 ?_
          rw [hq0]
          first | refine g_astore_n C dX2_retryQueued_20 (by decide) ?_ | refine g_astore_nq C dX2_retryQueued_20 (by decide) ?_
          first | refine g_aload_n C dX2_retryQueued_21 rfl ?_ | refine g_aload_nq C _ dX2_retryQueued_21 rfl ?_
          first | refine g_aload_n C dX2_retryQueued_22 rfl ?_ | refine g_aload_nq C _ dX2_retryQueued_22 rfl ?_
          refine tg_nextInQueue C (by assumption) (by assumption) i1 (by decide +kernel) dX2_retryQueued_23 ?_
          first | refine cp_firstInQueue (r := some _) C i2 (by decide +kernel) dX2_retryQueued_26 ?_ | refine cp_firstInQueue C i2 (by decide +kernel) dX2_retryQueued_26 ?_
          first | refine g_aload_n C dX2_retryQueued_29 rfl ?_ | refine g_aload_nq C _ dX2_retryQueued_29 rfl ?_
          refine cg_firstInQueue C i2 (by decide +kernel) dX2_retryQueued_30 ?_
          refine g_ifnonnull C 41 dX2_retryQueued_33 (by decide) (fun a33 c33 => ?_) (fun c33 => ?_)
          · have hmore : W 19 0 + 1 < W 20 0 := by rcases (show W 19 0 + 1 < W 20 0 ∨ W 19 0 = W 20 0 - 1 by omega) with z | z; exact z; rw [← z, ← htd] at hq8; exact absurd (hq8.symm.trans c33) (by simp)
            have h8n : P 8 (tx P t) = some (tx P (W 18 (W 19 0 + 1))) := by have h9 := hqn (W 19 0) (Nat.le_refl _) hmore; rw [← htd] at h9; exact h9
            obtain ⟨P2, hP2⟩ : ∃ P2, P2 = u2 P 0 0 (P 8 (tx P t)) := ⟨_, rfl⟩
            rw [← hP2]
            have eP2 : ∀ b, b ≠ 0 → b ≠ 1 → P2 b = P b := fun b h0 h1 => by rw [hP2]; simp only [u2, if_neg h0]
            have et2 : ∀ z, tx P2 z = tx P z := tx_cong (eP2 2 (by decide) (by decide))
            have hQ2 : RQ (u2 W 19 0 (W 19 0 + 1)) P2 := by
              unfold RQ
              rw [u2_same]
              have e20 : u2 W 19 0 (W 19 0 + 1) 20 0 = W 20 0 := rfl
              have e18 : u2 W 19 0 (W 19 0 + 1) 18 = W 18 := rfl
              rw [e20, e18, eP2 8 (by decide) (by decide)]
              simp only [et2]
              refine ⟨fun z => by omega, fun _ => ⟨?_, ?_, hq8, fun j h1 h2 => hqn j (by omega) h2⟩⟩
              · rw [hP2, u2_same]; exact h8n
              · rw [hP2]; exact hq1
            have hS2 : RS (u2 W 19 0 (W 19 0 + 1)) J := hS.cong ⟨rfl, rfl, rfl, rfl, rfl, rfl, rfl, rfl⟩ ⟨rfl, rfl, rfl, rfl, rfl, rfl, rfl, rfl⟩
            have hT2 : RT (u2 W 19 0 (W 19 0 + 1)) J P2 L K := hT.cong ⟨rfl, rfl, rfl, rfl, rfl, rfl, rfl, rfl⟩ ⟨rfl, rfl, rfl, rfl, rfl, rfl, rfl⟩ ⟨eP2 2 (by decide) (by decide), eP2 7 (by decide) (by decide)⟩
            have hM2 : RM (u2 W 19 0 (W 19 0 + 1)) J P2 L K := hMm.cong ⟨rfl, rfl⟩ ⟨rfl, fun _ => rfl⟩ ⟨eP2 2 (by decide) (by decide), eP2 6 (by decide) (by decide)⟩
            have hH2 : RH (u2 W 19 0 (W 19 0 + 1)) J P2 := hH.cong ⟨rfl, rfl⟩ rfl ⟨eP2 2 (by decide) (by decide), eP2 4 (by decide) (by decide)⟩
            have hN9 : RN (u2 W 19 0 (W 19 0 + 1)) J P2 L K own := hNw.cong ⟨rfl, rfl, rfl, rfl⟩ ⟨rfl, rfl⟩ ⟨eP2 3 (by decide) (by decide), eP2 5 (by decide) (by decide)⟩
            have hRC2 : RC (u2 W 19 0 (W 19 0 + 1)) J P2 L K own := ⟨hS2, hT2, hM2, hH2, hN9, hQ2⟩
            first | refine g_aload_n C dX2_retryQueued_41 rfl ?_ | refine g_aload_nq C _ dX2_retryQueued_41 rfl ?_
            refine tg_state C (by assumption) (by assumption) i1 (by decide +kernel) dX2_retryQueued_42 ?_
            refine g_iconst C 1 dX2_retryQueued_45 (by decide) ?_
            refine g_icmp_ne C 62 dX2_retryQueued_46 (by decide) (bd hBJ (by omega) _ _) (by decide) (fun c46 => ?_) (fun c46 => ?_)
            · refine g_iinc C dX2_retryQueued_62 rfl (by decide) ?_
              refine g_goto C 2 dX2_retryQueued_65 (by decide) ?_
              have hg1 : vGo1 W = u2 W 19 0 (W 19 0 + 1) := by unfold vGo1; rw [← htd, if_neg (by rw [← h16]; exact c46)]
              exact g_lv (lv' := [(0, .ref (xa 0)), (1, .int (nI (n + 1)))]) (fun q hq => List.mem_append_left [(2, _)] hq) (ihf (vGo1 W) J P2 (M + 1) (n + 1) hI1 hJ1 hRw1 (by rw [hg1]; exact hRC2) (hBJ.mono (Nat.le_succ M)) (by omega) (by omega) (by omega) (by omega) (by rw [← hgo]; exact hfin) ⟨hfr.1, (eP2 2 (by decide) (by decide)).trans hfr.2⟩)
            · have p46 : W 8 t = 1 := by rw [← h16]; exact c46
              have hb9 := hI.2.1 t htn p46
              have hwt := hwt p46
              first | refine g_aload_n C dX2_retryQueued_49 rfl ?_ | refine g_aload_nq C _ dX2_retryQueued_49 rfl ?_
              first | refine g_aload_n C dX2_retryQueued_50 rfl ?_ | refine g_aload_nq C _ dX2_retryQueued_50 rfl ?_
              first | refine g_aload_n C dX2_retryQueued_51 rfl ?_ | refine g_aload_nq C _ dX2_retryQueued_51 rfl ?_
              refine tg_waitingTriple C (by assumption) (by assumption) i1 (by decide +kernel) dX2_retryQueued_52 ?_
              rw [hwt.1]
              first | refine g_aload_n C dX2_retryQueued_55 rfl ?_ | refine g_aload_nq C _ dX2_retryQueued_55 rfl ?_
              refine tg_waitingThere C (by assumption) (by assumption) i1 (by decide +kernel) dX2_retryQueued_56 ?_
              rw [hwt.2.1]
              refine g_callC C (k_X2_tryWrite l D g A xa _ _ _ _ hBJ (by omega) hM (by omega) (hI.next hlt) hJ.next t (W 12 t) (W 13 t) htn (show W 8 t < 3 by omega) hb9.2.2.1 hb9.2.2.2 (fun j h1 h2 => by rw [u2_same] at h1; rw [htd]; exact Ne.symm (hJ.2 (W 19 0) j (Nat.le_refl _) (by omega) h2)) hRC2 (hRw.cong rfl rfl rfl rfl rfl) (tx P t) (et2 t)) gX2_retryQueued_X2_tryWrite dX2_retryQueued_59 (n := 3) rfl rfl rfl (by decide +kernel) ⟨Nat.le_of_ble_eq_true rfl, Nat.le_of_ble_eq_true rfl⟩ rfl rfl (Nat.le_of_ble_eq_true rfl) ⟨by omega, by omega⟩ (fun r I1 O1 L1 K1 hq => ?_)
              obtain ⟨⟨x1, x2, x3, x4⟩, hB3, hR3, rfl⟩ := hq
              rw [x1, x2]
              refine g_iinc C dX2_retryQueued_62 rfl (by decide) ?_
              refine g_goto C 2 dX2_retryQueued_65 (by decide) ?_
              have hg1 : vGo1 W = vWr (u2 W 19 0 (W 19 0 + 1)) t (W 12 t) (W 13 t) := by unfold vGo1; rw [← htd, if_pos p46]
              exact g_lv (lv' := [(0, .ref (xa 0)), (1, .int (nI (n + 1)))]) (fun q hq => List.mem_append_left [(2, _)] hq) (ihf (vGo1 W) I1 O1 (M + 1) (n + 1) hI1 hJ1 hRw1 (by rw [hg1]; exact hR3) hB3 (by omega) (by omega) (by omega) (by omega) (by rw [← hgo]; exact hfin) ⟨x3.trans hfr.1, x4.trans ((eP2 2 (by decide) (by decide)).trans hfr.2)⟩)
          · first | refine g_aload_n C dX2_retryQueued_36 rfl ?_ | refine g_aload_nq C _ dX2_retryQueued_36 rfl ?_
            refine g_null C dX2_retryQueued_37 ?_
            first | refine cp_lastInQueue (r := some _) C i2 (by decide +kernel) dX2_retryQueued_38 ?_ | refine cp_lastInQueue C i2 (by decide +kernel) dX2_retryQueued_38 ?_
            have hlast : W 19 0 + 1 = W 20 0 := by rcases (show W 19 0 + 1 < W 20 0 ∨ W 19 0 + 1 = W 20 0 by omega) with z | z; exact absurd (by have h9 := hqn (W 19 0) (Nat.le_refl _) z; rw [← htd] at h9; exact h9.symm.trans c33) (by simp); exact z
            obtain ⟨P2, hP2⟩ : ∃ P2, P2 = u2 (u2 P 0 0 (P 8 (tx P t))) 1 0 none := ⟨_, rfl⟩
            rw [← hP2]
            have eP2 : ∀ b, b ≠ 0 → b ≠ 1 → P2 b = P b := fun b h0 h1 => by rw [hP2]; simp only [u2, if_neg h0, if_neg h1]
            have et2 : ∀ z, tx P2 z = tx P z := tx_cong (eP2 2 (by decide) (by decide))
            have c33 : P 8 (tx P t) = none := c33
            have hQ2 : RQ (u2 W 19 0 (W 19 0 + 1)) P2 := by
              unfold RQ
              rw [u2_same]
              have e20 : u2 W 19 0 (W 19 0 + 1) 20 0 = W 20 0 := rfl
              rw [e20]
              refine ⟨fun _ => ⟨?_, ?_⟩, fun z => by omega⟩
              · rw [hP2]; show u2 P 0 0 (P 8 (tx P t)) 0 0 = none; rw [u2_same]; exact c33
              · rw [hP2, u2_same]
            have hS2 : RS (u2 W 19 0 (W 19 0 + 1)) J := hS.cong ⟨rfl, rfl, rfl, rfl, rfl, rfl, rfl, rfl⟩ ⟨rfl, rfl, rfl, rfl, rfl, rfl, rfl, rfl⟩
            have hT2 : RT (u2 W 19 0 (W 19 0 + 1)) J P2 L K := hT.cong ⟨rfl, rfl, rfl, rfl, rfl, rfl, rfl, rfl⟩ ⟨rfl, rfl, rfl, rfl, rfl, rfl, rfl⟩ ⟨eP2 2 (by decide) (by decide), eP2 7 (by decide) (by decide)⟩
            have hM2 : RM (u2 W 19 0 (W 19 0 + 1)) J P2 L K := hMm.cong ⟨rfl, rfl⟩ ⟨rfl, fun _ => rfl⟩ ⟨eP2 2 (by decide) (by decide), eP2 6 (by decide) (by decide)⟩
            have hH2 : RH (u2 W 19 0 (W 19 0 + 1)) J P2 := hH.cong ⟨rfl, rfl⟩ rfl ⟨eP2 2 (by decide) (by decide), eP2 4 (by decide) (by decide)⟩
            have hN9 : RN (u2 W 19 0 (W 19 0 + 1)) J P2 L K own := hNw.cong ⟨rfl, rfl, rfl, rfl⟩ ⟨rfl, rfl⟩ ⟨eP2 3 (by decide) (by decide), eP2 5 (by decide) (by decide)⟩
            have hRC2 : RC (u2 W 19 0 (W 19 0 + 1)) J P2 L K own := ⟨hS2, hT2, hM2, hH2, hN9, hQ2⟩
            first | refine g_aload_n C dX2_retryQueued_41 rfl ?_ | refine g_aload_nq C _ dX2_retryQueued_41 rfl ?_
            refine tg_state C (by assumption) (by assumption) i1 (by decide +kernel) dX2_retryQueued_42 ?_
            refine g_iconst C 1 dX2_retryQueued_45 (by decide) ?_
            refine g_icmp_ne C 62 dX2_retryQueued_46 (by decide) (bd hBJ (by omega) _ _) (by decide) (fun c46 => ?_) (fun c46 => ?_)
            · refine g_iinc C dX2_retryQueued_62 rfl (by decide) ?_
              refine g_goto C 2 dX2_retryQueued_65 (by decide) ?_
              have hg1 : vGo1 W = u2 W 19 0 (W 19 0 + 1) := by unfold vGo1; rw [← htd, if_neg (by rw [← h16]; exact c46)]
              exact g_lv (lv' := [(0, .ref (xa 0)), (1, .int (nI (n + 1)))]) (fun q hq => List.mem_append_left [(2, _)] hq) (ihf (vGo1 W) J P2 (M + 1) (n + 1) hI1 hJ1 hRw1 (by rw [hg1]; exact hRC2) (hBJ.mono (Nat.le_succ M)) (by omega) (by omega) (by omega) (by omega) (by rw [← hgo]; exact hfin) ⟨hfr.1, (eP2 2 (by decide) (by decide)).trans hfr.2⟩)
            · have p46 : W 8 t = 1 := by rw [← h16]; exact c46
              have hb9 := hI.2.1 t htn p46
              have hwt := hwt p46
              first | refine g_aload_n C dX2_retryQueued_49 rfl ?_ | refine g_aload_nq C _ dX2_retryQueued_49 rfl ?_
              first | refine g_aload_n C dX2_retryQueued_50 rfl ?_ | refine g_aload_nq C _ dX2_retryQueued_50 rfl ?_
              first | refine g_aload_n C dX2_retryQueued_51 rfl ?_ | refine g_aload_nq C _ dX2_retryQueued_51 rfl ?_
              refine tg_waitingTriple C (by assumption) (by assumption) i1 (by decide +kernel) dX2_retryQueued_52 ?_
              rw [hwt.1]
              first | refine g_aload_n C dX2_retryQueued_55 rfl ?_ | refine g_aload_nq C _ dX2_retryQueued_55 rfl ?_
              refine tg_waitingThere C (by assumption) (by assumption) i1 (by decide +kernel) dX2_retryQueued_56 ?_
              rw [hwt.2.1]
              refine g_callC C (k_X2_tryWrite l D g A xa _ _ _ _ hBJ (by omega) hM (by omega) (hI.next hlt) hJ.next t (W 12 t) (W 13 t) htn (show W 8 t < 3 by omega) hb9.2.2.1 hb9.2.2.2 (fun j h1 h2 => by rw [u2_same] at h1; rw [htd]; exact Ne.symm (hJ.2 (W 19 0) j (Nat.le_refl _) (by omega) h2)) hRC2 (hRw.cong rfl rfl rfl rfl rfl) (tx P t) (et2 t)) gX2_retryQueued_X2_tryWrite dX2_retryQueued_59 (n := 3) rfl rfl rfl (by decide +kernel) ⟨Nat.le_of_ble_eq_true rfl, Nat.le_of_ble_eq_true rfl⟩ rfl rfl (Nat.le_of_ble_eq_true rfl) ⟨by omega, by omega⟩ (fun r I1 O1 L1 K1 hq => ?_)
              obtain ⟨⟨x1, x2, x3, x4⟩, hB3, hR3, rfl⟩ := hq
              rw [x1, x2]
              refine g_iinc C dX2_retryQueued_62 rfl (by decide) ?_
              refine g_goto C 2 dX2_retryQueued_65 (by decide) ?_
              have hg1 : vGo1 W = vWr (u2 W 19 0 (W 19 0 + 1)) t (W 12 t) (W 13 t) := by unfold vGo1; rw [← htd, if_pos p46]
              exact g_lv (lv' := [(0, .ref (xa 0)), (1, .int (nI (n + 1)))]) (fun q hq => List.mem_append_left [(2, _)] hq) (ihf (vGo1 W) I1 O1 (M + 1) (n + 1) hI1 hJ1 hRw1 (by rw [hg1]; exact hR3) hB3 (by omega) (by omega) (by omega) (by omega) (by rw [← hgo]; exact hfin) ⟨x3.trans hfr.1, x4.trans ((eP2 2 (by decide) (by decide)).trans hfr.2)⟩)
  refine g_iconst C 0 dX2_retryQueued_0 (by decide) ?_
  refine g_istore_n C dX2_retryQueued_1 (by decide) ?_
  exact loop 3601 V I O N 0 hI hJ hRw hR hB hN2 (by omega) (Nat.zero_le _) (by omega) rfl ⟨rfl, rfl⟩
