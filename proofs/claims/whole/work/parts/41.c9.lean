set_option maxRecDepth 100000 in
set_option maxHeartbeats 1000000 in
theorem k_X2_addChanges (l : Launch) (D : va_G) (g : Nat → ClassId) (A : Nat → Prop) (xa : Nat → Nat) (I : VV) (O : OO) (L : List Nat) (K : Nat → Nat) {N : Nat} (hB : BdN I N) (hN : N ≤ 2 ^ 30) {V : VV} {own : Nat → Nat} (hN2 : 20000 ≤ N) (hI : Iv V) (hR : RC V I O L K own) (hrc : I 1 0 = V 3 0) (hRw : Rw V) (t : Nat) (ht : t < V 16 0) (hw : ∀ k, k < 200 → (0 < V 10 (200 * t + k) ↔ V 17 k = t + 1)) (hw2 : ∀ k, k < 200 → V 10 (200 * t + k) ≤ 2) (a : Nat) (ha : tx O t = a) : CC l yX2_addChanges wsX2_addChanges ({ frames := 2, cells := 200, slots := 600, locals := 35 } : Room) 200 600 D g A xa [.ref (xa 0), .ref a, .int (nI (V 4 0 + 1))] I O L K (fun r I1 O1 L1 K1 => O1 2 = O 2 ∧ BdN I1 N ∧ I1 1 0 = I 1 0 + (vRws V t (V 4 0 + 1) 200 3 0 - V 3 0) ∧ (∃ own1, RC (vRws V t (V 4 0 + 1) 200) I1 O1 L1 K1 own1) ∧ r = some (.int (nI (vRws V t (V 4 0 + 1) 200 3 0 - V 3 0)))) := by
  subst ha
  refine k_ofW [(0, .ref (xa 0)), (1, .ref (tx O t)), (2, .int (nI (V 4 0 + 1)))] (by decide) rfl (Nat.le_of_ble_eq_true rfl) rfl (by simp [Value.category, vcat_rf]) ?_
  intro p e s m args below meth c C
  have i0 : ∀ w ∈ wsX00, w ∈ wsX2_addChanges := by decide +kernel
  have i1 : ∀ w ∈ wsX10, w ∈ wsX2_addChanges := by decide +kernel
  have i2 : ∀ w ∈ wsX20, w ∈ wsX2_addChanges := by decide +kernel
  have hla := hI.lat
  have hrw := hI.rows
  have hsum : ∀ W : VV, V 3 0 ≤ W 3 0 → W 3 0 ≤ V 3 0 + 200 → ∀ {J : VV}, J 1 = I 1 → J 1 0 + (W 3 0 - V 3 0) < N := fun W h1 h2 J hJ => by rw [hJ, hrc]; omega
  have loop : ∀ (n i : Nat) (W J : VV) (P : OO) (L2 : List Nat) (K2 own2 : Nat → Nat), 200 - i = n → i ≤ 200 → W = vRws V t (V 4 0 + 1) i → RC W J P L2 K2 own2 → BdN J N → P 2 = O 2 → J 1 = I 1 → GG p l e ({ frames := 2, cells := 200, slots := 600, locals := 35 } : Room) s m args below meth c (cQ below D g A xa args s 200 600 (fun r I1 O1 L1 K1 => O1 2 = O 2 ∧ BdN I1 N ∧ I1 1 0 = I 1 0 + (vRws V t (V 4 0 + 1) 200 3 0 - V 3 0) ∧ (∃ own1, RC (vRws V t (V 4 0 + 1) 200) I1 O1 L1 K1 own1) ∧ r = some (.int (nI (vRws V t (V 4 0 + 1) 200 3 0 - V 3 0))))) 5 D A s.heap (cW g xa J P L2 K2) (W 3 0 - V 3 0) (3 * (W 3 0 - V 3 0)) 5 [(0, .ref (xa 0)), (1, .ref (tx O t)), (2, .int (nI (V 4 0 + 1))), (3, .int (nI (W 3 0 - V 3 0))), (4, .int (nI i))] [] := by
    intro n
    induction n using Nat.strongRecOn with
    | _ n ih =>
      intro i W J P L2 K2 own2 hn hi hWd hR2 hBJ hP2 hJ1
      have h3 := vRws_3 V t (V 4 0 + 1) i
      have eV : ∀ x, x ≠ 0 → x ≠ 1 → x ≠ 2 → x ≠ 3 → W x = V x := fun x h0 h1 h2 h3 => by rw [hWd]; exact vRws_k V t _ h0 h1 h2 h3 i
      have hsrt := (vRws_s (t := t) hRw i hi).1
      have hnext : vRws V t (V 4 0 + 1) (i + 1) = if vChB W t i = true then vAdd1 W i (V 4 0 + 1) (if V 10 (200 * t + i) = 2 then 1 else 0) else W := by rw [hWd]; rfl
      rw [← hWd] at h3 hsrt
      have etx : ∀ z, tx P z = tx O z := tx_cong hP2
      obtain ⟨hS, hT, hM, hH, hNw, hQ⟩ := id hR2
      have htW : t < W 16 0 := by rw [eV 16 (by decide) (by decide) (by decide) (by decide)]; exact ht
      obtain ⟨-, tL, tK, -, -, h14, -, -, -⟩ := hT t htW
      rw [etx] at tL tK h14
      have h14 : J 14 (tx O t) = V 7 t := by rw [h14, eV 7 (by decide) (by decide) (by decide) (by decide)]
      have h7 : V 7 t < N := by rw [← h14]; exact hBJ 14 (tx O t)
      have hold := RH.holds (t := t) hT hH htW (by rw [eV 17 (by decide) (by decide) (by decide) (by decide), eV 16 (by decide) (by decide) (by decide) (by decide)]; exact hI.2.2.1)
      rw [eV 17 (by decide) (by decide) (by decide) (by decide), etx] at hold
      refine g_iload C dX2_addChanges_5 rfl ?_
      refine g_sipush C 200 dX2_addChanges_7 (by decide) ?_
      refine g_icmp_ge C 82 dX2_addChanges_10 (by decide) (by omega) (by decide) (fun c10 => ?_) (fun c10 => ?_)
      · first | refine g_aload_n C dX2_addChanges_82 rfl ?_ | refine g_aload_nq C _ dX2_addChanges_82 rfl ?_
        refine g_dup C dX2_addChanges_83 (by first | rfl | exact vcat_rf _) ?_
        refine cg_rowCount C i2 (by decide +kernel) dX2_addChanges_84 ?_
        refine g_iload_n C dX2_addChanges_87 rfl ?_
        first | refine g_iadd C dX2_addChanges_88 ?_ | refine g_iaddx C dX2_addChanges_88 ?_
        refine cp_rowCount C i2 (by decide +kernel) dX2_addChanges_89 ?_
        refine g_iload_n C dX2_addChanges_92 rfl ?_
        exact g_iret C dX2_addChanges_93 rfl (⟨_, P, L2, K2, rfl, hP2, hBJ.up (hsum W (by omega) (by omega) hJ1), by rw [u2_same, hJ1, show vRws V t (V 4 0 + 1) 200 = W by rw [hWd, show i = 200 by omega]], ⟨own2, by
          rw [show vRws V t (V 4 0 + 1) 200 = W by rw [hWd, show i = 200 by omega]]
          exact ⟨hS.cong ⟨rfl, rfl, rfl, rfl, rfl, rfl, rfl, rfl⟩ ⟨rfl, rfl, rfl, rfl, rfl, rfl, rfl, rfl⟩, hT.cong ⟨rfl, rfl, rfl, rfl, rfl, rfl, rfl, rfl⟩ ⟨rfl, rfl, rfl, rfl, rfl, rfl, rfl⟩ ⟨rfl, rfl⟩, hM.cong ⟨rfl, rfl⟩ ⟨rfl, fun g9 => by simp only [u2]; rw [if_neg (by omega)]⟩ ⟨rfl, rfl⟩, hH.cong ⟨rfl, rfl⟩ rfl ⟨rfl, rfl⟩, hNw.cong ⟨rfl, rfl, rfl, rfl⟩ ⟨rfl, rfl⟩ ⟨rfl, rfl⟩, hQ.cong ⟨rfl, rfl, rfl⟩ ⟨rfl, rfl, rfl, rfl⟩⟩⟩, by rw [show vRws V t (V 4 0 + 1) 200 = W by rw [hWd, show i = 200 by omega]]⟩)
      · first | refine g_aload_n C dX2_addChanges_13 rfl ?_ | refine g_aload_nq C _ dX2_addChanges_13 rfl ?_
        refine cg_holder C i2 (by decide +kernel) dX2_addChanges_14 ?_
        refine g_iload C dX2_addChanges_17 rfl ?_
        refine cl_holder C dX2_addChanges_19 (by omega) ?_
        first | refine g_aload_n C dX2_addChanges_20 rfl ?_ | refine g_aload_nq C _ dX2_addChanges_20 rfl ?_
        refine g_acmp_ne C _ (some (tx O t)) 76 dX2_addChanges_21 (by decide) (fun c21 => ?_) (fun c21 => ?_)
        · refine g_iinc C dX2_addChanges_76 rfl (by decide) ?_
          refine g_goto C 5 dX2_addChanges_79 (by decide) ?_
          have hnc : vChB W t i = false := by unfold vChB; rw [eV 10 (by decide) (by decide) (by decide) (by decide), decide_eq_false (fun z => c21 ((hold i (by omega)).mpr ((hw i (by omega)).mp z)))]; rfl
          exact ih _ (by omega) (i + 1) W J P L2 K2 own2 rfl (by omega) (by rw [hnext, hnc]; rfl) hR2 hBJ hP2 hJ1
        · have hh := (hH i (by omega)).2
          have p21 : V 17 i = t + 1 := (hold i (by omega)).mp c21
          have e10 : W 10 (200 * t + i) = V 10 (200 * t + i) := by rw [eV 10 (by decide) (by decide) (by decide) (by decide)]
          rw [eV 17 (by decide) (by decide) (by decide) (by decide), p21, show t + 1 - 1 = t by omega, e10] at hh
          have hh := hh (by omega)
          have h10 := hw2 i (by omega)
          first | refine g_aload_n C dX2_addChanges_24 rfl ?_ | refine g_aload_nq C _ dX2_addChanges_24 rfl ?_
          refine cg_written C i2 (by decide +kernel) dX2_addChanges_25 ?_
          refine g_iload C dX2_addChanges_28 rfl ?_
          refine cl_written C dX2_addChanges_30 (by omega) ?_
          first | refine g_aload_n C dX2_addChanges_31 rfl ?_ | refine g_aload_nq C _ dX2_addChanges_31 rfl ?_
          refine g_iload C dX2_addChanges_32 rfl ?_
          first | refine g_aload_n C dX2_addChanges_34 rfl ?_ | refine g_aload_nq C _ dX2_addChanges_34 rfl ?_
          refine tg_sees C (by assumption) (by assumption) i1 (by decide +kernel) dX2_addChanges_35 ?_
          rw [h14]
          refine g_callC C (k_X2_isThere l D g A xa _ _ _ _ hBJ hN i (V 7 t) (by omega) (by omega) (hNw i (by omega))) gX2_addChanges_X2_isThere dX2_addChanges_38 (n := 2) rfl rfl rfl (by decide +kernel) ⟨Nat.le_of_ble_eq_true rfl, Nat.le_of_ble_eq_true rfl⟩ rfl rfl (Nat.le_of_ble_eq_true rfl) ⟨show W 3 0 - V 3 0 + 0 ≤ 200 by omega, show 3 * (W 3 0 - V 3 0) + 0 ≤ 600 by omega⟩ (fun r I1 O1 L1 K1 hq => ?_)
          obtain ⟨⟨e1, e2, e3, e4⟩, hq⟩ := hq
          rw [e1, e2, e3, e4]
          rw [thL_iff hsrt _ (Nat.le_refl _)] at hq
          rcases hq with ⟨h38, rfl⟩ | ⟨h38, rfl⟩
          · refine g_icmp_eq C 76 dX2_addChanges_41 (by decide) (bd hBJ hN _ _) (by decide) (fun c41 => ?_) (fun c41 => ?_)
            · refine g_iinc C dX2_addChanges_76 rfl (by decide) ?_
              refine g_goto C 5 dX2_addChanges_79 (by decide) ?_
              have ht9 : vThB W i (W 7 t) = true := by
                rw [show W 7 t = V 7 t by rw [eV 7 (by decide) (by decide) (by decide) (by decide)]]
                exact (vThB_iff W i _).mpr h38
              have hnc : vChB W t i = false := by unfold vChB; rw [decide_eq_true (show 0 < W 10 (200 * t + i) by rw [e10]; omega), decide_eq_true (show W 10 (200 * t + i) = 2 by rw [e10]; omega), ht9]; rfl
              exact ih _ (by omega) (i + 1) W J P L2 K2 own2 rfl (by omega) (by rw [hnext, hnc]; rfl) hR2 hBJ hP2 hJ1
            · first | refine g_aload_n C dX2_addChanges_44 rfl ?_ | refine g_aload_nq C _ dX2_addChanges_44 rfl ?_
              refine cg_newest C i2 (by decide +kernel) dX2_addChanges_45 ?_
              refine g_iload C dX2_addChanges_48 rfl ?_
              refine g_newRow C i0 (by decide +kernel) (by decide +kernel) (by decide +kernel) dX2_addChanges_50 (show W 3 0 - V 3 0 + 1 ≤ 200 by omega) (show 3 * (W 3 0 - V 3 0) + 3 ≤ 600 by omega) (fun q hq9 => ?_)
              have hqL : q ∈ L2 ++ [q] := List.mem_append_right _ (List.mem_singleton.mpr rfl)
              have hqK : va_up K2 q 0 q = 0 := va_up_self _ _ _
              refine g_dup C dX2_addChanges_53 (by first | rfl | exact vcat_rf _) ?_
              refine g_iload_n C dX2_addChanges_54 rfl ?_
              first | refine g_aload_n C dX2_addChanges_55 rfl ?_ | refine g_aload_nq C _ dX2_addChanges_55 rfl ?_
              refine cg_written C i2 (by decide +kernel) dX2_addChanges_56 ?_
              refine g_iload C dX2_addChanges_59 rfl ?_
              refine cl_written C dX2_addChanges_61 (by omega) ?_
              first | refine g_aload_n C dX2_addChanges_62 rfl ?_ | refine g_aload_nq C _ dX2_addChanges_62 rfl ?_
              refine cg_newest C i2 (by decide +kernel) dX2_addChanges_63 ?_
              refine g_iload C dX2_addChanges_66 rfl ?_
              refine cl_newest C dX2_addChanges_68 (by omega) ?_
              refine g_callI C (k_X0_init l D g A xa _ _ _ _ q (V 4 0 + 1) (J 6 i) (P 3 i) hqL hqK (by omega)) gX2_addChanges_X0_init (n := 3) rfl rfl rfl (by decide +kernel) (by decide +kernel) (by decide +kernel) rfl (by decide +kernel) ⟨Nat.le_of_ble_eq_true rfl, Nat.le_of_ble_eq_true rfl⟩ rfl rfl (Nat.le_of_ble_eq_true rfl) dX2_addChanges_69 ⟨show W 3 0 - V 3 0 + 1 + 0 ≤ 200 by omega, show 3 * (W 3 0 - V 3 0) + 3 + 0 ≤ 600 by omega⟩ (fun r w hq => ?_)
              obtain ⟨I9, O9, L9, K9, rfl, rfl, rfl, rfl, rfl, rfl⟩ := hq
              first | refine csn_newest C dX2_addChanges_72 (by omega) ?_ | refine css_newest C (by assumption) (by assumption) dX2_addChanges_72 (by omega) ?_
              refine g_iinc C dX2_addChanges_73 rfl (by decide) ?_
              refine g_iinc C dX2_addChanges_76 rfl (by decide) ?_
              refine g_goto C 5 dX2_addChanges_79 (by decide) ?_
              have ht9 : vThB W i (W 7 t) = true := by
                rw [show W 7 t = V 7 t by rw [eV 7 (by decide) (by decide) (by decide) (by decide)]]
                exact (vThB_iff W i _).mpr h38
              have hyc : vChB W t i = true := by unfold vChB; rw [decide_eq_true (show 0 < W 10 (200 * t + i) by rw [e10]; omega), decide_eq_false (show ¬ W 10 (200 * t + i) = 2 by rw [e10]; omega), ht9]; rfl
              have hj6 : J 6 i = 0 := by omega
              have hst : vRws V t (V 4 0 + 1) (i + 1) = vAdd1 W i (V 4 0 + 1) 0 := by rw [hnext, hyc, if_pos rfl, if_neg (show ¬ V 10 (200 * t + i) = 2 by omega)]
              have e31 : vAdd1 W i (V 4 0 + 1) 0 3 0 = W 3 0 + 1 := vAdd1_r.1
              have hR3 : RC (vAdd1 W i (V 4 0 + 1) 0) (u2 (u2 (u2 (u2 J 10 q 0) 11 q 0) 10 q (V 4 0 + 1)) 11 q (J 6 i)) (u2 (u2 (u2 P 5 q none) 5 q (P 3 i)) 3 i (some q)) (L2 ++ [q]) (va_up K2 q 0) (va_up own2 q i) := by
                rw [hj6]
                refine hR2.addRow hq9 (fun x h1 h2 => by simp only [u2, if_neg h1, if_neg h2]) (fun a ha => ⟨?_, ?_⟩) ⟨?_, ?_⟩ (fun x h1 h2 => by simp only [u2, if_neg h1, if_neg h2]) (fun a ha => ?_) ?_ ?_ (fun j hj => ?_)
                · simp [u2_eq, ha]
                · simp [u2_eq, ha]
                · simp [u2_eq]
                · simp [u2_eq]
                · simp [u2_eq, ha]
                · simp [u2_eq]
                · simp [u2_eq]
                · simp [u2_eq, hj]
              have ih9 := ih _ (by omega) (i + 1) (vAdd1 W i (V 4 0 + 1) 0) _ _ _ _ _ rfl (by omega) hst.symm hR3 ((((hBJ.up (by omega)).up (by omega)).up (by omega)).up (hBJ 6 i)) hP2 hJ1
              rw [e31, show W 3 0 + 1 - V 3 0 = W 3 0 - V 3 0 + 1 by omega, show 3 * (W 3 0 - V 3 0 + 1) = 3 * (W 3 0 - V 3 0) + 3 by omega] at ih9
              exact ih9
          · refine g_icmp_eq C 76 dX2_addChanges_41 (by decide) (bd hBJ hN _ _) (by decide) (fun c41 => ?_) (fun c41 => ?_)
            · refine g_iinc C dX2_addChanges_76 rfl (by decide) ?_
              refine g_goto C 5 dX2_addChanges_79 (by decide) ?_
              have ht9 : vThB W i (W 7 t) = false := by
                rw [show W 7 t = V 7 t by rw [eV 7 (by decide) (by decide) (by decide) (by decide)]]
                cases hz : vThB W i (V 7 t) with
                | false => rfl
                | true => exact absurd ((vThB_iff W i _).mp hz) h38
              have hnc : vChB W t i = false := by unfold vChB; rw [decide_eq_true (show 0 < W 10 (200 * t + i) by rw [e10]; omega), decide_eq_false (show ¬ W 10 (200 * t + i) = 2 by rw [e10]; omega), ht9]; rfl
              exact ih _ (by omega) (i + 1) W J P L2 K2 own2 rfl (by omega) (by rw [hnext, hnc]; rfl) hR2 hBJ hP2 hJ1
            · first | refine g_aload_n C dX2_addChanges_44 rfl ?_ | refine g_aload_nq C _ dX2_addChanges_44 rfl ?_
              refine cg_newest C i2 (by decide +kernel) dX2_addChanges_45 ?_
              refine g_iload C dX2_addChanges_48 rfl ?_
              refine g_newRow C i0 (by decide +kernel) (by decide +kernel) (by decide +kernel) dX2_addChanges_50 (show W 3 0 - V 3 0 + 1 ≤ 200 by omega) (show 3 * (W 3 0 - V 3 0) + 3 ≤ 600 by omega) (fun q hq9 => ?_)
              have hqL : q ∈ L2 ++ [q] := List.mem_append_right _ (List.mem_singleton.mpr rfl)
              have hqK : va_up K2 q 0 q = 0 := va_up_self _ _ _
              refine g_dup C dX2_addChanges_53 (by first | rfl | exact vcat_rf _) ?_
              refine g_iload_n C dX2_addChanges_54 rfl ?_
              first | refine g_aload_n C dX2_addChanges_55 rfl ?_ | refine g_aload_nq C _ dX2_addChanges_55 rfl ?_
              refine cg_written C i2 (by decide +kernel) dX2_addChanges_56 ?_
              refine g_iload C dX2_addChanges_59 rfl ?_
              refine cl_written C dX2_addChanges_61 (by omega) ?_
              first | refine g_aload_n C dX2_addChanges_62 rfl ?_ | refine g_aload_nq C _ dX2_addChanges_62 rfl ?_
              refine cg_newest C i2 (by decide +kernel) dX2_addChanges_63 ?_
              refine g_iload C dX2_addChanges_66 rfl ?_
              refine cl_newest C dX2_addChanges_68 (by omega) ?_
              refine g_callI C (k_X0_init l D g A xa _ _ _ _ q (V 4 0 + 1) (J 6 i) (P 3 i) hqL hqK (by omega)) gX2_addChanges_X0_init (n := 3) rfl rfl rfl (by decide +kernel) (by decide +kernel) (by decide +kernel) rfl (by decide +kernel) ⟨Nat.le_of_ble_eq_true rfl, Nat.le_of_ble_eq_true rfl⟩ rfl rfl (Nat.le_of_ble_eq_true rfl) dX2_addChanges_69 ⟨show W 3 0 - V 3 0 + 1 + 0 ≤ 200 by omega, show 3 * (W 3 0 - V 3 0) + 3 + 0 ≤ 600 by omega⟩ (fun r w hq => ?_)
              obtain ⟨I9, O9, L9, K9, rfl, rfl, rfl, rfl, rfl, rfl⟩ := hq
              first | refine csn_newest C dX2_addChanges_72 (by omega) ?_ | refine css_newest C (by assumption) (by assumption) dX2_addChanges_72 (by omega) ?_
              refine g_iinc C dX2_addChanges_73 rfl (by decide) ?_
              refine g_iinc C dX2_addChanges_76 rfl (by decide) ?_
              refine g_goto C 5 dX2_addChanges_79 (by decide) ?_
              have ht9 : vThB W i (W 7 t) = false := by
                rw [show W 7 t = V 7 t by rw [eV 7 (by decide) (by decide) (by decide) (by decide)]]
                cases hz : vThB W i (V 7 t) with
                | false => rfl
                | true => exact absurd ((vThB_iff W i _).mp hz) h38
              have hyc : vChB W t i = true := by unfold vChB; rw [decide_eq_true (show 0 < W 10 (200 * t + i) by rw [e10]; omega), decide_eq_true (show W 10 (200 * t + i) = 2 by rw [e10]; omega), ht9]; rfl
              have hj6 : J 6 i = 1 := by omega
              have hst : vRws V t (V 4 0 + 1) (i + 1) = vAdd1 W i (V 4 0 + 1) 1 := by rw [hnext, hyc, if_pos rfl, if_pos (show V 10 (200 * t + i) = 2 by omega)]
              have e31 : vAdd1 W i (V 4 0 + 1) 1 3 0 = W 3 0 + 1 := vAdd1_r.1
              have hR3 : RC (vAdd1 W i (V 4 0 + 1) 1) (u2 (u2 (u2 (u2 J 10 q 0) 11 q 0) 10 q (V 4 0 + 1)) 11 q (J 6 i)) (u2 (u2 (u2 P 5 q none) 5 q (P 3 i)) 3 i (some q)) (L2 ++ [q]) (va_up K2 q 0) (va_up own2 q i) := by
                rw [hj6]
                refine hR2.addRow hq9 (fun x h1 h2 => by simp only [u2, if_neg h1, if_neg h2]) (fun a ha => ⟨?_, ?_⟩) ⟨?_, ?_⟩ (fun x h1 h2 => by simp only [u2, if_neg h1, if_neg h2]) (fun a ha => ?_) ?_ ?_ (fun j hj => ?_)
                · simp [u2_eq, ha]
                · simp [u2_eq, ha]
                · simp [u2_eq]
                · simp [u2_eq]
                · simp [u2_eq, ha]
                · simp [u2_eq]
                · simp [u2_eq]
                · simp [u2_eq, hj]
              have ih9 := ih _ (by omega) (i + 1) (vAdd1 W i (V 4 0 + 1) 1) _ _ _ _ _ rfl (by omega) hst.symm hR3 ((((hBJ.up (by omega)).up (by omega)).up (by omega)).up (hBJ 6 i)) hP2 hJ1
              rw [e31, show W 3 0 + 1 - V 3 0 = W 3 0 - V 3 0 + 1 by omega, show 3 * (W 3 0 - V 3 0 + 1) = 3 * (W 3 0 - V 3 0) + 3 by omega] at ih9
              exact ih9
  refine g_iconst C 0 dX2_addChanges_0 (by decide) ?_
  refine g_istore_n C dX2_addChanges_1 (by decide) ?_
  refine g_iconst C 0 dX2_addChanges_2 (by decide) ?_
  refine g_istore C dX2_addChanges_3 (by decide) ?_
  have l9 := loop _ 0 V I O L K own rfl (Nat.zero_le _) rfl hR hB rfl rfl
  rw [Nat.sub_self] at l9
  exact l9
