set_option maxRecDepth 100000 in
set_option maxHeartbeats 1000000 in
theorem k_X2_makeVersion (l : Launch) (D : va_G) (g : Nat → ClassId) (A : Nat → Prop) (xa : Nat → Nat) (I : VV) (O : OO) (L : List Nat) (K : Nat → Nat) {N : Nat} (hB : BdN I N) (hN : N ≤ 2 ^ 30) {V : VV} {own : Nat → Nat} (hN2 : 20000 ≤ N) (hI : Iv V) (hR : RC V I O L K own) (hrc : I 1 0 = V 3 0) (hRw : Rw V) (t : Nat) (ht : t < V 16 0) (hw : ∀ k, k < 200 → (0 < V 10 (200 * t + k) ↔ V 17 k = t + 1)) (hw2 : ∀ k, k < 200 → V 10 (200 * t + k) ≤ 2) (hem : V 19 0 = V 20 0) (hsee : V 7 t ≤ V 4 0) (a : Nat) (ha : tx O t = a) : CC l yX2_makeVersion wsX2_makeVersion ({ frames := 3, cells := 200, slots := 600, locals := 71 } : Room) 200 600 D g A xa [.ref (xa 0), .ref a] I O L K (fun r I1 O1 L1 K1 => O1 2 = O 2 ∧ BdN I1 N ∧ I1 1 0 = vRwA V t 3 0 ∧ (∃ own1, RC (vEnd (vRwA V t) t 3) I1 O1 L1 K1 own1) ∧ r = some (.int (nI (vNum V t)))) := by
  subst ha
  refine k_ofW [(0, .ref (xa 0)), (1, .ref (tx O t))] (by decide) rfl (Nat.le_of_ble_eq_true rfl) rfl (by simp [Value.category, vcat_rf]) ?_
  intro p e s m args below meth c C
  have i0 : ∀ w ∈ wsX00, w ∈ wsX2_makeVersion := by decide +kernel
  have i1 : ∀ w ∈ wsX10, w ∈ wsX2_makeVersion := by decide +kernel
  have i2 : ∀ w ∈ wsX20, w ∈ wsX2_makeVersion := by decide +kernel
  have hla := hI.lat
  have hC := hI.1
  have h2 : I 2 0 = V 4 0 := hR.1.2.1
  have hWW : ∀ i, i < V 16 0 → V 8 i = 1 → 0 < V 11 i ∧ V 11 i ≤ V 16 0 := fun i h1 h2 => ⟨(hI.2.1 i h1 h2).1, (hI.2.1 i h1 h2).2.1⟩
  have eF : ∀ b, b ≠ 0 → b ≠ 1 → b ≠ 2 → b ≠ 3 → b ≠ 4 → vRwA V t b = V b := fun b h0 h1 h2 h3 h4 => vRwA_k V t h0 h1 h2 h3 h4
  first | refine g_aload_n C dX2_makeVersion_0 rfl ?_ | refine g_aload_nq C _ dX2_makeVersion_0 rfl ?_
  refine cg_latestVersion C i2 (by decide +kernel) dX2_makeVersion_1 ?_
  rw [h2]
  refine g_iconst C 1 dX2_makeVersion_4 (by decide) ?_
  first | refine g_iadd C dX2_makeVersion_5 ?_ | refine g_iaddx C dX2_makeVersion_5 ?_
  refine g_istore_n C dX2_makeVersion_6 (by decide) ?_
  first | refine g_aload_n C dX2_makeVersion_7 rfl ?_ | refine g_aload_nq C _ dX2_makeVersion_7 rfl ?_
  first | refine g_aload_n C dX2_makeVersion_8 rfl ?_ | refine g_aload_nq C _ dX2_makeVersion_8 rfl ?_
  refine g_iload_n C dX2_makeVersion_9 rfl ?_
  refine g_callC C (k_X2_addChanges l D g A xa _ _ _ _ hB hN hN2 hI hR hrc hRw t ht hw hw2 (tx O t) rfl) gX2_makeVersion_X2_addChanges dX2_makeVersion_10 (n := 2) rfl rfl rfl (by decide +kernel) ⟨Nat.le_of_ble_eq_true rfl, Nat.le_of_ble_eq_true rfl⟩ rfl rfl (Nat.le_of_ble_eq_true rfl) ⟨Nat.le_of_ble_eq_true rfl, Nat.le_of_ble_eq_true rfl⟩ (fun r I1 O1 L1 K1 hq => ?_)
  obtain ⟨hO2, hB1, hI1, ⟨own1, hR1⟩, hr⟩ := hq
  have hA : vRwA V t = if vRws V t (V 4 0 + 1) 200 3 0 = V 3 0 then vRws V t (V 4 0 + 1) 200 else u2 (vRws V t (V 4 0 + 1) 200) 4 0 (V 4 0 + 1) := rfl
  have hNm : vNum V t = if vRws V t (V 4 0 + 1) 200 3 0 = V 3 0 then V 7 t else V 4 0 + 1 := rfl
  have h3 := vRws_3 V t (V 4 0 + 1) 200
  have eW : ∀ x, x ≠ 0 → x ≠ 1 → x ≠ 2 → x ≠ 3 → vRws V t (V 4 0 + 1) 200 x = V x := fun x h0 h1 h2 h3 => vRws_k V t _ h0 h1 h2 h3 200
  obtain ⟨W, hWd⟩ : ∃ W, W = vRws V t (V 4 0 + 1) 200 := ⟨_, rfl⟩
  rw [← hWd] at hI1 hR1 hr hA hNm h3 eW
  rw [hr]
  have htW : t < W 16 0 := by rw [eW 16 (by decide) (by decide) (by decide) (by decide)]; exact ht
  obtain ⟨-, tL, tK, -, -, h14, -, -, -⟩ := hR1.2.1 t htW
  rw [tx_cong hO2, eW 7 (by decide) (by decide) (by decide) (by decide)] at h14
  rw [tx_cong hO2] at tL tK
  refine g_if_le C 24 dX2_makeVersion_13 (by decide) (by omega) (fun c13 => ?_) (fun c13 => ?_)
  · first | refine g_aload_n C dX2_makeVersion_24 rfl ?_ | refine g_aload_nq C _ dX2_makeVersion_24 rfl ?_
    refine tg_sees C (by assumption) (by assumption) i1 (by decide +kernel) dX2_makeVersion_25 ?_
    rw [h14]
    refine g_istore_n C dX2_makeVersion_28 (by decide) ?_
    have hBf := hB1
    have hAf : vRwA V t = W := by rw [hA, if_pos (show W 3 0 = V 3 0 by omega)]
    have hRf : RC (vRwA V t) I1 O1 L1 K1 own1 := by rw [hAf]; exact hR1
    have hNf : vNum V t = V 7 t := by rw [hNm, if_pos (show W 3 0 = V 3 0 by omega)]
    have hrf : I1 1 0 = vRwA V t 3 0 := by rw [hAf, hI1, hrc]; omega
    first | refine g_aload_n C dX2_makeVersion_29 rfl ?_ | refine g_aload_nq C _ dX2_makeVersion_29 rfl ?_
    first | refine g_aload_n C dX2_makeVersion_30 rfl ?_ | refine g_aload_nq C _ dX2_makeVersion_30 rfl ?_
    refine g_iconst C 3 dX2_makeVersion_31 (by decide) ?_
    refine g_callC C (k_X2_finish l D g A xa _ _ _ _ hBf hN hN2 hRf t 3 (by rw [eF 16 (by decide) (by decide) (by decide) (by decide) (by decide)]; exact ht) (by decide) (by decide) (by rw [eF 16 (by decide) (by decide) (by decide) (by decide) (by decide)]; exact hC) (by rw [eF 17 (by decide) (by decide) (by decide) (by decide) (by decide), eF 16 (by decide) (by decide) (by decide) (by decide) (by decide)]; exact hI.2.2.1) (by rw [eF 16 (by decide) (by decide) (by decide) (by decide) (by decide), eF 8 (by decide) (by decide) (by decide) (by decide) (by decide), eF 11 (by decide) (by decide) (by decide) (by decide) (by decide)]; exact hWW) (by rw [eF 19 (by decide) (by decide) (by decide) (by decide) (by decide), eF 20 (by decide) (by decide) (by decide) (by decide) (by decide)]; omega) (by rw [eF 19 (by decide) (by decide) (by decide) (by decide) (by decide), eF 20 (by decide) (by decide) (by decide) (by decide) (by decide)]; exact fun j h1 h2 => by omega) (tx O t) (tx_cong hO2 t)) gX2_makeVersion_X2_finish dX2_makeVersion_32 (n := 2) rfl rfl rfl (by decide +kernel) ⟨Nat.le_of_ble_eq_true rfl, Nat.le_of_ble_eq_true rfl⟩ rfl rfl (Nat.le_of_ble_eq_true rfl) ⟨Nat.le_of_ble_eq_true rfl, Nat.le_of_ble_eq_true rfl⟩ (fun r I2 O2 L2 K2 hq => ?_)
    obtain ⟨⟨x1, x2, x3, x4⟩, hB3, hR3, rfl⟩ := hq
    rw [x1, x2]
    refine g_iload_n C dX2_makeVersion_35 rfl ?_
    exact g_iret C dX2_makeVersion_36 rfl (⟨I2, O2, L1, K1, rfl, (x4 2 (by decide) (by decide) (by decide) (by decide) (by decide)).trans hO2, hB3, by rw [x3 1 (by decide)]; exact hrf, ⟨own1, hR3⟩, by rw [hNf]⟩)
  · first | refine g_aload_n C dX2_makeVersion_16 rfl ?_ | refine g_aload_nq C _ dX2_makeVersion_16 rfl ?_
    refine g_iload_n C dX2_makeVersion_17 rfl ?_
    refine cp_latestVersion C i2 (by decide +kernel) dX2_makeVersion_18 ?_
    refine g_goto C 29 dX2_makeVersion_21 (by decide) ?_
    have hBf : BdN (u2 I1 2 0 (V 4 0 + 1)) N := hB1.up (by omega)
    have hAf : vRwA V t = u2 W 4 0 (V 4 0 + 1) := by rw [hA, if_neg (show ¬ W 3 0 = V 3 0 by omega)]
    have hRf : RC (vRwA V t) (u2 I1 2 0 (V 4 0 + 1)) O1 L1 K1 own1 := by
      rw [hAf]
      obtain ⟨hS, hT, hM, hH, hNw, hQ⟩ := hR1
      refine ⟨?_, hT.cong ⟨rfl, rfl, rfl, rfl, rfl, rfl, rfl, rfl⟩ ⟨rfl, rfl, rfl, rfl, rfl, rfl, rfl⟩ ⟨rfl, rfl⟩, hM.cong ⟨rfl, rfl⟩ ⟨rfl, fun g9 => by simp only [u2]; rw [if_neg (by omega)]⟩ ⟨rfl, rfl⟩, hH.cong ⟨rfl, rfl⟩ rfl ⟨rfl, rfl⟩, hNw.cong ⟨rfl, rfl, rfl, rfl⟩ ⟨rfl, rfl⟩ ⟨rfl, rfl⟩, hQ.cong ⟨rfl, rfl, rfl⟩ ⟨rfl, rfl, rfl, rfl⟩⟩
      obtain ⟨q1, q2, q3, q4, q5, q6, q7, q8⟩ := hS
      exact ⟨q1, by rw [u2_same, u2_same], q3, q4, q5, q6, q7, q8⟩
    have hNf : vNum V t = V 4 0 + 1 := by rw [hNm, if_neg (show ¬ W 3 0 = V 3 0 by omega)]
    have hrf : u2 I1 2 0 (V 4 0 + 1) 1 0 = vRwA V t 3 0 := by rw [hAf]; show I1 1 0 = W 3 0; rw [hI1, hrc]; omega
    first | refine g_aload_n C dX2_makeVersion_29 rfl ?_ | refine g_aload_nq C _ dX2_makeVersion_29 rfl ?_
    first | refine g_aload_n C dX2_makeVersion_30 rfl ?_ | refine g_aload_nq C _ dX2_makeVersion_30 rfl ?_
    refine g_iconst C 3 dX2_makeVersion_31 (by decide) ?_
    refine g_callC C (k_X2_finish l D g A xa _ _ _ _ hBf hN hN2 hRf t 3 (by rw [eF 16 (by decide) (by decide) (by decide) (by decide) (by decide)]; exact ht) (by decide) (by decide) (by rw [eF 16 (by decide) (by decide) (by decide) (by decide) (by decide)]; exact hC) (by rw [eF 17 (by decide) (by decide) (by decide) (by decide) (by decide), eF 16 (by decide) (by decide) (by decide) (by decide) (by decide)]; exact hI.2.2.1) (by rw [eF 16 (by decide) (by decide) (by decide) (by decide) (by decide), eF 8 (by decide) (by decide) (by decide) (by decide) (by decide), eF 11 (by decide) (by decide) (by decide) (by decide) (by decide)]; exact hWW) (by rw [eF 19 (by decide) (by decide) (by decide) (by decide) (by decide), eF 20 (by decide) (by decide) (by decide) (by decide) (by decide)]; omega) (by rw [eF 19 (by decide) (by decide) (by decide) (by decide) (by decide), eF 20 (by decide) (by decide) (by decide) (by decide) (by decide)]; exact fun j h1 h2 => by omega) (tx O t) (tx_cong hO2 t)) gX2_makeVersion_X2_finish dX2_makeVersion_32 (n := 2) rfl rfl rfl (by decide +kernel) ⟨Nat.le_of_ble_eq_true rfl, Nat.le_of_ble_eq_true rfl⟩ rfl rfl (Nat.le_of_ble_eq_true rfl) ⟨Nat.le_of_ble_eq_true rfl, Nat.le_of_ble_eq_true rfl⟩ (fun r I2 O2 L2 K2 hq => ?_)
    obtain ⟨⟨x1, x2, x3, x4⟩, hB3, hR3, rfl⟩ := hq
    rw [x1, x2]
    refine g_iload_n C dX2_makeVersion_35 rfl ?_
    exact g_iret C dX2_makeVersion_36 rfl (⟨I2, O2, L1, K1, rfl, (x4 2 (by decide) (by decide) (by decide) (by decide) (by decide)).trans hO2, hB3, by rw [x3 1 (by decide)]; exact hrf, ⟨own1, hR3⟩, by rw [hNf]⟩)
