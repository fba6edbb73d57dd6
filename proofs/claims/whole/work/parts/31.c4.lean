set_option maxRecDepth 100000 in
set_option maxHeartbeats 1000000 in
theorem k_X2_queueThoseWaitingFor (l : Launch) (D : va_G) (g : Nat → ClassId) (A : Nat → Prop) (xa : Nat → Nat) (I : VV) (O : OO) (L : List Nat) (K : Nat → Nat) {N : Nat} (hB : BdN I N) (hN : N ≤ 2 ^ 30) {V : VV} (hS : RS V I) (hT : RT V I O L K) (hQ : RQ V O) (t : Nat) (ht : t < V 16 0) (hC : V 16 0 ≤ 60) (hW : ∀ i, i < V 16 0 → V 8 i = 1 → 0 < V 11 i ∧ V 11 i ≤ V 16 0) (hft : V 19 0 ≤ V 20 0) (hq9 : ∀ j, V 19 0 ≤ j → j < V 20 0 → V 18 j < V 16 0 ∧ ¬ (V 8 (V 18 j) = 1 ∧ V 11 (V 18 j) = t + 1)) (a : Nat) (ha : tx O t = a) : CC l yX2_queueThoseWaitingFor wsX2_queueThoseWaitingFor ({ frames := 1, cells := 0, slots := 0, locals := 25 } : Room) 0 0 D g A xa [.ref (xa 0), .ref a] I O L K (fun r I1 O1 L1 K1 => (I1 = I ∧ L1 = L ∧ K1 = K) ∧ (∀ b, b ≠ 0 → b ≠ 1 → b ≠ 8 → O1 b = O b) ∧ RQ (vEnq 61 V t 0) O1 ∧ r = none) := by
  subst ha
  refine k_ofW [(0, .ref (xa 0)), (1, .ref (tx O t))] (by decide) rfl (Nat.le_of_ble_eq_true rfl) rfl (by simp [Value.category, vcat_rf]) ?_
  intro p e s m args below meth c C
  have i1 : ∀ w ∈ wsX10, w ∈ wsX2_queueThoseWaitingFor := by decide +kernel
  have i2 : ∀ w ∈ wsX20, w ∈ wsX2_queueThoseWaitingFor := by decide +kernel
  have h14 : ∀ w, w < V 16 0 → V 8 w = 1 → V 14 w + 1 < 2 ^ 30 := fun w hw h8 => by have h9 := ((hT w hw).2.2.2.2.2.2.2.2 h8).2.2; have h10 := hB 19 (tx O w); omega
  have loop : ∀ (f : Nat) (W : VV) (Ow : OO) (lp i : Nat), i + vCw V t lp (V 16 0) ≤ 60 → vCw V t lp (V 16 0) < f → vEnq f W t lp = vEnq 61 V t 0 → (∀ b, b ≠ 18 → b ≠ 20 → W b = V b) → W 19 0 ≤ W 20 0 → RQ W Ow → (∀ b, b ≠ 0 → b ≠ 1 → b ≠ 8 → Ow b = O b) → (∀ j, W 19 0 ≤ j → j < W 20 0 → W 18 j < V 16 0 ∧ (V 8 (W 18 j) = 1 → V 11 (W 18 j) = t + 1 → V 14 (W 18 j) < lp)) → GG p l e ({ frames := 1, cells := 0, slots := 0, locals := 25 } : Room) s m args below meth c (cQ below D g A xa args s 0 0 (fun r I1 O1 L1 K1 => (I1 = I ∧ L1 = L ∧ K1 = K) ∧ (∀ b, b ≠ 0 → b ≠ 1 → b ≠ 8 → O1 b = O b) ∧ RQ (vEnq 61 V t 0) O1 ∧ r = none)) 4 D A s.heap (cW g xa I Ow L K) (0) (0) 9 [(0, .ref (xa 0)), (1, .ref (tx O t)), (2, va_rf (if vNx V t lp (V 16 0) = 0 then none else some (tx O (vNx V t lp (V 16 0) - 1)))), (3, .int (nI i))] [] := by
    intro f
    induction f with
    | zero =>
      intro W Ow lp i _ h
      exact absurd h (Nat.not_lt_zero _)
    | succ f ihf =>
      intro W Ow lp i hi hf hfin hWk hWft hWQ hOw hWq
      have e2 : Ow 2 = O 2 := hOw 2 (by decide) (by decide) (by decide)
      have etx : ∀ z, tx Ow z = tx O z := tx_cong e2
      have hk : ∀ b, b ≠ 18 → b ≠ 20 → W b = V b := hWk
      have hTW : RT W I Ow L K := hT.cong ⟨hk 16 (by decide) (by decide), hk 6 (by decide) (by decide), hk 7 (by decide) (by decide), hk 8 (by decide) (by decide), hk 11 (by decide) (by decide), hk 12 (by decide) (by decide), hk 13 (by decide) (by decide), hk 14 (by decide) (by decide)⟩ ⟨rfl, rfl, rfl, rfl, rfl, rfl, rfl⟩ ⟨e2, hOw 7 (by decide) (by decide) (by decide)⟩
      have hSW : RS W I := hS.cong ⟨hk 16 (by decide) (by decide), hk 4 (by decide) (by decide), hk 22 (by decide) (by decide), hk 15 (by decide) (by decide), hk 5 (by decide) (by decide), hk 23 (by decide) (by decide), hk 24 (by decide) (by decide), hk 21 (by decide) (by decide)⟩ ⟨rfl, rfl, rfl, rfl, rfl, rfl, rfl, rfl⟩
      have hnx : ∀ z q, vNx W t z q = vNx V t z q := vNx_cong (hk 8 (by decide) (by decide)) (hk 11 (by decide) (by decide)) (hk 14 (by decide) (by decide))
      have e16 : W 16 0 = V 16 0 := by rw [hk 16 (by decide) (by decide)]
      refine g_iload_n C dX2_queueThoseWaitingFor_9 rfl ?_
      refine g_bipush C 60 dX2_queueThoseWaitingFor_10 (by decide) ?_
      refine g_icmp_ge C 40 dX2_queueThoseWaitingFor_12 (by decide) (by omega) (by decide) (fun c12 => ?_) (fun c12 => ?_)
      · exact g_vret C dX2_queueThoseWaitingFor_40 rfl (⟨I, Ow, L, K, rfl, ⟨rfl, rfl, rfl⟩, hOw, by rw [← hfin, vEnq_stop (V := W) (t := t) (lp := lp) (by rw [hnx, e16]; rcases Nat.eq_zero_or_pos (vNx V t lp (V 16 0)) with z | z; exact z; exact absurd (vCw_less z) (by omega)) (f + 1)]; exact hWQ, rfl⟩)
      · refine g_aload_nq C (if vNx V t lp (V 16 0) = 0 then none else some (tx O (vNx V t lp (V 16 0) - 1))) dX2_queueThoseWaitingFor_15 rfl ?_
        refine g_ifnull C 40 dX2_queueThoseWaitingFor_16 (by decide) (fun c16 => ?_) (fun a16 c16 => ?_)
        · exact g_vret C dX2_queueThoseWaitingFor_40 rfl (⟨I, Ow, L, K, rfl, ⟨rfl, rfl, rfl⟩, hOw, by rw [← hfin, vEnq_stop (V := W) (t := t) (lp := lp) (by rw [hnx, e16]; by_cases z : vNx V t lp (V 16 0) = 0; exact z; rw [if_neg z] at c16; exact absurd c16 (by simp)) (f + 1)]; exact hWQ, rfl⟩)
        · have hb0 : 0 < vNx V t lp (V 16 0) := Nat.pos_of_ne_zero (fun z => by rw [if_pos z] at c16; exact absurd c16 (by simp))
          have hs := vNx_spec V t lp _ hb0
          have hl := vCw_less hb0
          obtain ⟨b, hb⟩ : ∃ b, b = vNx V t lp (V 16 0) - 1 := ⟨_, rfl⟩
          rw [if_neg (show ¬ vNx V t lp (V 16 0) = 0 by omega)]
          rw [← hb] at hs hl ⊢
          have hbn : b < V 16 0 := by omega
          obtain ⟨-, tL, tK, -⟩ := hT b hbn
          have h19b := ((hT b hbn).2.2.2.2.2.2.2.2 hs.2.1).2.2
          have hg := vEnq_go (V := W) (t := t) (lp := lp) (by rw [hnx, e16]; exact hb0) f
          rw [hnx, e16, ← hb, hk 14 (by decide) (by decide)] at hg
          first | refine g_aload_n C dX2_queueThoseWaitingFor_19 rfl ?_ | refine g_aload_nq C _ dX2_queueThoseWaitingFor_19 rfl ?_
          refine g_aload_nq C (some (tx O b)) dX2_queueThoseWaitingFor_20 rfl ?_
          refine g_callC C (k_X2_addToQueue l D g A xa _ _ _ _ hTW hWQ b (by rw [e16]; exact hbn) hWft (fun j h1 h2 => ⟨by rw [e16]; exact (hWq j h1 h2).1, fun z => by have h9 := (hWq j h1 h2).2 (by rw [z]; exact hs.2.1) (by rw [z]; exact hs.2.2.1); rw [z] at h9; have := hs.2.2.2; omega⟩) (tx O b) (etx b)) gX2_queueThoseWaitingFor_X2_addToQueue dX2_queueThoseWaitingFor_21 (n := 1) rfl rfl rfl (by decide +kernel) ⟨Nat.le_of_ble_eq_true rfl, Nat.le_of_ble_eq_true rfl⟩ rfl rfl (Nat.le_of_ble_eq_true rfl) ⟨by omega, by omega⟩ (fun r IA OA LA KA hq => ?_)
          obtain ⟨⟨x1, x2, x3⟩, hO1, hQ1, rfl⟩ := hq
          rw [x1, x2, x3]
          have hO1 : ∀ b, b ≠ 0 → b ≠ 1 → b ≠ 8 → OA b = O b := fun b h0 h1 h8 => (hO1 b h0 h1 h8).trans (hOw b h0 h1 h8)
          have e2A : OA 2 = O 2 := hO1 2 (by decide) (by decide) (by decide)
          have etxA : ∀ z, tx OA z = tx O z := tx_cong e2A
          have hkA : ∀ b9, b9 ≠ 18 → b9 ≠ 20 → vPush W b b9 = V b9 := fun b9 h1 h2 => by rw [← hk b9 h1 h2]; unfold vPush u2; rw [if_neg h2, if_neg h1]
          have hTA : RT (vPush W b) I OA L K := hT.cong ⟨hkA 16 (by decide) (by decide), hkA 6 (by decide) (by decide), hkA 7 (by decide) (by decide), hkA 8 (by decide) (by decide), hkA 11 (by decide) (by decide), hkA 12 (by decide) (by decide), hkA 13 (by decide) (by decide), hkA 14 (by decide) (by decide)⟩ ⟨rfl, rfl, rfl, rfl, rfl, rfl, rfl⟩ ⟨e2A, hO1 7 (by decide) (by decide) (by decide)⟩
          have hSA : RS (vPush W b) I := hS.cong ⟨hkA 16 (by decide) (by decide), hkA 4 (by decide) (by decide), hkA 22 (by decide) (by decide), hkA 15 (by decide) (by decide), hkA 5 (by decide) (by decide), hkA 23 (by decide) (by decide), hkA 24 (by decide) (by decide), hkA 21 (by decide) (by decide)⟩ ⟨rfl, rfl, rfl, rfl, rfl, rfl, rfl, rfl⟩
          have hWA : ∀ i, i < vPush W b 16 0 → vPush W b 8 i = 1 → 0 < vPush W b 11 i ∧ vPush W b 11 i ≤ vPush W b 16 0 := fun i h1 h2 => by rw [hkA 16 (by decide) (by decide)] at h1 ⊢; rw [hkA 8 (by decide) (by decide)] at h2; rw [hkA 11 (by decide) (by decide)]; exact hW i h1 h2
          have hnxA : ∀ z q, vNx (vPush W b) t z q = vNx V t z q := vNx_cong (hkA 8 (by decide) (by decide)) (hkA 11 (by decide) (by decide)) (hkA 14 (by decide) (by decide))
          have e20A : vPush W b 20 0 = W 20 0 + 1 := by unfold vPush; rw [u2_same]
          first | refine g_aload_n C dX2_queueThoseWaitingFor_24 rfl ?_ | refine g_aload_nq C _ dX2_queueThoseWaitingFor_24 rfl ?_
          first | refine g_aload_n C dX2_queueThoseWaitingFor_25 rfl ?_ | refine g_aload_nq C _ dX2_queueThoseWaitingFor_25 rfl ?_
          refine g_aload_nq C (some (tx O b)) dX2_queueThoseWaitingFor_26 rfl ?_
          refine tg_beganToWait C (by assumption) (by assumption) i1 (by decide +kernel) dX2_queueThoseWaitingFor_27 ?_
          rw [h19b]
          refine g_callC C (k_X2_firstWaitingFor l D g A xa _ _ _ _ hB hN hSA hTA t (V 14 b + 1) (by rw [hkA 16 (by decide) (by decide)]; exact ht) (h14 b hbn hs.2.1) (by rw [hkA 16 (by decide) (by decide)]; exact hC) hWA (tx O t) (etxA t)) gX2_queueThoseWaitingFor_X2_firstWaitingFor dX2_queueThoseWaitingFor_30 (n := 2) rfl rfl rfl (by decide +kernel) ⟨Nat.le_of_ble_eq_true rfl, Nat.le_of_ble_eq_true rfl⟩ rfl rfl (Nat.le_of_ble_eq_true rfl) ⟨by omega, by omega⟩ (fun r I1 O1 L1 K1 hq => ?_)
          obtain ⟨⟨x1, x2, x3, x4⟩, x5⟩ := hq
          rw [x1, x2, x3, x4, x5]
          rw [hnxA, etxA, show vPush W b 16 0 = V 16 0 by rw [hkA 16 (by decide) (by decide)]]
          first | refine g_astore_n C dX2_queueThoseWaitingFor_33 (by decide) ?_ | refine g_astore_nq C dX2_queueThoseWaitingFor_33 (by decide) ?_
          refine g_iinc C dX2_queueThoseWaitingFor_34 rfl (by decide) ?_
          refine g_goto C 9 dX2_queueThoseWaitingFor_37 (by decide) ?_
          exact ihf (vPush W b) OA (V 14 b + 1) (i + 1) (by omega) (by omega) (by rw [← hfin, hg]) hkA (by rw [e20A]; exact Nat.le_succ_of_le hWft) hQ1 hO1 (fun j h1 h2 => by
            rw [e20A] at h2
            rcases (show j < W 20 0 ∨ j = W 20 0 by omega) with z | z
            · have e9 : vPush W b 18 j = W 18 j := by unfold vPush; rw [u2_nk _ _ _ _ (by decide), u2_ni _ _ _ _ (by omega)]
              rw [e9]
              have h9 := hWq j h1 z
              exact ⟨h9.1, fun y1 y2 => by have := h9.2 y1 y2; have := hs.2.2.2; omega⟩
            · have e9 : vPush W b 18 j = b := by rw [z]; unfold vPush; rw [u2_nk _ _ _ _ (by decide), u2_same]
              rw [e9]
              exact ⟨hbn, fun _ _ => by omega⟩)
  first | refine g_aload_n C dX2_queueThoseWaitingFor_0 rfl ?_ | refine g_aload_nq C _ dX2_queueThoseWaitingFor_0 rfl ?_
  first | refine g_aload_n C dX2_queueThoseWaitingFor_1 rfl ?_ | refine g_aload_nq C _ dX2_queueThoseWaitingFor_1 rfl ?_
  refine g_iconst C 0 dX2_queueThoseWaitingFor_2 (by decide) ?_
  refine g_callC C (k_X2_firstWaitingFor l D g A xa _ _ _ _ hB hN hS hT t 0 ht (by decide) hC hW (tx O t) rfl) gX2_queueThoseWaitingFor_X2_firstWaitingFor dX2_queueThoseWaitingFor_3 (n := 2) rfl rfl rfl (by decide +kernel) ⟨Nat.le_of_ble_eq_true rfl, Nat.le_of_ble_eq_true rfl⟩ rfl rfl (Nat.le_of_ble_eq_true rfl) ⟨by omega, by omega⟩ (fun r I1 O1 L1 K1 hq => ?_)
  obtain ⟨⟨x1, x2, x3, x4⟩, x5⟩ := hq
  rw [x1, x2, x3, x4, x5]
  first | refine g_astore_n C dX2_queueThoseWaitingFor_6 (by decide) ?_ | refine g_astore_nq C dX2_queueThoseWaitingFor_6 (by decide) ?_
  refine g_iconst C 0 dX2_queueThoseWaitingFor_7 (by decide) ?_
  refine g_istore_n C dX2_queueThoseWaitingFor_8 (by decide) ?_
  exact loop 61 V O 0 0 (by have := vCw_le V t 0 (V 16 0); omega) (by have := vCw_le V t 0 (V 16 0); omega) rfl (fun _ _ _ => rfl) hft hQ (fun _ _ _ _ => rfl) (fun j h1 h2 => ⟨(hq9 j h1 h2).1, fun y1 y2 => absurd ⟨y1, y2⟩ (hq9 j h1 h2).2⟩)
