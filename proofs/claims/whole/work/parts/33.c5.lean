set_option maxRecDepth 100000 in
set_option maxHeartbeats 1000000 in
theorem k_X2_finish (l : Launch) (D : va_G) (g : Nat → ClassId) (A : Nat → Prop) (xa : Nat → Nat) (I : VV) (O : OO) (L : List Nat) (K : Nat → Nat) {N : Nat} (hB : BdN I N) (hN : N ≤ 2 ^ 30) (hN2 : 20000 ≤ N) {V : VV} {own : Nat → Nat} (hR : RC V I O L K own) (t z : Nat) (ht : t < V 16 0) (hz1 : 3 ≤ z) (hz2 : z ≤ 4) (hC : V 16 0 ≤ 60) (h17 : ∀ k, k < 200 → V 17 k ≤ V 16 0) (hW : ∀ i, i < V 16 0 → V 8 i = 1 → 0 < V 11 i ∧ V 11 i ≤ V 16 0) (hft : V 19 0 ≤ V 20 0) (hq9 : ∀ j, V 19 0 ≤ j → j < V 20 0 → V 18 j < V 16 0 ∧ ¬ (V 8 (V 18 j) = 1 ∧ V 11 (V 18 j) = t + 1)) (a : Nat) (ha : tx O t = a) : CC l yX2_finish wsX2_finish ({ frames := 2, cells := 0, slots := 0, locals := 48 } : Room) 0 0 D g A xa [.ref (xa 0), .ref a, .int (nI z)] I O L K (fun r I1 O1 L1 K1 => (L1 = L ∧ K1 = K ∧ (∀ b, b ≠ 16 → I1 b = I b) ∧ ∀ b, b ≠ 0 → b ≠ 1 → b ≠ 4 → b ≠ 7 → b ≠ 8 → O1 b = O b) ∧ BdN I1 N ∧ RC (vEnd V t z) I1 O1 L K own ∧ r = none) := by
  subst ha
  refine k_ofW [(0, .ref (xa 0)), (1, .ref (tx O t)), (2, .int (nI z))] (by decide) rfl (Nat.le_of_ble_eq_true rfl) rfl (by simp [Value.category, vcat_rf]) ?_
  intro p e s m args below meth c C
  have i1 : ∀ w ∈ wsX10, w ∈ wsX2_finish := by decide +kernel
  have i2 : ∀ w ∈ wsX20, w ∈ wsX2_finish := by decide +kernel
  obtain ⟨hS, hT, hM, hH, hNw, hQ⟩ := hR
  obtain ⟨-, tL, tK, -⟩ := hT t ht
  have hTs := hT.setS (z := z) ht (by omega)
  have hB1 : BdN (u2 I 16 (tx O t) z) N := hB.up (by omega)
  have loop : ∀ (n i : Nat) (Ok : OO), 200 - i = n → i ≤ 200 → (∀ b, b ≠ 4 → Ok b = u2 O 7 (tx O t) none b) → RH (vClr (u2 V 8 t z) t i) (u2 I 16 (tx O t) z) Ok → GG p l e ({ frames := 2, cells := 0, slots := 0, locals := 48 } : Room) s m args below meth c (cQ below D g A xa args s 0 0 (fun r I1 O1 L1 K1 => (L1 = L ∧ K1 = K ∧ (∀ b, b ≠ 16 → I1 b = I b) ∧ ∀ b, b ≠ 0 → b ≠ 1 → b ≠ 4 → b ≠ 7 → b ≠ 8 → O1 b = O b) ∧ BdN I1 N ∧ RC (vEnd V t z) I1 O1 L K own ∧ r = none)) 4 D A s.heap (cW g xa (u2 I 16 (tx O t) z) Ok L K) (0) (0) 12 [(0, .ref (xa 0)), (1, .ref (tx O t)), (2, .int (nI z)), (3, .int (nI i))] [] := by
    intro n
    induction n using Nat.strongRecOn with
    | _ n ih =>
      intro i Ok hn hi hOk hHk
      have eO2 : Ok 2 = O 2 := hOk 2 (by decide)
      have etx : ∀ j, tx Ok j = tx O j := tx_cong eO2
      have hk : ∀ b, b ≠ 17 → vClr (u2 V 8 t z) t i b = u2 V 8 t z b := fun b hb => vClr_k hb
      have hTk : RT (vClr (u2 V 8 t z) t i) (u2 I 16 (tx O t) z) Ok L K := hTs.cong ⟨hk 16 (by decide), hk 6 (by decide), hk 7 (by decide), hk 8 (by decide), hk 11 (by decide), hk 12 (by decide), hk 13 (by decide), hk 14 (by decide)⟩ ⟨rfl, rfl, rfl, rfl, rfl, rfl, rfl⟩ ⟨eO2, hOk 7 (by decide)⟩
      have hold := RH.holds (t := t) hTk hHk (by rw [hk 16 (by decide)]; exact ht) (fun k9 hk9 => by rw [hk 16 (by decide)]; exact Nat.le_trans (vClr_le _ _ _ _ _) (h17 k9 hk9))
      refine g_iload_n C dX2_finish_12 rfl ?_
      refine g_sipush C 200 dX2_finish_13 (by decide) ?_
      refine g_icmp_ge C 42 dX2_finish_16 (by decide) (by omega) (by decide) (fun c16 => ?_) (fun c16 => ?_)
      · have hSk : RS (vClr (u2 V 8 t z) t i) (u2 I 16 (tx O t) z) := hS.cong ⟨hk 16 (by decide), hk 4 (by decide), hk 22 (by decide), hk 15 (by decide), hk 5 (by decide), hk 23 (by decide), hk 24 (by decide), hk 21 (by decide)⟩ ⟨rfl, rfl, rfl, rfl, rfl, rfl, rfl, rfl⟩
        have hQk : RQ (vClr (u2 V 8 t z) t i) Ok := hQ.cong ⟨hk 18 (by decide), hk 19 (by decide), hk 20 (by decide)⟩ ⟨hOk 0 (by decide), hOk 1 (by decide), eO2, hOk 8 (by decide)⟩
        have hWk : ∀ j, j < vClr (u2 V 8 t z) t i 16 0 → vClr (u2 V 8 t z) t i 8 j = 1 → 0 < vClr (u2 V 8 t z) t i 11 j ∧ vClr (u2 V 8 t z) t i 11 j ≤ vClr (u2 V 8 t z) t i 16 0 := fun j h1 h2 => by
          rw [hk 16 (by decide)] at h1 ⊢
          rw [hk 8 (by decide)] at h2
          rw [hk 11 (by decide)]
          have hne : j ≠ t := fun y => by rw [y, u2_same] at h2; omega
          rw [u2_ni _ _ _ _ hne] at h2
          exact hW j h1 h2
        have hftk : vClr (u2 V 8 t z) t i 19 0 ≤ vClr (u2 V 8 t z) t i 20 0 := by rw [hk 19 (by decide), hk 20 (by decide)]; exact hft
        have hq9k : ∀ j, vClr (u2 V 8 t z) t i 19 0 ≤ j → j < vClr (u2 V 8 t z) t i 20 0 → vClr (u2 V 8 t z) t i 18 j < vClr (u2 V 8 t z) t i 16 0 ∧ ¬ (vClr (u2 V 8 t z) t i 8 (vClr (u2 V 8 t z) t i 18 j) = 1 ∧ vClr (u2 V 8 t z) t i 11 (vClr (u2 V 8 t z) t i 18 j) = t + 1) := fun j h1 h2 => by
          rw [hk 19 (by decide)] at h1
          rw [hk 20 (by decide)] at h2
          rw [hk 18 (by decide), hk 16 (by decide), hk 8 (by decide), hk 11 (by decide)]
          have h9 := hq9 j h1 h2
          refine ⟨h9.1, fun y => ?_⟩
          have y1 : u2 V 8 t z 8 (V 18 j) = 1 := y.1
          have hne : V 18 j ≠ t := fun q => by rw [q, u2_same] at y1; omega
          rw [u2_ni _ _ _ _ hne] at y1
          exact h9.2 ⟨y1, y.2⟩
        first | refine g_aload_n C dX2_finish_42 rfl ?_ | refine g_aload_nq C _ dX2_finish_42 rfl ?_
        first | refine g_aload_n C dX2_finish_43 rfl ?_ | refine g_aload_nq C _ dX2_finish_43 rfl ?_
        refine g_callC C (k_X2_queueThoseWaitingFor l D g A xa _ _ _ _ hB1 hN hSk hTk hQk t (by rw [hk 16 (by decide)]; exact ht) (by rw [hk 16 (by decide)]; exact hC) hWk hftk hq9k (tx O t) (etx t)) gX2_finish_X2_queueThoseWaitingFor dX2_finish_44 (n := 1) rfl rfl rfl (by decide +kernel) ⟨Nat.le_of_ble_eq_true rfl, Nat.le_of_ble_eq_true rfl⟩ rfl rfl (Nat.le_of_ble_eq_true rfl) ⟨by omega, by omega⟩ (fun r I1 O1 L1 K1 hq => ?_)
        obtain ⟨⟨x1, x2, x3⟩, hO1, hQ1, rfl⟩ := hq
        rw [x1, x2, x3]
        have hi200 : i = 200 := by omega
        subst hi200
        have hend : vEnq 61 (vClr (u2 V 8 t z) t 200) t 0 = vEnd V t z := rfl
        have ek : ∀ b, b ≠ 18 → b ≠ 20 → vEnq 61 (vClr (u2 V 8 t z) t 200) t 0 b = vClr (u2 V 8 t z) t 200 b := fun b h1 h2 => vEnq_k _ _ _ _ _ h1 h2
        have ek2 : ∀ b, b ≠ 18 → b ≠ 20 → b ≠ 17 → vEnq 61 (vClr (u2 V 8 t z) t 200) t 0 b = u2 V 8 t z b := fun b h1 h2 h3 => (ek b h1 h2).trans (hk b h3)
        have eO2' : O1 2 = Ok 2 := hO1 2 (by decide) (by decide) (by decide)
        have eO2'' : O1 2 = O 2 := eO2'.trans eO2
        have hSe : RS (vEnq 61 (vClr (u2 V 8 t z) t 200) t 0) (u2 I 16 (tx O t) z) := hS.cong ⟨ek2 16 (by decide) (by decide) (by decide), ek2 4 (by decide) (by decide) (by decide), ek2 22 (by decide) (by decide) (by decide), ek2 15 (by decide) (by decide) (by decide), ek2 5 (by decide) (by decide) (by decide), ek2 23 (by decide) (by decide) (by decide), ek2 24 (by decide) (by decide) (by decide), ek2 21 (by decide) (by decide) (by decide)⟩ ⟨rfl, rfl, rfl, rfl, rfl, rfl, rfl, rfl⟩
        have hTe : RT (vEnq 61 (vClr (u2 V 8 t z) t 200) t 0) (u2 I 16 (tx O t) z) O1 L K := hTk.cong ⟨ek 16 (by decide) (by decide), ek 6 (by decide) (by decide), ek 7 (by decide) (by decide), ek 8 (by decide) (by decide), ek 11 (by decide) (by decide), ek 12 (by decide) (by decide), ek 13 (by decide) (by decide), ek 14 (by decide) (by decide)⟩ ⟨rfl, rfl, rfl, rfl, rfl, rfl, rfl⟩ ⟨eO2', hO1 7 (by decide) (by decide) (by decide)⟩
        have hMe : RM (vEnq 61 (vClr (u2 V 8 t z) t 200) t 0) (u2 I 16 (tx O t) z) O1 L K := hM.cong ⟨ek2 16 (by decide) (by decide) (by decide), ek2 9 (by decide) (by decide) (by decide)⟩ ⟨rfl, fun g9 => by show (if 20 + g9 = 16 then _ else _) = _; rw [if_neg (by omega)]⟩ ⟨eO2'', (hO1 6 (by decide) (by decide) (by decide)).trans (hOk 6 (by decide))⟩
        have hHe : RH (vEnq 61 (vClr (u2 V 8 t z) t 200) t 0) (u2 I 16 (tx O t) z) O1 := hHk.cong ⟨ek 17 (by decide) (by decide), ek 10 (by decide) (by decide)⟩ rfl ⟨eO2', hO1 4 (by decide) (by decide) (by decide)⟩
        have hNe : RN (vEnq 61 (vClr (u2 V 8 t z) t 200) t 0) (u2 I 16 (tx O t) z) O1 L K own := hNw.cong ⟨ek2 0 (by decide) (by decide) (by decide), ek2 1 (by decide) (by decide) (by decide), ek2 2 (by decide) (by decide) (by decide), ek2 3 (by decide) (by decide) (by decide)⟩ ⟨rfl, rfl⟩ ⟨(hO1 3 (by decide) (by decide) (by decide)).trans (hOk 3 (by decide)), (hO1 5 (by decide) (by decide) (by decide)).trans (hOk 5 (by decide))⟩
        exact g_vret C dX2_finish_47 rfl (⟨_, O1, L, K, rfl, ⟨rfl, rfl, fun b hb => by show (if b = 16 then _ else _) = _; rw [if_neg hb], fun b h0 h1 h4 h7 h8 => by rw [hO1 b h0 h1 h8, hOk b h4]; show (if b = 7 then _ else _) = _; rw [if_neg h7]⟩, hB1, hend ▸ ⟨hSe, hTe, hMe, hHe, hNe, hQ1⟩, rfl⟩)
      · first | refine g_aload_n C dX2_finish_19 rfl ?_ | refine g_aload_nq C _ dX2_finish_19 rfl ?_
        refine cg_holder C i2 (by decide +kernel) dX2_finish_20 ?_
        refine g_iload_n C dX2_finish_23 rfl ?_
        refine cl_holder C dX2_finish_24 (by omega) ?_
        first | refine g_aload_n C dX2_finish_25 rfl ?_ | refine g_aload_nq C _ dX2_finish_25 rfl ?_
        refine g_acmp_ne C _ (some (tx O t)) 36 dX2_finish_26 (by decide) (fun c26 => ?_) (fun c26 => ?_)
        · refine g_iinc C dX2_finish_36 rfl (by decide) ?_
          refine g_goto C 12 dX2_finish_39 (by decide) ?_
          exact ih _ (by omega) (i + 1) Ok rfl (by omega) hOk (by rw [vClr_no (V := u2 V 8 t z) (fun y => c26 (by rw [← etx]; exact (hold i (by omega)).mpr (by rw [vClr_at]; exact y)))]; exact hHk)
        · first | refine g_aload_n C dX2_finish_29 rfl ?_ | refine g_aload_nq C _ dX2_finish_29 rfl ?_
          refine cg_holder C i2 (by decide +kernel) dX2_finish_30 ?_
          refine g_iload_n C dX2_finish_33 rfl ?_
          refine g_null C dX2_finish_34 ?_
          first | refine csn_holder C dX2_finish_35 (by omega) ?_ | refine css_holder C (by assumption) (by assumption) dX2_finish_35 (by omega) ?_
          refine g_iinc C dX2_finish_36 rfl (by decide) ?_
          refine g_goto C 12 dX2_finish_39 (by decide) ?_
          exact ih _ (by omega) (i + 1) (u2 Ok 4 i none) rfl (by omega) (fun b hb => by rw [← hOk b hb]; show (if b = 4 then _ else _) = _; rw [if_neg hb]) (RH.clr hHk (by rw [← etx] at c26; have h9 := (hold i (by omega)).mp c26; rw [vClr_at] at h9; exact h9))
  first | refine g_aload_n C dX2_finish_0 rfl ?_ | refine g_aload_nq C _ dX2_finish_0 rfl ?_
  refine g_iload_n C dX2_finish_1 rfl ?_
  refine tp_state C (by assumption) (by assumption) i1 (by decide +kernel) dX2_finish_2 ?_
  first | refine g_aload_n C dX2_finish_5 rfl ?_ | refine g_aload_nq C _ dX2_finish_5 rfl ?_
  refine g_null C dX2_finish_6 ?_
  first | refine tp_waitsFor (r := some _) C (by assumption) (by assumption) i1 (by decide +kernel) dX2_finish_7 ?_ | refine tp_waitsFor C (by assumption) (by assumption) i1 (by decide +kernel) dX2_finish_7 ?_
  refine g_iconst C 0 dX2_finish_10 (by decide) ?_
  refine g_istore_n C dX2_finish_11 (by decide) ?_
  exact loop _ 0 _ rfl (Nat.zero_le _) (fun _ _ => rfl) (by rw [vClr_0]; exact hH.cong ⟨rfl, rfl⟩ rfl ⟨rfl, rfl⟩)
