set_option maxRecDepth 100000 in
set_option maxHeartbeats 1000000 in
theorem k_X2_beginToWait (l : Launch) (D : va_G) (g : Nat → ClassId) (A : Nat → Prop) (xa : Nat → Nat) (I : VV) (O : OO) (L : List Nat) (K : Nat → Nat) {N : Nat} (hB : BdN I N) (hN : N ≤ 2 ^ 30) {V : VV} {own : Nat → Nat} (hN2 : 20000 ≤ N) (hN3 : N + 1 ≤ 2 ^ 30) (hI : Iv V) (hJ : Jq V) (t k b : Nat) (ht : t < V 16 0) (hl : V 8 t < 3) (hk : k < 200) (hb : b ≤ 1) (hqt : ∀ j, V 19 0 ≤ j → j < V 20 0 → V 18 j ≠ t) (hR : RC (u2 (u2 V 11 t 0) 8 t 0) I O L K own) (h17p : 0 < V 17 k) (a : Nat) (ha : tx O t = a) : CC l yX2_beginToWait wsX2_beginToWait ({ frames := 3, cells := 0, slots := 0, locals := 71 } : Room) 0 0 D g A xa [.ref (xa 0), .ref a, .int (nI k), .int (nI b)] I O L K (fun r I1 O1 L1 K1 => (L1 = L ∧ K1 = K ∧ I1 1 = I 1 ∧ O1 2 = O 2) ∧ BdN I1 (N + 1) ∧ RC (vRing (vWt (u2 (u2 V 11 t 0) 8 t 0) t k b) t) I1 O1 L K own ∧ r = none) := by
  subst ha
  refine k_ofW [(0, .ref (xa 0)), (1, .ref (tx O t)), (2, .int (nI k)), (3, .int (nI b))] (by decide) rfl (Nat.le_of_ble_eq_true rfl) rfl (by simp [Value.category, vcat_rf]) ?_
  intro p e s m args below meth c C
  have i1 : ∀ w ∈ wsX10, w ∈ wsX2_beginToWait := by decide +kernel
  have i2 : ∀ w ∈ wsX20, w ∈ wsX2_beginToWait := by decide +kernel
  obtain ⟨hS, hT, hM, hH, hNw, hQ⟩ := hR
  obtain ⟨-, tL, tK, -⟩ := hT t ht
  have hO4 : O 4 k = some (tx O (V 17 k - 1)) := by have h9 : O 4 k = (if V 17 k = 0 then none else some (tx O (V 17 k - 1))) := (hH k hk).1; rw [h9, if_neg (show ¬ V 17 k = 0 by omega)]
  have h15 : I 4 0 = V 15 0 := hS.2.2.2.1
  have hTw := hT.wait (k := k) (b := b) ht hO4 h15
  obtain ⟨W, hWd⟩ : ∃ W, W = vWt (u2 (u2 V 11 t 0) 8 t 0) t k b := ⟨_, rfl⟩
  have hIW : Iv W := by rw [hWd]; exact hI.wtV ht hl hk hb h17p
  have hJW : Jq W := by rw [hWd]; exact hJ.wtV hl hqt
  have htW : t < W 16 0 := by rw [hWd]; exact ht
  have hCW := hIW.1
  have hWW : ∀ i, i < W 16 0 → W 8 i = 1 → 0 < W 11 i ∧ W 11 i ≤ W 16 0 := fun i h1 h2 => ⟨(hIW.2.1 i h1 h2).1, (hIW.2.1 i h1 h2).2.1⟩
  obtain ⟨J, hJd⟩ : ∃ J, J = u2 (u2 (u2 (u2 (u2 I 4 0 (I 4 0 + 1)) 16 (tx O t) 1) 17 (tx O t) k) 18 (tx O t) b) 19 (tx O t) (I 4 0 + 1) := ⟨_, rfl⟩
  obtain ⟨P, hPd⟩ : ∃ P, P = u2 O 7 (tx O t) (O 4 k) := ⟨_, rfl⟩
  have hBJ : BdN J (N + 1) := by rw [hJd]; have hM1 := hB.mono (Nat.le_succ N); have h40 := hB 4 0; exact ((((hM1.up (by omega)).up (by omega)).up (by omega)).up (by omega)).up (by omega)
  have eP : ∀ x9, x9 ≠ 7 → P x9 = O x9 := fun x9 h9 => by rw [hPd]; show (if x9 = 7 then _ else _) = _; rw [if_neg h9]
  have etP : ∀ z, tx P z = tx O z := tx_cong (eP 2 (by decide))
  have eW : ∀ x9, x9 ≠ 8 → x9 ≠ 11 → x9 ≠ 12 → x9 ≠ 13 → x9 ≠ 14 → x9 ≠ 15 → W x9 = V x9 := fun x9 h1 h2 h3 h4 h5 h6 => by rw [hWd]; unfold vWt; simp only [u2, if_neg h1, if_neg h2, if_neg h3, if_neg h4, if_neg h5, if_neg h6]
  have eJ : ∀ x9, x9 ≠ 4 → x9 ≠ 16 → x9 ≠ 17 → x9 ≠ 18 → x9 ≠ 19 → J x9 = I x9 := fun x9 h1 h2 h3 h4 h5 => by rw [hJd]; simp only [u2, if_neg h1, if_neg h2, if_neg h3, if_neg h4, if_neg h5]
  have hTW : RT W J P L K := by rw [hWd, hJd, hPd]; exact hTw
  have hSW : RS W J := by
    obtain ⟨q1, q2, q3, q4, q5, q6, q7, q8⟩ := hS
    unfold RS
    rw [eW 16 (by decide) (by decide) (by decide) (by decide) (by decide) (by decide), eW 4 (by decide) (by decide) (by decide) (by decide) (by decide) (by decide), eW 22 (by decide) (by decide) (by decide) (by decide) (by decide) (by decide), eW 5 (by decide) (by decide) (by decide) (by decide) (by decide) (by decide), eW 23 (by decide) (by decide) (by decide) (by decide) (by decide) (by decide), eW 24 (by decide) (by decide) (by decide) (by decide) (by decide) (by decide), eW 21 (by decide) (by decide) (by decide) (by decide) (by decide) (by decide), eJ 0 (by decide) (by decide) (by decide) (by decide) (by decide), eJ 2 (by decide) (by decide) (by decide) (by decide) (by decide), eJ 3 (by decide) (by decide) (by decide) (by decide) (by decide), eJ 5 (by decide) (by decide) (by decide) (by decide) (by decide), eJ 7 (by decide) (by decide) (by decide) (by decide) (by decide), eJ 8 (by decide) (by decide) (by decide) (by decide) (by decide), eJ 9 (by decide) (by decide) (by decide) (by decide) (by decide)]
    refine ⟨q1, q2, q3, ?_, q5, q6, q7, q8⟩
    have e1 : J 4 0 = I 4 0 + 1 := by rw [hJd]; simp [u2_eq]
    have e2 : W 15 0 = V 15 0 + 1 := by rw [hWd]; unfold vWt; simp [u2_eq]
    rw [e1, e2, h15]
  have hMW : RM W J P L K := hM.cong ⟨eW 16 (by decide) (by decide) (by decide) (by decide) (by decide) (by decide), eW 9 (by decide) (by decide) (by decide) (by decide) (by decide) (by decide)⟩ ⟨eJ 15 (by decide) (by decide) (by decide) (by decide) (by decide), fun g9 => eJ (20 + g9) (by omega) (by omega) (by omega) (by omega) (by omega)⟩ ⟨eP 2 (by decide), eP 6 (by decide)⟩
  have hHW : RH W J P := hH.cong ⟨eW 17 (by decide) (by decide) (by decide) (by decide) (by decide) (by decide), eW 10 (by decide) (by decide) (by decide) (by decide) (by decide) (by decide)⟩ (eJ 6 (by decide) (by decide) (by decide) (by decide) (by decide)) ⟨eP 2 (by decide), eP 4 (by decide)⟩
  have hNW : RN W J P L K own := hNw.cong ⟨eW 0 (by decide) (by decide) (by decide) (by decide) (by decide) (by decide), eW 1 (by decide) (by decide) (by decide) (by decide) (by decide) (by decide), eW 2 (by decide) (by decide) (by decide) (by decide) (by decide) (by decide), eW 3 (by decide) (by decide) (by decide) (by decide) (by decide) (by decide)⟩ ⟨eJ 10 (by decide) (by decide) (by decide) (by decide) (by decide), eJ 11 (by decide) (by decide) (by decide) (by decide) (by decide)⟩ ⟨eP 3 (by decide), eP 5 (by decide)⟩
  have hQW : RQ W P := hQ.cong ⟨eW 18 (by decide) (by decide) (by decide) (by decide) (by decide) (by decide), eW 19 (by decide) (by decide) (by decide) (by decide) (by decide) (by decide), eW 20 (by decide) (by decide) (by decide) (by decide) (by decide) (by decide)⟩ ⟨eP 0 (by decide), eP 1 (by decide), eP 2 (by decide), eP 8 (by decide)⟩
  first | refine g_aload_n C dX2_beginToWait_0 rfl ?_ | refine g_aload_nq C _ dX2_beginToWait_0 rfl ?_
  refine g_dup C dX2_beginToWait_1 (by first | rfl | exact vcat_rf _) ?_
  refine cg_waitsBegun C i2 (by decide +kernel) dX2_beginToWait_2 ?_
  refine g_iconst C 1 dX2_beginToWait_5 (by decide) ?_
  first | refine g_iadd C dX2_beginToWait_6 ?_ | refine g_iaddx C dX2_beginToWait_6 ?_
  refine cp_waitsBegun C i2 (by decide +kernel) dX2_beginToWait_7 ?_
  first | refine g_aload_n C dX2_beginToWait_10 rfl ?_ | refine g_aload_nq C _ dX2_beginToWait_10 rfl ?_
  refine g_iconst C 1 dX2_beginToWait_11 (by decide) ?_
  refine tp_state C (by assumption) (by assumption) i1 (by decide +kernel) dX2_beginToWait_12 ?_
  first | refine g_aload_n C dX2_beginToWait_15 rfl ?_ | refine g_aload_nq C _ dX2_beginToWait_15 rfl ?_
  first | refine g_aload_n C dX2_beginToWait_16 rfl ?_ | refine g_aload_nq C _ dX2_beginToWait_16 rfl ?_
  refine cg_holder C i2 (by decide +kernel) dX2_beginToWait_17 ?_
  refine g_iload_n C dX2_beginToWait_20 rfl ?_
  refine cl_holder C dX2_beginToWait_21 (by omega) ?_
  first | refine tp_waitsFor (r := some _) C (by assumption) (by assumption) i1 (by decide +kernel) dX2_beginToWait_22 ?_ | refine tp_waitsFor C (by assumption) (by assumption) i1 (by decide +kernel) dX2_beginToWait_22 ?_
  first | refine g_aload_n C dX2_beginToWait_25 rfl ?_ | refine g_aload_nq C _ dX2_beginToWait_25 rfl ?_
  refine g_iload_n C dX2_beginToWait_26 rfl ?_
  refine tp_waitingTriple C (by assumption) (by assumption) i1 (by decide +kernel) dX2_beginToWait_27 ?_
  first | refine g_aload_n C dX2_beginToWait_30 rfl ?_ | refine g_aload_nq C _ dX2_beginToWait_30 rfl ?_
  refine g_iload_n C dX2_beginToWait_31 rfl ?_
  refine tp_waitingThere C (by omega) (by assumption) (by assumption) i1 (by decide +kernel) dX2_beginToWait_32 ?_
  first | refine g_aload_n C dX2_beginToWait_35 rfl ?_ | refine g_aload_nq C _ dX2_beginToWait_35 rfl ?_
  first | refine g_aload_n C dX2_beginToWait_36 rfl ?_ | refine g_aload_nq C _ dX2_beginToWait_36 rfl ?_
  refine cg_waitsBegun C i2 (by decide +kernel) dX2_beginToWait_37 ?_
  refine tp_beganToWait C (by assumption) (by assumption) i1 (by decide +kernel) dX2_beginToWait_40 ?_
  rw [← hPd]
  refine g_ws (show cW g xa (u2 (u2 (u2 (u2 (u2 I 4 0 (I 4 0 + 1)) 16 (tx O t) 1) 17 (tx O t) k) 18 (tx O t) b) 19 (tx O t) (u2 (u2 (u2 (u2 I 4 0 (I 4 0 + 1)) 16 (tx O t) 1) 17 (tx O t) k) 18 (tx O t) b 4 0)) P L K = cW g xa J P L K by rw [hJd]; rfl) ?_
  first | refine g_aload_n C dX2_beginToWait_43 rfl ?_ | refine g_aload_nq C _ dX2_beginToWait_43 rfl ?_
  first | refine g_aload_n C dX2_beginToWait_44 rfl ?_ | refine g_aload_nq C _ dX2_beginToWait_44 rfl ?_
  refine g_callC C (k_X2_sizeOfRingThrough l D g A xa _ _ _ _ hTW t htW hWW (tx O t) (etP t)) gX2_beginToWait_X2_sizeOfRingThrough dX2_beginToWait_45 (n := 1) rfl rfl rfl (by decide +kernel) ⟨Nat.le_of_ble_eq_true rfl, Nat.le_of_ble_eq_true rfl⟩ rfl rfl (Nat.le_of_ble_eq_true rfl) ⟨by omega, by omega⟩ (fun r I1 O1 L1 K1 hq => ?_)
  obtain ⟨⟨x1, x2, x3, x4⟩, x5⟩ := hq
  rw [x1, x2, x3, x4, x5]
  refine g_istore C dX2_beginToWait_48 (by decide) ?_
  refine g_iload C dX2_beginToWait_50 rfl ?_
  refine g_if_le C 81 dX2_beginToWait_52 (by decide) (by have := vLk_le W t 60 t 0; omega) (fun c52 => ?_) (fun c52 => ?_)
  · exact g_vret C dX2_beginToWait_81 rfl (⟨J, P, L, K, rfl, ⟨rfl, rfl, eJ 1 (by decide) (by decide) (by decide) (by decide) (by decide), eP 2 (by decide)⟩, hBJ, by rw [← hWd]; unfold vRing; rw [if_pos c52]; exact ⟨hSW, hTW, hMW, hHW, hNW, hQW⟩, rfl⟩)
  · obtain ⟨p1, p2, p3, p4⟩ := vLk_pth W t 60 t 0 c52
    have hpp : ∀ i, i < vLk W t 60 t 0 → pth W t i < W 16 0 ∧ W 8 (pth W t i) = 1 := fun i h9 => ⟨pth_lt hIW.2.1 htW i (fun j hj => p3 j (by omega)), p3 i (by omega)⟩
    first | refine g_aload_n C dX2_beginToWait_55 rfl ?_ | refine g_aload_nq C _ dX2_beginToWait_55 rfl ?_
    first | refine g_aload_n C dX2_beginToWait_56 rfl ?_ | refine g_aload_nq C _ dX2_beginToWait_56 rfl ?_
    refine g_iload C dX2_beginToWait_57 rfl ?_
    refine g_callC C (k_X2_keepRing l D g A xa _ _ _ _ hBJ (by omega) (by omega) hTW t (vLk W t 60 t 0) (by omega) hCW hpp c52 (tx O t) (etP t)) gX2_beginToWait_X2_keepRing dX2_beginToWait_59 (n := 2) rfl rfl rfl (by decide +kernel) ⟨Nat.le_of_ble_eq_true rfl, Nat.le_of_ble_eq_true rfl⟩ rfl rfl (Nat.le_of_ble_eq_true rfl) ⟨by omega, by omega⟩ (fun r I1 O1 L1 K1 hq => ?_)
    obtain ⟨⟨x1, x2, x3⟩, x4, rfl⟩ := hq
    rw [x1, x2, x3, x4]
    obtain ⟨v1, v2, v3⟩ := vTake_victim hIW.2.1 htW c52
    obtain ⟨X, hXd⟩ : ∃ X, X = vTk (vLk W t 60 t 0) (u2 W 22 0 0) t := ⟨_, rfl⟩
    obtain ⟨J2, hJ2⟩ : ∃ J2, J2 = cTk W (vLk W t 60 t 0) (u2 J 3 0 0) t := ⟨_, rfl⟩
    have eX : ∀ x9, x9 ≠ 21 → x9 ≠ 22 → X x9 = W x9 := fun x9 h1 h2 => by rw [hXd, vTk_k _ _ _ _ h1 h2]; show (if x9 = 22 then _ else _) = _; rw [if_neg h2]
    have eJ2 : ∀ x9, x9 ≠ 9 → x9 ≠ 3 → J2 x9 = J x9 := fun x9 h1 h2 => by rw [hJ2, cTk_k _ _ _ _ _ h1 h2]; show (if x9 = 3 then _ else _) = _; rw [if_neg h2]
    obtain ⟨r1, r2⟩ := cTk_v W (vLk W t 60 t 0) (u2 J 3 0 0) (u2 W 22 0 0) t rfl (by rw [u2_same]; omega) (by rw [u2_same, u2_same]) hSW.2.2.2.2.2.2.2
    rw [← hJ2, ← hXd] at r1 r2
    rw [← hXd] at v1 v2 v3
    have hBJ2 : BdN J2 (N + 1) := by rw [hJ2]; exact BdN.ctk _ (hBJ.up (by omega)) (fun i h9 => by have := (hpp i h9).1; omega) (by rw [u2_same]; omega)
    have hv9 : J2 9 (vLk W t 60 t 0 - 1) = X 21 (vLk W t 60 t 0 - 1) := r2 _ (by omega)
    obtain ⟨v, hv⟩ : ∃ v, v = X 21 (vLk W t 60 t 0 - 1) := ⟨_, rfl⟩
    rw [← hv] at v2 v3 hv9
    have hSX : RS X J2 := by
      obtain ⟨q1, q2, q3, q4, q5, q6, q7, q8⟩ := hSW
      unfold RS
      rw [eX 16 (by decide) (by decide), eX 4 (by decide) (by decide), eX 15 (by decide) (by decide), eX 5 (by decide) (by decide), eX 23 (by decide) (by decide), eX 24 (by decide) (by decide), eJ2 0 (by decide) (by decide), eJ2 2 (by decide) (by decide), eJ2 4 (by decide) (by decide), eJ2 5 (by decide) (by decide), eJ2 7 (by decide) (by decide), eJ2 8 (by decide) (by decide)]
      exact ⟨q1, q2, r1, q4, q5, q6, q7, r2⟩
    have hTX : RT X J2 P L K := hTW.cong ⟨eX 16 (by decide) (by decide), eX 6 (by decide) (by decide), eX 7 (by decide) (by decide), eX 8 (by decide) (by decide), eX 11 (by decide) (by decide), eX 12 (by decide) (by decide), eX 13 (by decide) (by decide), eX 14 (by decide) (by decide)⟩ ⟨eJ2 12 (by decide) (by decide), eJ2 13 (by decide) (by decide), eJ2 14 (by decide) (by decide), eJ2 16 (by decide) (by decide), eJ2 17 (by decide) (by decide), eJ2 18 (by decide) (by decide), eJ2 19 (by decide) (by decide)⟩ ⟨rfl, rfl⟩
    have hMX : RM X J2 P L K := hMW.cong ⟨eX 16 (by decide) (by decide), eX 9 (by decide) (by decide)⟩ ⟨eJ2 15 (by decide) (by decide), fun g9 => eJ2 (20 + g9) (by omega) (by omega)⟩ ⟨rfl, rfl⟩
    have hHX : RH X J2 P := hHW.cong ⟨eX 17 (by decide) (by decide), eX 10 (by decide) (by decide)⟩ (eJ2 6 (by decide) (by decide)) ⟨rfl, rfl⟩
    have hNX : RN X J2 P L K own := hNW.cong ⟨eX 0 (by decide) (by decide), eX 1 (by decide) (by decide), eX 2 (by decide) (by decide), eX 3 (by decide) (by decide)⟩ ⟨eJ2 10 (by decide) (by decide), eJ2 11 (by decide) (by decide)⟩ ⟨rfl, rfl⟩
    have hQX : RQ X P := hQW.cong ⟨eX 18 (by decide) (by decide), eX 19 (by decide) (by decide), eX 20 (by decide) (by decide)⟩ ⟨rfl, rfl, rfl, rfl⟩
    have hvn : v < X 16 0 := by rw [eX 16 (by decide) (by decide)]; exact v2
    have hO2v := (hTX v hvn).1
    rw [← hJ2]
    first | refine g_aload_n C dX2_beginToWait_62 rfl ?_ | refine g_aload_nq C _ dX2_beginToWait_62 rfl ?_
    first | refine g_aload_n C dX2_beginToWait_63 rfl ?_ | refine g_aload_nq C _ dX2_beginToWait_63 rfl ?_
    refine cg_transactions C i2 (by decide +kernel) dX2_beginToWait_64 ?_
    first | refine g_aload_n C dX2_beginToWait_67 rfl ?_ | refine g_aload_nq C _ dX2_beginToWait_67 rfl ?_
    refine cg_ringMembers C i2 (by decide +kernel) dX2_beginToWait_68 ?_
    refine g_iload C dX2_beginToWait_71 rfl ?_
    refine g_iconst C 1 dX2_beginToWait_73 (by decide) ?_
    first | refine g_isub C dX2_beginToWait_74 (by omega) ?_ | refine g_isubx C dX2_beginToWait_74 ?_
    refine cl_ringMembers C dX2_beginToWait_75 (by omega) ?_
    rw [hv9]
    refine cl_transactions C dX2_beginToWait_76 (by omega) ?_
    rw [hO2v]
    refine g_iconst C 4 dX2_beginToWait_77 (by decide) ?_
    refine g_callC C (k_X2_finish l D g A xa _ _ _ _ hBJ2 (by omega) (by omega) (⟨hSX, hTX, hMX, hHX, hNX, hQX⟩ : RC X J2 P L K own) v 4 hvn (by decide) (by decide) (by rw [eX 16 (by decide) (by decide)]; exact hCW) (by rw [eX 17 (by decide) (by decide), eX 16 (by decide) (by decide)]; exact hIW.2.2.1) (by rw [eX 16 (by decide) (by decide), eX 8 (by decide) (by decide), eX 11 (by decide) (by decide)]; exact hWW) (by rw [eX 19 (by decide) (by decide), eX 20 (by decide) (by decide)]; exact hIW.2.2.2.2.1) (by rw [eX 19 (by decide) (by decide), eX 20 (by decide) (by decide), eX 18 (by decide) (by decide), eX 16 (by decide) (by decide), eX 8 (by decide) (by decide), eX 11 (by decide) (by decide)]; exact fun j h1 h2 => ⟨hIW.2.2.2.1 j h1 h2, fun y => by have h9 := hJW.1 j h1 h2 y.1; rw [y.2, show v + 1 - 1 = v by omega] at h9; omega⟩) (tx P v) rfl) gX2_beginToWait_X2_finish dX2_beginToWait_78 (n := 2) rfl rfl rfl (by decide +kernel) ⟨Nat.le_of_ble_eq_true rfl, Nat.le_of_ble_eq_true rfl⟩ rfl rfl (Nat.le_of_ble_eq_true rfl) ⟨by omega, by omega⟩ (fun r I1 O1 L1 K1 hq => ?_)
    obtain ⟨⟨x1, x2, x3, x4⟩, hB3, hR3, rfl⟩ := hq
    rw [x1, x2]
    exact g_vret C dX2_beginToWait_81 rfl (⟨I1, O1, L, K, rfl, ⟨rfl, rfl, by rw [x3 1 (by decide), eJ2 1 (by decide) (by decide)]; exact eJ 1 (by decide) (by decide) (by decide) (by decide) (by decide), (x4 2 (by decide) (by decide) (by decide) (by decide) (by decide)).trans (eP 2 (by decide))⟩, hB3, by rw [← hWd]; unfold vRing; rw [if_neg (show ¬ vLk W t 60 t 0 = 0 by omega)]; unfold vTake; rw [← hXd, ← hv]; exact hR3, rfl⟩)
