theorem bit_or : ∀ m, m < 16 → ∀ k, k < 4 → (m ||| 2 ^ k) < 16 ∧ (∀ g, g < 4 → vBit (m ||| 2 ^ k) g = if g = k then 1 else vBit m g) ∧ (vBit m k = 0 → vPop (m ||| 2 ^ k) 4 = vPop m 4 + 1) ∧ (vBit m k ≠ 0 → m ||| 2 ^ k = m) := by decide +kernel
theorem out_put : ∀ s, s ≤ 4 → s ≠ 3 → outAns s = putAns s := by
  intro s h1 h2
  rcases (show s = 0 ∨ s = 1 ∨ s = 2 ∨ s = 4 by omega) with rfl | rfl | rfl | rfl <;> decide
theorem Jq.em {V : VV} (h : V 19 0 = V 20 0) : Jq V := ⟨fun j h1 h2 => by omega, fun i j h1 h2 h3 => by omega⟩
theorem Rw.endV {V : VV} {t z : Nat} (h : Rw V) : Rw (vEnd V t z) := h.cong (vEnd_k (by decide) (by decide) (by decide) (by decide)) (vEnd_k (by decide) (by decide) (by decide) (by decide)) (vEnd_k (by decide) (by decide) (by decide) (by decide)) (vEnd_k (by decide) (by decide) (by decide) (by decide)) (vEnd_k (by decide) (by decide) (by decide) (by decide))
theorem Rw.wrV {V : VV} {t k b : Nat} (h : Rw V) : Rw (vWr V t k b) := h.cong (vWr_k V t k b (by decide)) (vWr_k V t k b (by decide)) (vWr_k V t k b (by decide)) (vWr_k V t k b (by decide)) (vWr_k V t k b (by decide))
/-- a graph noted: the relation -/
theorem RC.note {V I I' : VV} {O : OO} {L : List Nat} {K own : Nat → Nat} {j k na : Nat} (h : RC V I O L K own) (hm : V 9 j < 16) (hj : j < V 16 0) (hk : k < 4) (hna : O 6 (tx O j) = some na)
    (ilo : ∀ x, x ≠ 15 → x < 20 → I' x = I x) (i15 : ∀ z, I' 15 z = if z = tx O j then vPop (V 9 j ||| 2 ^ k) 4 else I 15 z) (ihi : ∀ g z, g < 4 → z ∈ L → I' (20 + g) z = if z = na ∧ g = k then 1 else I (20 + g) z) : RC (u2 V 9 j (V 9 j ||| 2 ^ k)) I' O L K own := by
  obtain ⟨hS, hT, hM, hH, hN, hQ⟩ := h
  obtain ⟨b1, b2, b3, b4⟩ := bit_or (V 9 j) hm k hk
  refine ⟨hS.cong ⟨rfl, rfl, rfl, rfl, rfl, rfl, rfl, rfl⟩ ⟨ilo 0 (by decide) (by decide), ilo 2 (by decide) (by decide), ilo 3 (by decide) (by decide), ilo 4 (by decide) (by decide), ilo 5 (by decide) (by decide), ilo 7 (by decide) (by decide), ilo 8 (by decide) (by decide), ilo 9 (by decide) (by decide)⟩, hT.cong ⟨rfl, rfl, rfl, rfl, rfl, rfl, rfl, rfl⟩ ⟨ilo 12 (by decide) (by decide), ilo 13 (by decide) (by decide), ilo 14 (by decide) (by decide), ilo 16 (by decide) (by decide), ilo 17 (by decide) (by decide), ilo 18 (by decide) (by decide), ilo 19 (by decide) (by decide)⟩ ⟨rfl, rfl⟩, ⟨fun i hi => ?_, hM.2⟩, hH.cong ⟨rfl, rfl⟩ (ilo 6 (by decide) (by decide)) ⟨rfl, rfl⟩, hN.cong ⟨rfl, rfl, rfl, rfl⟩ ⟨ilo 10 (by decide) (by decide), ilo 11 (by decide) (by decide)⟩ ⟨rfl, rfl⟩, hQ.cong ⟨rfl, rfl, rfl⟩ ⟨rfl, rfl, rfl, rfl⟩⟩
  have hi : i < V 16 0 := hi
  obtain ⟨nb, m1, m2, m3, m4, m5⟩ := hM.1 i hi
  by_cases y : i = j
  · subst y
    have e9 : nb = na := Option.some.inj (m1.symm.trans hna)
    subst e9
    refine ⟨nb, m1, m2, m3, ?_, fun g hg => ?_⟩
    · rw [i15, if_pos rfl, u2_same]
    · rw [ihi g nb hg m2, u2_same, b2 g hg]
      by_cases z : g = k
      · rw [if_pos ⟨rfl, z⟩, if_pos z]
      · rw [if_neg (fun w => z w.2), if_neg z]
        exact m5 g hg
  · have hne : tx O i ≠ tx O j := fun z => y (hT.inj hi hj z)
    have hnn : nb ≠ na := fun z => y (hM.2 i j hi hj (by rw [m1, hna, z]))
    refine ⟨nb, m1, m2, m3, ?_, fun g hg => ?_⟩
    · rw [i15, if_neg hne, u2_ni _ _ _ _ y]
      exact m4
    · rw [ihi g nb hg m2, if_neg (fun w => hnn w.1), u2_ni _ _ _ _ y]
      exact m5 g hg
set_option maxRecDepth 100000 in
set_option maxHeartbeats 1000000 in
theorem k_X2_note (l : Launch) (hst : l.stackTraces = false) (D : va_G) (g : Nat → ClassId) (A : Nat → Prop) (xa : Nat → Nat) (I : VV) (O : OO) (L : List Nat) (K : Nat → Nat) {N : Nat} (hB : BdN I N) (hN4 : N + 4000 ≤ 2 ^ 30) {V : VV} {own : Nat → Nat} (hN2 : 20000 ≤ N) (hV : Inv V) (hR : RC V I O L K own) (hrc : I 1 0 = V 3 0) (x y : Int32) : CM l yX2_note wsX2_note ({ frames := 7, cells := 3, slots := 18, locals := 103 } : Room) 3 18 D g A xa [.ref (xa 0), .int x, .int y] I O L K (fun r I1 O1 L1 K1 => ∃ j k, x = nI j ∧ j < 2 ^ 31 ∧ j < V 16 0 ∧ y = nI k ∧ k < 4 ∧ (V 8 j = 0 ∧ 0 < V 6 j) ∧ CR N (u2 V 9 j (V 9 j ||| 2 ^ k)) I1 O1 L1 K1 ∧ r = some (.int (nI (vPop (V 9 j ||| 2 ^ k) 4)))) (fun E => (E = xIA ∧ ¬ (inR x (V 16 0) ∧ inR y 4)) ∨ (E = xIS ∧ inR x (V 16 0) ∧ inR y 4 ∧ ¬ (V 8 (ix x) = 0 ∧ 0 < V 6 (ix x)))) := by
  refine x_ofW [(0, .ref (xa 0)), (1, .int x), (2, .int y)] (by decide) rfl (Nat.le_of_ble_eq_true rfl) rfl (by simp [Value.category, vcat_rf]) ?_
  intro p e s m args below meth c C T9 hx9
  have i1 : ∀ w ∈ wsX10, w ∈ wsX2_note := by decide +kernel
  have i2 : ∀ w ∈ wsX20, w ∈ wsX2_note := by decide +kernel
  have hN : N ≤ 2 ^ 30 := by omega
  have hC := hV.1.1
  have hla := hV.1.lat
  have hSt : ∀ i, i < V 16 0 → V 8 i ≤ 4 := fun i _ => hV.2.2.1.2.2.1 i
  obtain ⟨hS, hT, hM, hH, hNw, hQ⟩ := id hR
  first | refine g_aload_n C dX2_note_0 rfl ?_ | refine g_aload_nq C _ dX2_note_0 rfl ?_
  refine g_iload_n C dX2_note_1 rfl ?_
  refine x_callC C T9 hx9 (k_X2_known l hst D g A xa _ _ _ _ hB hN hS hT hC x) gX2_note_X2_known dX2_note_2 (n := 1) rfl rfl rfl (by decide +kernel) ⟨Nat.le_of_ble_eq_true rfl, Nat.le_of_ble_eq_true rfl⟩ rfl rfl (Nat.le_of_ble_eq_true rfl) ⟨Nat.le_of_ble_eq_true rfl, Nat.le_of_ble_eq_true rfl⟩ (fun r I1 O1 L1 K1 hq => ?_) (fun E hE => Or.inl ⟨hE.1, fun z => hE.2 z.1⟩) (Nat.le_of_ble_eq_true rfl) (Nat.le_of_ble_eq_true rfl)
  obtain ⟨⟨e1, e2, e3, e4⟩, hq⟩ := hq
  rw [e1, e2, e3, e4]
  obtain ⟨j, rfl, hj, hjc, hr⟩ := hq
  rw [hr]
  have hxj := (rfl : nI j = nI j)
  have hix : inR (nI j) (V 16 0) := (inR_nI hj).mpr hjc
  obtain ⟨t2, tL, tK, h12, h13, h14, h16, hO7, hwt⟩ := hT j hjc
  first | refine g_astore_n C dX2_note_5 (by decide) ?_ | refine g_astore_nq C dX2_note_5 (by decide) ?_
  refine g_iload_n C dX2_note_6 rfl ?_
  refine x_callCS C T9 hx9 (k_X2_requireGraph l hst D g A xa _ _ _ _ y) gX2_note_X2_requireGraph dX2_note_7 (n := 1) rfl rfl rfl (by decide +kernel) ⟨Nat.le_of_ble_eq_true rfl, Nat.le_of_ble_eq_true rfl⟩ rfl rfl (Nat.le_of_ble_eq_true rfl) ⟨Nat.le_of_ble_eq_true rfl, Nat.le_of_ble_eq_true rfl⟩ (fun r I1 O1 L1 K1 hq => ?_) (fun E hE => Or.inl ⟨hE.1, fun z => hE.2 z.2⟩) (Nat.le_of_ble_eq_true rfl) (Nat.le_of_ble_eq_true rfl)
  obtain ⟨⟨e1, e2, e3, e4⟩, hq⟩ := hq
  rw [e1, e2, e3, e4]
  obtain ⟨hin, hr⟩ := hq
  rw [hr]
  obtain ⟨k, hk, hk2, rfl⟩ := inR_ex hin
  first | refine g_aload_n C dX2_note_10 rfl ?_ | refine g_aload_nq C _ dX2_note_10 rfl ?_
  refine x_callCS C T9 hx9 (k_X2_requireOpenWriter l hst D g A xa _ _ _ _ hB hN hT j hjc (tx O j) rfl) gX2_note_X2_requireOpenWriter dX2_note_11 (n := 1) rfl rfl rfl (by decide +kernel) ⟨Nat.le_of_ble_eq_true rfl, Nat.le_of_ble_eq_true rfl⟩ rfl rfl (Nat.le_of_ble_eq_true rfl) ⟨Nat.le_of_ble_eq_true rfl, Nat.le_of_ble_eq_true rfl⟩ (fun r I1 O1 L1 K1 hq => ?_) (fun E hE => Or.inr ⟨hE.1, hix, hin, by rw [ix_nI hj]; exact hE.2⟩) (Nat.le_of_ble_eq_true rfl) (Nat.le_of_ble_eq_true rfl)
  obtain ⟨⟨e1, e2, e3, e4⟩, hq⟩ := hq
  rw [e1, e2, e3, e4]
  obtain ⟨hop, hr⟩ := hq
  rw [hr]
  obtain ⟨na, hna, nL, nK, h15, hbits⟩ := hM.1 j hjc
  have hm9 := hV.1.2.2.2.2.2.2.2.2.2 j
  obtain ⟨b1, b2, b3, b4⟩ := bit_or (V 9 j) hm9 k hk
  have hbk := nt_bit1 (V 9 j) k
  have hp4 : I 15 (tx O j) < N := hB 15 (tx O j)
  first | refine g_aload_n C dX2_note_14 rfl ?_ | refine g_aload_nq C _ dX2_note_14 rfl ?_
  refine tg_noted C (by assumption) (by assumption) i1 (by decide +kernel) dX2_note_15 ?_
  rw [hna]
  refine g_iload_n C dX2_note_18 rfl ?_
  refine nl_noted C (by assumption) (by assumption) dX2_note_19 hk ?_
  rw [hbits k hk]
  refine g_if_ne C 40 dX2_note_20 (by decide) (by omega) (fun c20 => ?_) (fun c20 => ?_)
  · first | refine g_aload_n C dX2_note_40 rfl ?_ | refine g_aload_nq C _ dX2_note_40 rfl ?_
    refine tg_notes C (by assumption) (by assumption) i1 (by decide +kernel) dX2_note_41 ?_
    refine x_ret (g_iret C dX2_note_44 rfl ⟨I, O, L, K, rfl, j, k, rfl, hj, hjc, rfl, hk, hop, ⟨hB.mono (by omega), hrc, own, ?_⟩, by rw [h15, b4 (by omega)]⟩)
    rw [b4 (by omega), u2_self]
    exact hR
  · first | refine g_aload_n C dX2_note_23 rfl ?_ | refine g_aload_nq C _ dX2_note_23 rfl ?_
    refine tg_noted C (by assumption) (by assumption) i1 (by decide +kernel) dX2_note_24 ?_
    rw [hna]
    refine g_iload_n C dX2_note_27 rfl ?_
    refine g_iconst C 1 dX2_note_28 (by decide) ?_
    refine ns_noted C (by omega) (by assumption) (by assumption) dX2_note_29 hk ?_
    first | refine g_aload_n C dX2_note_30 rfl ?_ | refine g_aload_nq C _ dX2_note_30 rfl ?_
    refine g_dup C dX2_note_31 (by first | rfl | exact vcat_rf _) ?_
    refine tg_notes C (by assumption) (by assumption) i1 (by decide +kernel) dX2_note_32 ?_
    refine g_iconst C 1 dX2_note_35 (by decide) ?_
    first | refine g_iadd C dX2_note_36 ?_ | refine g_iaddx C dX2_note_36 ?_
    refine tp_notes C (by assumption) (by assumption) i1 (by decide +kernel) dX2_note_37 ?_
    first | refine g_aload_n C dX2_note_40 rfl ?_ | refine g_aload_nq C _ dX2_note_40 rfl ?_
    refine tg_notes C (by assumption) (by assumption) i1 (by decide +kernel) dX2_note_41 ?_
    refine x_ret (g_iret C dX2_note_44 rfl ⟨_, O, L, K, rfl, j, k, rfl, hj, hjc, rfl, hk, hop, ⟨((hB.mono (show N ≤ N + 4000 by omega)).up (by omega)).up (by rw [u2_nk _ _ _ _ (by omega)]; omega), ?_, own, ?_⟩, by rw [u2_same, u2_nk _ _ _ _ (by omega), h15, b3 c20]⟩)
    · rw [u2_nk _ _ _ _ (by decide), u2_nk _ _ _ _ (by omega)]
      exact hrc
    · refine hR.note hm9 hjc hk hna (fun x h1 h2 => ?_) (fun z => ?_) (fun g9 z hg hz => ?_)
      · funext z
        rw [u2_nk _ _ _ _ h1, u2_nk _ _ _ _ (by omega)]
      · rw [u2_eq, u2_nk (k := 20 + k) _ _ _ _ (by omega), u2_nk (k := 20 + k) _ _ _ _ (by omega), h15, b3 c20]
        by_cases y : z = tx O j
        · rw [if_pos ⟨rfl, y⟩, if_pos y]
        · rw [if_neg (fun w => y w.2), if_neg y]
      · rw [u2_nk _ _ _ _ (by omega), u2_eq]
        by_cases y : z = na ∧ g9 = k
        · rw [if_pos ⟨by omega, y.1⟩, if_pos y]
        · rw [if_neg (fun w => y ⟨w.2, by omega⟩), if_neg y]
set_option maxRecDepth 100000 in
set_option maxHeartbeats 1000000 in
theorem k_X2_put (l : Launch) (hst : l.stackTraces = false) (D : va_G) (g : Nat → ClassId) (A : Nat → Prop) (xa : Nat → Nat) (I : VV) (O : OO) (L : List Nat) (K : Nat → Nat) {N : Nat} (hB : BdN I N) (hN4 : N + 4000 ≤ 2 ^ 30) {V : VV} {own : Nat → Nat} (hN2 : 20000 ≤ N) (hV : Inv V) (hR : RC V I O L K own) (hrc : I 1 0 = V 3 0) (x y : Int32) (b : Nat) (hb : b ≤ 1) : CM l yX2_put wsX2_put ({ frames := 7, cells := 3, slots := 18, locals := 140 } : Room) 3 18 D g A xa [.ref (xa 0), .int x, .int y, .int (nI b)] I O L K (fun r I1 O1 L1 K1 => ∃ j k, x = nI j ∧ j < 2 ^ 31 ∧ j < V 16 0 ∧ y = nI k ∧ k < 200 ∧ (V 8 j = 0 ∧ 0 < V 6 j) ∧ CR N (vGoA (vWr V j k b)) I1 O1 L1 K1 ∧ r = some (.int (putAns (vGoA (vWr V j k b) 8 j)))) (fun E => (E = xIA ∧ ¬ (inR x (V 16 0) ∧ inR y 200)) ∨ (E = xIS ∧ inR x (V 16 0) ∧ inR y 200 ∧ ¬ (V 8 (ix x) = 0 ∧ 0 < V 6 (ix x)))) := by
  refine x_ofW [(0, .ref (xa 0)), (1, .int x), (2, .int y), (3, .int (nI b))] (by decide) rfl (Nat.le_of_ble_eq_true rfl) rfl (by simp [Value.category, vcat_rf]) ?_
  intro p e s m args below meth c C T9 hx9
  have i0 : ∀ w ∈ wsX00, w ∈ wsX2_put := by decide +kernel
  have i1 : ∀ w ∈ wsX10, w ∈ wsX2_put := by decide +kernel
  have i2 : ∀ w ∈ wsX20, w ∈ wsX2_put := by decide +kernel
  have hN : N ≤ 2 ^ 30 := by omega
  have hC := hV.1.1
  have hla := hV.1.lat
  have hSt : ∀ i, i < V 16 0 → V 8 i ≤ 4 := fun i _ => hV.2.2.1.2.2.1 i
  obtain ⟨hS, hT, hM, hH, hNw, hQ⟩ := id hR
  first | refine g_aload_n C dX2_put_0 rfl ?_ | refine g_aload_nq C _ dX2_put_0 rfl ?_
  refine g_iload_n C dX2_put_1 rfl ?_
  refine x_callC C T9 hx9 (k_X2_known l hst D g A xa _ _ _ _ hB hN hS hT hC x) gX2_put_X2_known dX2_put_2 (n := 1) rfl rfl rfl (by decide +kernel) ⟨Nat.le_of_ble_eq_true rfl, Nat.le_of_ble_eq_true rfl⟩ rfl rfl (Nat.le_of_ble_eq_true rfl) ⟨Nat.le_of_ble_eq_true rfl, Nat.le_of_ble_eq_true rfl⟩ (fun r I1 O1 L1 K1 hq => ?_) (fun E hE => Or.inl ⟨hE.1, fun z => hE.2 z.1⟩) (Nat.le_of_ble_eq_true rfl) (Nat.le_of_ble_eq_true rfl)
  obtain ⟨⟨e1, e2, e3, e4⟩, hq⟩ := hq
  rw [e1, e2, e3, e4]
  obtain ⟨j, rfl, hj, hjc, hr⟩ := hq
  rw [hr]
  have hxj := (rfl : nI j = nI j)
  have hix : inR (nI j) (V 16 0) := (inR_nI hj).mpr hjc
  obtain ⟨t2, tL, tK, h12, h13, h14, h16, hO7, hwt⟩ := hT j hjc
  first | refine g_astore C dX2_put_5 (by decide) ?_ | refine g_astoreq C dX2_put_5 (by decide) ?_
  refine g_iload_n C dX2_put_7 rfl ?_
  refine x_callCS C T9 hx9 (k_X2_requireTriple l hst D g A xa _ _ _ _ y) gX2_put_X2_requireTriple dX2_put_8 (n := 1) rfl rfl rfl (by decide +kernel) ⟨Nat.le_of_ble_eq_true rfl, Nat.le_of_ble_eq_true rfl⟩ rfl rfl (Nat.le_of_ble_eq_true rfl) ⟨Nat.le_of_ble_eq_true rfl, Nat.le_of_ble_eq_true rfl⟩ (fun r I1 O1 L1 K1 hq => ?_) (fun E hE => Or.inl ⟨hE.1, fun z => hE.2 z.2⟩) (Nat.le_of_ble_eq_true rfl) (Nat.le_of_ble_eq_true rfl)
  obtain ⟨⟨e1, e2, e3, e4⟩, hq⟩ := hq
  rw [e1, e2, e3, e4]
  obtain ⟨hin, hr⟩ := hq
  rw [hr]
  obtain ⟨k, hk, hk2, rfl⟩ := inR_ex hin
  have hyk := (rfl : nI k = nI k)
  first | refine g_aload C dX2_put_11 rfl ?_ | refine g_aloadq C _ dX2_put_11 rfl ?_
  refine x_callCS C T9 hx9 (k_X2_requireOpenWriter l hst D g A xa _ _ _ _ hB hN hT j hjc (tx O j) rfl) gX2_put_X2_requireOpenWriter dX2_put_13 (n := 1) rfl rfl rfl (by decide +kernel) ⟨Nat.le_of_ble_eq_true rfl, Nat.le_of_ble_eq_true rfl⟩ rfl rfl (Nat.le_of_ble_eq_true rfl) ⟨Nat.le_of_ble_eq_true rfl, Nat.le_of_ble_eq_true rfl⟩ (fun r I1 O1 L1 K1 hq => ?_) (fun E hE => Or.inr ⟨hE.1, hix, hin, by rw [ix_nI hj]; exact hE.2⟩) (Nat.le_of_ble_eq_true rfl) (Nat.le_of_ble_eq_true rfl)
  obtain ⟨⟨e1, e2, e3, e4⟩, hq⟩ := hq
  rw [e1, e2, e3, e4]
  obtain ⟨hop, hr⟩ := hq
  rw [hr]
  first | refine g_aload_n C dX2_put_16 rfl ?_ | refine g_aload_nq C _ dX2_put_16 rfl ?_
  first | refine g_aload C dX2_put_17 rfl ?_ | refine g_aloadq C _ dX2_put_17 rfl ?_
  refine g_iload_n C dX2_put_19 rfl ?_
  refine g_iload_n C dX2_put_20 rfl ?_
  refine g_callC C (k_X2_tryWrite l D g A xa _ _ _ _ hB hN hN2 (by omega) hV.1 hV.jq j k b hjc (by omega) hk hb (hV.noq j) hR hV.2.1 (tx O j) rfl) gX2_put_X2_tryWrite dX2_put_21 (n := 3) rfl rfl rfl (by decide +kernel) ⟨Nat.le_of_ble_eq_true rfl, Nat.le_of_ble_eq_true rfl⟩ rfl rfl (Nat.le_of_ble_eq_true rfl) ⟨Nat.le_of_ble_eq_true rfl, Nat.le_of_ble_eq_true rfl⟩ (fun r I1 O1 L1 K1 hq => ?_)
  obtain ⟨⟨x1, x2, x3, x4⟩, hB1, hR1, hr⟩ := hq
  rw [x1, x2, hr]
  have hInv := hV.putV hjc (show V 8 j < 3 by omega) hk hb
  have hIw := hV.1.wrV hjc (show V 8 j < 3 by omega) hk hb
  have hJw := hV.jq.wrV hV.1 hjc (show V 8 j < 3 by omega) hk hb (hV.noq j)
  have hRww : Rw (vWr V j k b) := hV.2.1.wrV
  have h3w : vWr V j k b 3 = V 3 := vWr_k V j k b (by decide)
  have h16w : vWr V j k b 16 = V 16 := vWr_k V j k b (by decide)
  have hs3 : vWr V j k b 8 j = 3 → V 8 j = 3 := vWr_3
  obtain ⟨W, hW⟩ : ∃ W, W = vWr V j k b := ⟨_, rfl⟩
  rw [← hW] at hInv hIw hJw hRww h3w h16w hs3 hR1
  first | refine g_aload_n C dX2_put_24 rfl ?_ | refine g_aload_nq C _ dX2_put_24 rfl ?_
  refine g_callC C (k_X2_retryQueued l D g A xa _ _ _ _ hB1 (by omega) (by omega) (by omega) hIw hJw hR1 hRww) gX2_put_X2_retryQueued dX2_put_25 (n := 0) rfl rfl rfl (by decide +kernel) ⟨Nat.le_of_ble_eq_true rfl, Nat.le_of_ble_eq_true rfl⟩ rfl rfl (Nat.le_of_ble_eq_true rfl) ⟨Nat.le_of_ble_eq_true rfl, Nat.le_of_ble_eq_true rfl⟩ (fun r I2 O2 L2 K2 hq => ?_)
  obtain ⟨⟨y1, y2, y3, y4⟩, hB2, hR2, hr⟩ := hq
  rw [y1, y2, hr]
  have h3z : vGoA W 3 = W 3 := vGoA_k W (by decide)
  have h16z : vGoA W 16 = W 16 := vGoA_k W (by decide)
  have hs3z : vGoA W 8 j = 3 → W 8 j = 3 := vGoA_3 hIw
  obtain ⟨Z, hZ⟩ : ∃ Z, Z = vGoA W := ⟨_, rfl⟩
  rw [← hZ] at hInv h3z h16z hs3z hR2
  have hjz : j < Z 16 0 := by rw [h16z, h16w]; exact hjc
  obtain ⟨-, uL, uK, -, -, -, u16, -, -⟩ := hR2.2.1 j hjz
  have etx : tx O2 j = tx O j := (tx_cong y4 j).trans (tx_cong x4 j)
  rw [etx] at uL uK u16
  have hz4 : Z 8 j ≤ 4 := hInv.2.2.1.2.2.1 j
  have hz3 : Z 8 j ≠ 3 := fun z => by have := hs3 (hs3z z); omega
  first | refine g_aload C dX2_put_28 rfl ?_ | refine g_aloadq C _ dX2_put_28 rfl ?_
  refine g_callCS C (k_X2_outcomeOfWrite l D g A xa _ _ _ _ hB2 (by omega) (tx O j) uL uK (by rw [u16]; exact hz4)) gX2_put_X2_outcomeOfWrite dX2_put_30 (n := 1) rfl rfl rfl (by decide +kernel) ⟨Nat.le_of_ble_eq_true rfl, Nat.le_of_ble_eq_true rfl⟩ rfl rfl (Nat.le_of_ble_eq_true rfl) ⟨Nat.le_of_ble_eq_true rfl, Nat.le_of_ble_eq_true rfl⟩ (fun r I3 O3 L3 K3 hq => ?_)
  obtain ⟨⟨w1, w2, w3, w4⟩, hq⟩ := hq
  rw [w1, w2, w3, w4]
  rw [hq]
  refine x_ret (g_iret C dX2_put_33 rfl ⟨I2, O2, L, K, rfl, j, k, rfl, hj, hjc, rfl, hk, hop, ?_, ?_⟩)
  · rw [← hW, ← hZ]
    exact ⟨hB2.mono (by omega), by rw [y3, x3, hrc, h3z, h3w], own, hR2⟩
  · rw [← hW, ← hZ, u16, out_put _ hz4 hz3]
set_option maxRecDepth 100000 in
set_option maxHeartbeats 1000000 in
theorem k_X2_abort (l : Launch) (hst : l.stackTraces = false) (D : va_G) (g : Nat → ClassId) (A : Nat → Prop) (xa : Nat → Nat) (I : VV) (O : OO) (L : List Nat) (K : Nat → Nat) {N : Nat} (hB : BdN I N) (hN4 : N + 4000 ≤ 2 ^ 30) {V : VV} {own : Nat → Nat} (hN2 : 20000 ≤ N) (hV : Inv V) (hR : RC V I O L K own) (hrc : I 1 0 = V 3 0) (x : Int32) : CM l yX2_abort wsX2_abort ({ frames := 7, cells := 2, slots := 12, locals := 140 } : Room) 2 12 D g A xa [.ref (xa 0), .int x] I O L K (fun r I1 O1 L1 K1 => ∃ j, x = nI j ∧ j < 2 ^ 31 ∧ j < V 16 0 ∧ V 8 j < 3 ∧ CR N (vGoA (vEnd V j 4)) I1 O1 L1 K1 ∧ r = some (.int (nI (vWc V j 200)))) (fun E => (E = xIA ∧ ¬ inR x (V 16 0)) ∨ (E = xIS ∧ inR x (V 16 0) ∧ 3 ≤ V 8 (ix x))) := by
  refine x_ofW [(0, .ref (xa 0)), (1, .int x)] (by decide) rfl (Nat.le_of_ble_eq_true rfl) rfl (by simp [Value.category, vcat_rf]) ?_
  intro p e s m args below meth c C T9 hx9
  have i0 : ∀ w ∈ wsX00, w ∈ wsX2_abort := by decide +kernel
  have i1 : ∀ w ∈ wsX10, w ∈ wsX2_abort := by decide +kernel
  have i2 : ∀ w ∈ wsX20, w ∈ wsX2_abort := by decide +kernel
  have hN : N ≤ 2 ^ 30 := by omega
  have hC := hV.1.1
  have hla := hV.1.lat
  have hSt : ∀ i, i < V 16 0 → V 8 i ≤ 4 := fun i _ => hV.2.2.1.2.2.1 i
  obtain ⟨hS, hT, hM, hH, hNw, hQ⟩ := id hR
  have hWW : ∀ i, i < V 16 0 → V 8 i = 1 → 0 < V 11 i ∧ V 11 i ≤ V 16 0 := fun i h1 h2 => ⟨(hV.1.2.1 i h1 h2).1, (hV.1.2.1 i h1 h2).2.1⟩
  have hem := hV.2.2.2.2
  first | refine g_aload_n C dX2_abort_0 rfl ?_ | refine g_aload_nq C _ dX2_abort_0 rfl ?_
  refine g_iload_n C dX2_abort_1 rfl ?_
  refine x_callC C T9 hx9 (k_X2_known l hst D g A xa _ _ _ _ hB hN hS hT hC x) gX2_abort_X2_known dX2_abort_2 (n := 1) rfl rfl rfl (by decide +kernel) ⟨Nat.le_of_ble_eq_true rfl, Nat.le_of_ble_eq_true rfl⟩ rfl rfl (Nat.le_of_ble_eq_true rfl) ⟨Nat.le_of_ble_eq_true rfl, Nat.le_of_ble_eq_true rfl⟩ (fun r I1 O1 L1 K1 hq => ?_) (fun E hE => Or.inl hE) (Nat.le_of_ble_eq_true rfl) (Nat.le_of_ble_eq_true rfl)
  obtain ⟨⟨e1, e2, e3, e4⟩, hq⟩ := hq
  rw [e1, e2, e3, e4]
  obtain ⟨j, rfl, hj, hjc, hr⟩ := hq
  rw [hr]
  have hxj := (rfl : nI j = nI j)
  have hix : inR (nI j) (V 16 0) := (inR_nI hj).mpr hjc
  obtain ⟨t2, tL, tK, h12, h13, h14, h16, hO7, hwt⟩ := hT j hjc
  first | refine g_astore_n C dX2_abort_5 (by decide) ?_ | refine g_astore_nq C dX2_abort_5 (by decide) ?_
  first | refine g_aload_n C dX2_abort_6 rfl ?_ | refine g_aload_nq C _ dX2_abort_6 rfl ?_
  refine x_callCS C T9 hx9 (k_X2_requireNotEnded l hst D g A xa _ _ _ _ hB hN hT j hjc (hSt j hjc) (tx O j) rfl) gX2_abort_X2_requireNotEnded dX2_abort_7 (n := 1) rfl rfl rfl (by decide +kernel) ⟨Nat.le_of_ble_eq_true rfl, Nat.le_of_ble_eq_true rfl⟩ rfl rfl (Nat.le_of_ble_eq_true rfl) ⟨Nat.le_of_ble_eq_true rfl, Nat.le_of_ble_eq_true rfl⟩ (fun r I1 O1 L1 K1 hq => ?_) (fun E hE => Or.inr ⟨hE.1, hix, by rw [ix_nI hj]; exact hE.2⟩) (Nat.le_of_ble_eq_true rfl) (Nat.le_of_ble_eq_true rfl)
  obtain ⟨⟨e1, e2, e3, e4⟩, hq⟩ := hq
  rw [e1, e2, e3, e4]
  obtain ⟨hl3, hr⟩ := hq
  rw [hr]
  first | refine g_aload_n C dX2_abort_10 rfl ?_ | refine g_aload_nq C _ dX2_abort_10 rfl ?_
  first | refine g_aload_n C dX2_abort_11 rfl ?_ | refine g_aload_nq C _ dX2_abort_11 rfl ?_
  refine g_callC C (k_X2_countOwnWrites l D g A xa _ _ _ _ hT hH j hjc hV.1.2.2.1 (fun k hk => hV.2.2.1.1 j k hjc hk hl3) (tx O j) rfl) gX2_abort_X2_countOwnWrites dX2_abort_12 (n := 1) rfl rfl rfl (by decide +kernel) ⟨Nat.le_of_ble_eq_true rfl, Nat.le_of_ble_eq_true rfl⟩ rfl rfl (Nat.le_of_ble_eq_true rfl) ⟨Nat.le_of_ble_eq_true rfl, Nat.le_of_ble_eq_true rfl⟩ (fun r I1 O1 L1 K1 hq => ?_)
  obtain ⟨⟨e1, e2, e3, e4⟩, hq⟩ := hq
  rw [e1, e2, e3, e4]
  rw [hq]
  refine g_istore_n C dX2_abort_15 (by decide) ?_
  first | refine g_aload_n C dX2_abort_16 rfl ?_ | refine g_aload_nq C _ dX2_abort_16 rfl ?_
  first | refine g_aload_n C dX2_abort_17 rfl ?_ | refine g_aload_nq C _ dX2_abort_17 rfl ?_
  refine g_iconst C 4 dX2_abort_18 (by decide) ?_
  refine g_callC C (k_X2_finish l D g A xa _ _ _ _ hB hN hN2 hR j 4 hjc (by decide) (by decide) hC hV.1.2.2.1 hWW (by omega) (fun j h1 h2 => by omega) (tx O j) rfl) gX2_abort_X2_finish dX2_abort_19 (n := 2) rfl rfl rfl (by decide +kernel) ⟨Nat.le_of_ble_eq_true rfl, Nat.le_of_ble_eq_true rfl⟩ rfl rfl (Nat.le_of_ble_eq_true rfl) ⟨Nat.le_of_ble_eq_true rfl, Nat.le_of_ble_eq_true rfl⟩ (fun r I1 O1 L1 K1 hq => ?_)
  obtain ⟨⟨x1, x2, x3, x4⟩, hB1, hR1, hr⟩ := hq
  rw [x1, x2, hr]
  have hIw := hV.1.endV hjc hl3 (show 3 ≤ 4 by decide)
  have hJw := (Jq.em hem).endV hl3 (show 3 ≤ 4 by decide)
  have hRww : Rw (vEnd V j 4) := hV.2.1.endV
  have h3w : vEnd V j 4 3 = V 3 := vEnd_k (by decide) (by decide) (by decide) (by decide)
  obtain ⟨W, hW⟩ : ∃ W, W = vEnd V j 4 := ⟨_, rfl⟩
  rw [← hW] at hIw hJw hRww h3w hR1
  first | refine g_aload_n C dX2_abort_22 rfl ?_ | refine g_aload_nq C _ dX2_abort_22 rfl ?_
  refine g_callC C (k_X2_retryQueued l D g A xa _ _ _ _ hB1 (by omega) (by omega) (by omega) hIw hJw hR1 hRww) gX2_abort_X2_retryQueued dX2_abort_23 (n := 0) rfl rfl rfl (by decide +kernel) ⟨Nat.le_of_ble_eq_true rfl, Nat.le_of_ble_eq_true rfl⟩ rfl rfl (Nat.le_of_ble_eq_true rfl) ⟨Nat.le_of_ble_eq_true rfl, Nat.le_of_ble_eq_true rfl⟩ (fun r I2 O2 L2 K2 hq => ?_)
  obtain ⟨⟨y1, y2, y3, y4⟩, hB2, hR2, hr⟩ := hq
  rw [y1, y2, hr]
  have h3z : vGoA W 3 = W 3 := vGoA_k W (by decide)
  obtain ⟨Z, hZ⟩ : ∃ Z, Z = vGoA W := ⟨_, rfl⟩
  rw [← hZ] at h3z hR2
  refine g_iload_n C dX2_abort_26 rfl ?_
  refine x_ret (g_iret C dX2_abort_27 rfl ⟨I2, O2, L, K, rfl, j, rfl, hj, hjc, hl3, ?_, rfl⟩)
  rw [← hW, ← hZ]
  exact ⟨hB2.mono (by omega), by rw [y3, x3 1 (by decide), hrc, h3z, h3w], own, hR2⟩
set_option maxRecDepth 100000 in
set_option maxHeartbeats 1000000 in
theorem k_X2_commit (l : Launch) (hst : l.stackTraces = false) (D : va_G) (g : Nat → ClassId) (A : Nat → Prop) (xa : Nat → Nat) (I : VV) (O : OO) (L : List Nat) (K : Nat → Nat) {N : Nat} (hB : BdN I N) (hN4 : N + 4000 ≤ 2 ^ 30) {V : VV} {own : Nat → Nat} (hN2 : 20000 ≤ N) (hV : Inv V) (hR : RC V I O L K own) (hrc : I 1 0 = V 3 0) (x : Int32) : CM l yX2_commit wsX2_commit ({ frames := 7, cells := 203, slots := 618, locals := 140 } : Room) 203 618 D g A xa [.ref (xa 0), .int x] I O L K (fun r I1 O1 L1 K1 => ∃ j, x = nI j ∧ j < 2 ^ 31 ∧ j < V 16 0 ∧ (V 8 j < 3 ∧ V 8 j ≠ 1) ∧ (((V 8 j = 2 ∨ 0 < vCh V j 4 0) ∧ CR N (vGoA (vEnd (vRef V j) j 4)) I1 O1 L1 K1 ∧ r = some (.int (nI 0))) ∨ (¬ (V 8 j = 2 ∨ 0 < vCh V j 4 0) ∧ CR N (vGoA (vEnd (vRwA V j) j 3)) I1 O1 L1 K1 ∧ r = some (.int (nI (vNum V j)))))) (fun E => (E = xIA ∧ ¬ inR x (V 16 0)) ∨ (E = xIS ∧ inR x (V 16 0) ∧ ¬ (V 8 (ix x) < 3 ∧ V 8 (ix x) ≠ 1))) := by
  refine x_ofW [(0, .ref (xa 0)), (1, .int x)] (by decide) rfl (Nat.le_of_ble_eq_true rfl) rfl (by simp [Value.category, vcat_rf]) ?_
  intro p e s m args below meth c C T9 hx9
  have i0 : ∀ w ∈ wsX00, w ∈ wsX2_commit := by decide +kernel
  have i1 : ∀ w ∈ wsX10, w ∈ wsX2_commit := by decide +kernel
  have i2 : ∀ w ∈ wsX20, w ∈ wsX2_commit := by decide +kernel
  have hN : N ≤ 2 ^ 30 := by omega
  have hC := hV.1.1
  have hla := hV.1.lat
  have hSt : ∀ i, i < V 16 0 → V 8 i ≤ 4 := fun i _ => hV.2.2.1.2.2.1 i
  obtain ⟨hS, hT, hM, hH, hNw, hQ⟩ := id hR
  have hem := hV.2.2.2.2
  first | refine g_aload_n C dX2_commit_0 rfl ?_ | refine g_aload_nq C _ dX2_commit_0 rfl ?_
  refine g_iload_n C dX2_commit_1 rfl ?_
  refine x_callC C T9 hx9 (k_X2_known l hst D g A xa _ _ _ _ hB hN hS hT hC x) gX2_commit_X2_known dX2_commit_2 (n := 1) rfl rfl rfl (by decide +kernel) ⟨Nat.le_of_ble_eq_true rfl, Nat.le_of_ble_eq_true rfl⟩ rfl rfl (Nat.le_of_ble_eq_true rfl) ⟨Nat.le_of_ble_eq_true rfl, Nat.le_of_ble_eq_true rfl⟩ (fun r I1 O1 L1 K1 hq => ?_) (fun E hE => Or.inl hE) (Nat.le_of_ble_eq_true rfl) (Nat.le_of_ble_eq_true rfl)
  obtain ⟨⟨e1, e2, e3, e4⟩, hq⟩ := hq
  rw [e1, e2, e3, e4]
  obtain ⟨j, rfl, hj, hjc, hr⟩ := hq
  rw [hr]
  have hxj := (rfl : nI j = nI j)
  have hix : inR (nI j) (V 16 0) := (inR_nI hj).mpr hjc
  obtain ⟨t2, tL, tK, h12, h13, h14, h16, hO7, hwt⟩ := hT j hjc
  first | refine g_astore_n C dX2_commit_5 (by decide) ?_ | refine g_astore_nq C dX2_commit_5 (by decide) ?_
  first | refine g_aload_n C dX2_commit_6 rfl ?_ | refine g_aload_nq C _ dX2_commit_6 rfl ?_
  refine x_callCS C T9 hx9 (k_X2_requireNotEnded l hst D g A xa _ _ _ _ hB hN hT j hjc (hSt j hjc) (tx O j) rfl) gX2_commit_X2_requireNotEnded dX2_commit_7 (n := 1) rfl rfl rfl (by decide +kernel) ⟨Nat.le_of_ble_eq_true rfl, Nat.le_of_ble_eq_true rfl⟩ rfl rfl (Nat.le_of_ble_eq_true rfl) ⟨Nat.le_of_ble_eq_true rfl, Nat.le_of_ble_eq_true rfl⟩ (fun r I1 O1 L1 K1 hq => ?_) (fun E hE => Or.inr ⟨hE.1, hix, by rw [ix_nI hj]; exact fun z => by have := z.1; have := hE.2; omega⟩) (Nat.le_of_ble_eq_true rfl) (Nat.le_of_ble_eq_true rfl)
  obtain ⟨⟨e1, e2, e3, e4⟩, hq⟩ := hq
  rw [e1, e2, e3, e4]
  obtain ⟨hl3, hr⟩ := hq
  rw [hr]
  first | refine g_aload_n C dX2_commit_10 rfl ?_ | refine g_aload_nq C _ dX2_commit_10 rfl ?_
  refine x_callCS C T9 hx9 (k_X2_requireNotWaiting l hst D g A xa _ _ _ _ hB hN hT j hjc (tx O j) rfl) gX2_commit_X2_requireNotWaiting dX2_commit_11 (n := 1) rfl rfl rfl (by decide +kernel) ⟨Nat.le_of_ble_eq_true rfl, Nat.le_of_ble_eq_true rfl⟩ rfl rfl (Nat.le_of_ble_eq_true rfl) ⟨Nat.le_of_ble_eq_true rfl, Nat.le_of_ble_eq_true rfl⟩ (fun r I1 O1 L1 K1 hq => ?_) (fun E hE => Or.inr ⟨hE.1, hix, by rw [ix_nI hj]; exact fun z => z.2 hE.2⟩) (Nat.le_of_ble_eq_true rfl) (Nat.le_of_ble_eq_true rfl)
  obtain ⟨⟨e1, e2, e3, e4⟩, hq⟩ := hq
  rw [e1, e2, e3, e4]
  obtain ⟨hl1, hr⟩ := hq
  rw [hr]
  first | refine g_aload_n C dX2_commit_14 rfl ?_ | refine g_aload_nq C _ dX2_commit_14 rfl ?_
  first | refine g_aload_n C dX2_commit_15 rfl ?_ | refine g_aload_nq C _ dX2_commit_15 rfl ?_
  refine g_callC C (k_X2_isRefused l D g A xa _ _ _ _ hB hN hR hV.2.1 j hjc (tx O j) rfl) gX2_commit_X2_isRefused dX2_commit_16 (n := 1) rfl rfl rfl (by decide +kernel) ⟨Nat.le_of_ble_eq_true rfl, Nat.le_of_ble_eq_true rfl⟩ rfl rfl (Nat.le_of_ble_eq_true rfl) ⟨Nat.le_of_ble_eq_true rfl, Nat.le_of_ble_eq_true rfl⟩ (fun r I1 O1 L1 K1 hq => ?_)
  obtain ⟨⟨e1, e2, e3, e4⟩, hq⟩ := hq
  rw [e1, e2, e3, e4]
  rcases hq with ⟨h16r, rfl⟩ | ⟨h16r, rfl⟩
  · refine g_if_eq C 30 dX2_commit_19 (by decide) (by decide) (fun c19 => absurd c19 (by decide)) (fun c19 => ?_)
    first | refine g_aload_n C dX2_commit_22 rfl ?_ | refine g_aload_nq C _ dX2_commit_22 rfl ?_
    first | refine g_aload_n C dX2_commit_23 rfl ?_ | refine g_aload_nq C _ dX2_commit_23 rfl ?_
    refine g_callC C (k_X2_giveUp l D g A xa _ _ _ _ hB hN hN2 (by omega) hV.1 hR hV.2.1 j hjc hem h16r (tx O j) rfl) gX2_commit_X2_giveUp dX2_commit_24 (n := 1) rfl rfl rfl (by decide +kernel) ⟨Nat.le_of_ble_eq_true rfl, Nat.le_of_ble_eq_true rfl⟩ rfl rfl (Nat.le_of_ble_eq_true rfl) ⟨Nat.le_of_ble_eq_true rfl, Nat.le_of_ble_eq_true rfl⟩ (fun r I1 O1 L1 K1 hq => ?_)
    obtain ⟨⟨x1, x2, x3, x4⟩, hB1, hR1, hr⟩ := hq
    rw [x1, x2, hr]
    have ref : ∀ b, b ≠ 24 → vRef V j b = V b := fun b hb => vRef_k V j hb
    have hIw := (hV.1.refV (j := j)).endV (by rw [ref 16 (by decide)]; exact hjc) (by rw [ref 8 (by decide)]; exact hl3) (show 3 ≤ 4 by decide)
    have hJw := (Jq.em (V := vRef V j) (by rw [ref 19 (by decide), ref 20 (by decide)]; exact hem)).endV (t := j) (by rw [ref 8 (by decide)]; exact hl3) (show 3 ≤ 4 by decide)
    have hRww : Rw (vEnd (vRef V j) j 4) := (hV.2.1.cong (ref 0 (by decide)) (ref 1 (by decide)) (ref 2 (by decide)) (ref 3 (by decide)) (ref 4 (by decide))).endV
    have h3w : vEnd (vRef V j) j 4 3 = V 3 := (vEnd_k (by decide) (by decide) (by decide) (by decide)).trans (ref 3 (by decide))
    obtain ⟨W, hW⟩ : ∃ W, W = vEnd (vRef V j) j 4 := ⟨_, rfl⟩
    rw [← hW] at hIw hJw hRww h3w hR1
    refine g_goto C 35 dX2_commit_27 (by decide) ?_
    refine g_istore_n C dX2_commit_35 (by decide) ?_
    first | refine g_aload_n C dX2_commit_36 rfl ?_ | refine g_aload_nq C _ dX2_commit_36 rfl ?_
    refine g_callC C (k_X2_retryQueued l D g A xa _ _ _ _ hB1 (by omega) (by omega) (by omega) hIw hJw hR1 hRww) gX2_commit_X2_retryQueued dX2_commit_37 (n := 0) rfl rfl rfl (by decide +kernel) ⟨Nat.le_of_ble_eq_true rfl, Nat.le_of_ble_eq_true rfl⟩ rfl rfl (Nat.le_of_ble_eq_true rfl) ⟨Nat.le_of_ble_eq_true rfl, Nat.le_of_ble_eq_true rfl⟩ (fun r I2 O2 L2 K2 hq => ?_)
    obtain ⟨⟨y1, y2, y3, y4⟩, hB2, hR2, hr⟩ := hq
    rw [y1, y2, hr]
    have h3z : vGoA W 3 = W 3 := vGoA_k W (by decide)
    obtain ⟨Z, hZ⟩ : ∃ Z, Z = vGoA W := ⟨_, rfl⟩
    rw [← hZ] at h3z hR2
    refine g_iload_n C dX2_commit_40 rfl ?_
    refine x_ret (g_iret C dX2_commit_41 rfl ⟨I2, O2, L, K, rfl, j, rfl, hj, hjc, ⟨hl3, hl1⟩, Or.inl ⟨h16r, ?_, rfl⟩⟩)
    rw [← hW, ← hZ]
    exact ⟨hB2.mono (by omega), by rw [y3, x3, hrc, h3z, h3w], own, hR2⟩
  · refine g_if_eq C 30 dX2_commit_19 (by decide) (by decide) (fun c19 => ?_) (fun c19 => absurd c19 (by decide))
    first | refine g_aload_n C dX2_commit_30 rfl ?_ | refine g_aload_nq C _ dX2_commit_30 rfl ?_
    first | refine g_aload_n C dX2_commit_31 rfl ?_ | refine g_aload_nq C _ dX2_commit_31 rfl ?_
    refine g_callC C (k_X2_makeVersion l D g A xa _ _ _ _ hB hN hN2 hV.1 hR hrc hV.2.1 j hjc (fun k hk => hV.2.2.1.1 j k hjc hk hl3) (fun k hk => hV.2.2.1.2.1 _) hem (hV.2.2.2.1.1 j hjc) (tx O j) rfl) gX2_commit_X2_makeVersion dX2_commit_32 (n := 1) rfl rfl rfl (by decide +kernel) ⟨Nat.le_of_ble_eq_true rfl, Nat.le_of_ble_eq_true rfl⟩ rfl rfl (Nat.le_of_ble_eq_true rfl) ⟨Nat.le_of_ble_eq_true rfl, Nat.le_of_ble_eq_true rfl⟩ (fun r I1 O1 L1 K1 hq => ?_)
    obtain ⟨x4, hB1, hrc1, ⟨own1, hR1⟩, hr⟩ := hq
    rw [hr]
    have hIw := hV.1.commitV hjc hl3
    have eA : ∀ b, b ≠ 0 → b ≠ 1 → b ≠ 2 → b ≠ 3 → b ≠ 4 → vRwA V j b = V b := fun b h0 h1 h2 h3 h4 => vRwA_k V j h0 h1 h2 h3 h4
    have hJw := (Jq.em (V := vRwA V j) (by rw [eA 19 (by decide) (by decide) (by decide) (by decide) (by decide), eA 20 (by decide) (by decide) (by decide) (by decide) (by decide)]; exact hem)).endV (t := j) (by rw [eA 8 (by decide) (by decide) (by decide) (by decide) (by decide)]; exact hl3) (show 3 ≤ 3 by decide)
    have hRww : Rw (vEnd (vRwA V j) j 3) := (hV.2.1.rwA).endV
    have h3w : vEnd (vRwA V j) j 3 3 = vRwA V j 3 := vEnd_k (by decide) (by decide) (by decide) (by decide)
    obtain ⟨W, hW⟩ : ∃ W, W = vEnd (vRwA V j) j 3 := ⟨_, rfl⟩
    rw [← hW] at hIw hJw hRww h3w hR1
    refine g_istore_n C dX2_commit_35 (by decide) ?_
    first | refine g_aload_n C dX2_commit_36 rfl ?_ | refine g_aload_nq C _ dX2_commit_36 rfl ?_
    refine g_callC C (k_X2_retryQueued l D g A xa _ _ _ _ hB1 (by omega) (by omega) (by omega) hIw hJw hR1 hRww) gX2_commit_X2_retryQueued dX2_commit_37 (n := 0) rfl rfl rfl (by decide +kernel) ⟨Nat.le_of_ble_eq_true rfl, Nat.le_of_ble_eq_true rfl⟩ rfl rfl (Nat.le_of_ble_eq_true rfl) ⟨Nat.le_of_ble_eq_true rfl, Nat.le_of_ble_eq_true rfl⟩ (fun r I2 O2 L2 K2 hq => ?_)
    obtain ⟨⟨y1, y2, y3, y4⟩, hB2, hR2, hr⟩ := hq
    rw [y1, y2, hr]
    have h3z : vGoA W 3 = W 3 := vGoA_k W (by decide)
    obtain ⟨Z, hZ⟩ : ∃ Z, Z = vGoA W := ⟨_, rfl⟩
    rw [← hZ] at h3z hR2
    refine g_iload_n C dX2_commit_40 rfl ?_
    refine x_ret (g_iret C dX2_commit_41 rfl ⟨I2, O2, L1, K1, rfl, j, rfl, hj, hjc, ⟨hl3, hl1⟩, Or.inr ⟨h16r, ?_, rfl⟩⟩)
    rw [← hW, ← hZ]
    exact ⟨hB2.mono (by omega), by rw [y3, hrc1, h3z, h3w], own1, hR2⟩
