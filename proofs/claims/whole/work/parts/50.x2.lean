theorem BdN.nz {I : VV} {N q : Nat} (h : BdN I N) (hN : 0 < N) : BdN (nz I q) N := fun k a => by
  show (if 20 ≤ k ∧ a = q then 0 else I k a) < N
  split
  · exact hN
  · exact h k a
set_option maxRecDepth 100000 in
set_option maxHeartbeats 1000000 in
theorem k_X1_init (l : Launch) (D : va_G) (g : Nat → ClassId) (A : Nat → Prop) (xa : Nat → Nat) (I : VV) (O : OO) (L : List Nat) (K : Nat → Nat) (a n b v : Nat) (haL : a ∈ L) (haK : K a = 1) (hb : b ≤ 1) : CC l yX1_init wsX1_init ({ frames := 1, cells := 1, slots := 4, locals := 12 } : Room) 1 4 D g A xa [.ref a, .int (nI n), .int (nI b), .int (nI v)] I O L K (fun r I1 O1 L1 K1 => ∃ q, q ∉ L ∧ I1 = u2 (nz (u2 (u2 (u2 I 12 a n) 13 a b) 14 a v) q) 16 a 0 ∧ O1 = u2 O 6 a (some q) ∧ L1 = L ++ [q] ∧ K1 = va_up K q 2 ∧ r = none) := by
  have i1 : ∀ w ∈ wsX10, w ∈ wsX1_init := by decide +kernel
  refine k_ofWI [(0, .ref a), (1, .int (nI n)), (2, .int (nI b)), (3, .int (nI v))] (by decide) rfl (Nat.le_of_ble_eq_true rfl) rfl (by simp [Value.category]) ?_
  intro p e s m args below meth c C hin2
  have hin2 : meth.name = "<init>" := hin2
  first | refine g_aload_n C dX1_init_0 rfl ?_ | refine g_aload_nq C _ dX1_init_0 rfl ?_
  refine g_objInit C (by decide +kernel) (by decide +kernel) (List.mem_of_getElem? (i := 3) rfl) dX1_init_1 (Nat.le_of_ble_eq_true rfl) (Nat.le_of_ble_eq_true rfl) ?_
  first | refine g_aload_n C dX1_init_4 rfl ?_ | refine g_aload_nq C _ dX1_init_4 rfl ?_
  refine g_iload_n C dX1_init_5 rfl ?_
  refine tp_number C hin2 rfl (by assumption) (by assumption) i1 (by decide +kernel) dX1_init_6 ?_
  first | refine g_aload_n C dX1_init_9 rfl ?_ | refine g_aload_nq C _ dX1_init_9 rfl ?_
  refine g_iload_n C dX1_init_10 rfl ?_
  refine tp_writer C (by omega) hin2 rfl (by assumption) (by assumption) i1 (by decide +kernel) dX1_init_11 ?_
  first | refine g_aload_n C dX1_init_14 rfl ?_ | refine g_aload_nq C _ dX1_init_14 rfl ?_
  refine g_iload_n C dX1_init_15 rfl ?_
  refine tp_sees C hin2 rfl (by assumption) (by assumption) i1 (by decide +kernel) dX1_init_16 ?_
  first | refine g_aload_n C dX1_init_19 rfl ?_ | refine g_aload_nq C _ dX1_init_19 rfl ?_
  refine g_iconst C 4 dX1_init_20 (by decide) ?_
  refine g_newNoted C (by decide +kernel) (Nat.le_of_ble_eq_true rfl) (Nat.le_of_ble_eq_true rfl) dX1_init_21 (fun q hq9 => ?_)
  have hne : a ≠ q := fun z => hq9 (z ▸ haL)
  have haL2 : a ∈ L ++ [q] := List.mem_append_left _ haL
  have haK2 : va_up K q 2 a = 1 := by rw [va_up_ne _ _ hne]; exact haK
  refine tp_noted (r := some _) C hin2 rfl (by assumption) (by assumption) i1 (by decide +kernel) dX1_init_23 ?_
  first | refine g_aload_n C dX1_init_26 rfl ?_ | refine g_aload_nq C _ dX1_init_26 rfl ?_
  refine g_iconst C 0 dX1_init_27 (by decide) ?_
  refine tp_state C (by assumption) (by assumption) i1 (by decide +kernel) dX1_init_28 ?_
  exact g_vret C dX1_init_31 rfl (⟨_, _, _, _, rfl, q, hq9, rfl, rfl, rfl, rfl, rfl⟩)
set_option maxRecDepth 100000 in
set_option maxHeartbeats 1000000 in
theorem k_X2_enter (l : Launch) (hst : l.stackTraces = false) (D : va_G) (g : Nat → ClassId) (A : Nat → Prop) (xa : Nat → Nat) (I : VV) (O : OO) (L : List Nat) (K : Nat → Nat) {N : Nat} (hB : BdN I N) (hN : N ≤ 2 ^ 30) {V : VV} {own : Nat → Nat} (hN2 : 20000 ≤ N) (hV : Inv V) (hR : RC V I O L K own) (b v : Nat) (hb : b ≤ 1) (hv : v ≤ V 4 0) : CM l yX2_enter wsX2_enter ({ frames := 6, cells := 2, slots := 15, locals := 82 } : Room) 2 15 D g A xa [.ref (xa 0), .int (nI b), .int (nI v)] I O L K (fun r I1 O1 L1 K1 => V 16 0 < 60 ∧ BdN I1 N ∧ I1 1 = I 1 ∧ RC (vStart V b v) I1 O1 L1 K1 own ∧ r = some (.int (nI (V 16 0)))) (fun E => E = xIS ∧ 60 ≤ V 16 0) := by
  refine x_ofW [(0, .ref (xa 0)), (1, .int (nI b)), (2, .int (nI v))] (by decide) rfl (Nat.le_of_ble_eq_true rfl) rfl (by simp [Value.category, vcat_rf]) ?_
  intro p e s m args below meth c C T9 hx9
  have i1 : ∀ w ∈ wsX10, w ∈ wsX2_enter := by decide +kernel
  have i2 : ∀ w ∈ wsX20, w ∈ wsX2_enter := by decide +kernel
  have hbeg : I 0 0 = V 16 0 := hR.1.1
  have hC := hV.1.1
  have hla := hV.1.lat
  first | refine g_aload_n C dX2_enter_0 rfl ?_ | refine g_aload_nq C _ dX2_enter_0 rfl ?_
  refine cg_begun C i2 (by decide +kernel) dX2_enter_1 ?_
  rw [hbeg]
  refine g_bipush C 60 dX2_enter_4 (by decide) ?_
  refine g_icmp_lt C 19 dX2_enter_6 (by decide) (by omega) (by decide) (fun c6 => ?_) (fun c6 => ?_)
  · first | refine g_aload_n C dX2_enter_19 rfl ?_ | refine g_aload_nq C _ dX2_enter_19 rfl ?_
    refine cg_begun C i2 (by decide +kernel) dX2_enter_20 ?_
    rw [hbeg]
    refine g_istore_n C dX2_enter_23 (by decide) ?_
    first | refine g_aload_n C dX2_enter_24 rfl ?_ | refine g_aload_nq C _ dX2_enter_24 rfl ?_
    refine cg_transactions C i2 (by decide +kernel) dX2_enter_25 ?_
    refine g_iload_n C dX2_enter_28 rfl ?_
    refine g_newTx C i1 (by decide +kernel) (by decide +kernel) (by decide +kernel) dX2_enter_29 (Nat.le_of_ble_eq_true rfl) (Nat.le_of_ble_eq_true rfl) (fun a ha9 => ?_)
    have haL : a ∈ L ++ [a] := List.mem_append_right _ (List.mem_singleton.mpr rfl)
    have haK : va_up K a 1 a = 1 := va_up_self _ _ _
    refine g_dup C dX2_enter_32 (by first | rfl | exact vcat_rf _) ?_
    refine g_iload_n C dX2_enter_33 rfl ?_
    refine g_iload_n C dX2_enter_34 rfl ?_
    refine g_iload_n C dX2_enter_35 rfl ?_
    refine g_callI C (k_X1_init l D g A xa _ _ _ _ a (V 16 0) b v haL haK hb) gX2_enter_X1_init (n := 3) rfl rfl rfl (by decide +kernel) (by decide +kernel) (by decide +kernel) rfl (by decide +kernel) ⟨Nat.le_of_ble_eq_true rfl, Nat.le_of_ble_eq_true rfl⟩ rfl rfl (Nat.le_of_ble_eq_true rfl) dX2_enter_36 ⟨Nat.le_of_ble_eq_true rfl, Nat.le_of_ble_eq_true rfl⟩ (fun r w hq => ?_)
    obtain ⟨I9, O9, L9, K9, rfl, q, hq9, hI9, hO9, hL9, hK9, rfl⟩ := hq
    have hne : a ≠ q := fun z => hq9 (z ▸ haL)
    have hqL : q ∉ L := fun z => hq9 (List.mem_append_left _ z)
    have haL9 : a ∈ L9 := by rw [hL9]; exact List.mem_append_left _ haL
    have haK9 : K9 a = 1 := by rw [hK9, va_up_ne _ _ hne]; exact haK
    have hb0 : I9 0 0 = V 16 0 := by rw [hI9]; exact hbeg
    first | refine csn_transactions C dX2_enter_39 (by omega) ?_ | refine css_transactions C (by assumption) (by assumption) dX2_enter_39 (by omega) ?_
    first | refine g_aload_n C dX2_enter_40 rfl ?_ | refine g_aload_nq C _ dX2_enter_40 rfl ?_
    refine g_dup C dX2_enter_41 (by first | rfl | exact vcat_rf _) ?_
    refine cg_begun C i2 (by decide +kernel) dX2_enter_42 ?_
    rw [hb0]
    refine g_iconst C 1 dX2_enter_45 (by decide) ?_
    first | refine g_iadd C dX2_enter_46 ?_ | refine g_iaddx C dX2_enter_46 ?_
    refine cp_begun C i2 (by decide +kernel) dX2_enter_47 ?_
    refine g_iload_n C dX2_enter_50 rfl ?_
    refine x_ret (g_iret C dX2_enter_51 rfl ⟨_, _, L9, K9, rfl, by omega, ?_, ?_, ?_, rfl⟩)
    · refine BdN.up ?_ (by omega)
      rw [hI9]
      exact ((((((((((((hB.up (by omega)).up (by omega)).up (by omega)).up (by omega)).up (by omega)).up (by omega)).up (by omega)).up (by omega)).up (by omega)).up (by omega)).up (by omega)).nz (by omega)).up (by omega)
    · rw [hI9]; rfl
    · refine hR.start (a := a) (q := q) hV ha9 hqL hne ?_ (fun x h1 h2 => ?_) (fun x z h1 h2 h3 => ?_) ⟨?_, ?_, ?_, ?_, ?_⟩ (fun g9 hg => ?_) ⟨?_, fun j hj => ?_⟩ (fun x hx => ?_) (fun x z hx hz => ?_) ⟨?_, ?_⟩ (fun z => ?_) ⟨haK9, ?_, fun z hz => ?_⟩
      · rw [u2_same]
      · have h0 : x ≠ 0 := by omega
        funext z
        rw [u2_nk _ _ _ _ h0, hI9, u2_nk _ _ _ _ (by omega), nz_lo _ _ (by omega)]
        rw [u2_nk _ _ _ _ (by omega), u2_nk _ _ _ _ (by omega), u2_nk _ _ _ _ (by omega), u2_nk _ _ _ _ (by omega), u2_nk _ _ _ _ (by omega), u2_nk _ _ _ _ (by omega), u2_nk _ _ _ _ (by omega), u2_nk _ _ _ _ (by omega), u2_nk _ _ _ _ (by omega), u2_nk _ _ _ _ (by omega), u2_nk _ _ _ _ (by omega)]
      · have h0 : x ≠ 0 := by omega
        rw [u2_nk _ _ _ _ h0, hI9, u2_ni _ _ _ _ h2, nz_ne _ _ _ h3]
        rw [u2_ni _ _ _ _ h2, u2_ni _ _ _ _ h2, u2_ni _ _ _ _ h2, u2_ni _ _ _ _ h2, u2_ni _ _ _ _ h2, u2_ni _ _ _ _ h2, u2_ni _ _ _ _ h2, u2_ni _ _ _ _ h2, u2_ni _ _ _ _ h2, u2_ni _ _ _ _ h2, u2_ni _ _ _ _ h2]
      · rw [u2_nk _ _ _ _ (by decide), hI9, u2_nk _ _ _ _ (by decide), nz_lo _ _ (by decide)]; simp [u2_eq]
      · rw [u2_nk _ _ _ _ (by decide), hI9, u2_nk _ _ _ _ (by decide), nz_lo _ _ (by decide)]; simp [u2_eq]
      · rw [u2_nk _ _ _ _ (by decide), hI9, u2_nk _ _ _ _ (by decide), nz_lo _ _ (by decide)]; simp [u2_eq]
      · rw [u2_nk _ _ _ _ (by decide), hI9, u2_nk _ _ _ _ (by decide), nz_lo _ _ (by decide)]; simp [u2_eq]
      · rw [u2_nk _ _ _ _ (by decide), hI9, u2_same]
      · rw [u2_nk _ _ _ _ (by omega), hI9, u2_nk _ _ _ _ (by omega), nz_at]
      · rw [u2_same]
      · rw [u2_ni _ _ _ _ hj, hO9]; rfl
      · rw [hO9]
        rcases hx with rfl | rfl | rfl | rfl | rfl <;> rfl
      · rw [hO9]
        rcases hx with rfl | rfl | rfl <;> simp [u2_eq, hz]
      · rw [hO9]; simp [u2_eq]
      · rw [hO9]; simp [u2_eq]
      · rw [hL9]; simp [or_assoc]
      · rw [hK9, va_up_self]
      · rw [hK9, va_up_ne _ _ (show z ≠ q from fun y => hqL (y ▸ hz)), va_up_ne _ _ (show z ≠ a from fun y => ha9 (y ▸ hz))]
  · exact x_throw C hst T9 hx9 "no room for one more transaction" (Or.inr ⟨rfl, rfl, rfl⟩) (by decide +kernel) (by decide +kernel) (fun w hw => List.mem_cons_of_mem _ (List.mem_append_right _ hw)) (by decide) dX2_enter_9 dX2_enter_12 dX2_enter_13 dX2_enter_15 dX2_enter_18 (Nat.le_of_ble_eq_true rfl) (Nat.le_of_ble_eq_true rfl) (Nat.le_of_ble_eq_true rfl) (Nat.le_of_ble_eq_true rfl) ⟨rfl, rfl, by omega⟩ (Nat.le_of_ble_eq_true rfl) (Nat.le_of_ble_eq_true rfl)
