theorem vLK_le (V : VV) : vLK V ≤ V 4 0 := Nat.le_trans (vLP_le V 64) (vLT_le V _)
set_option maxRecDepth 100000 in
set_option maxHeartbeats 1000000 in
theorem k_X2_countRows (l : Launch) (D : va_G) (g : Nat → ClassId) (A : Nat → Prop) (xa : Nat → Nat) (I : VV) (O : OO) (L : List Nat) (K : Nat → Nat) {own : Nat → Nat} {k : Nat} {l0 : List (Nat × Nat)} (o : Option Nat) (hch : Ch I O L K own k o l0) : CC l yX2_countRows wsX2_countRows ({ frames := 0, cells := 0, slots := 0, locals := 0 } : Room) 0 0 D g A xa [va_rf o] I O L K (fun r I1 O1 L1 K1 => (I1 = I ∧ O1 = O ∧ L1 = L ∧ K1 = K) ∧ r = some (.int (nI l0.length))) := by
  have i0 : ∀ w ∈ wsX00, w ∈ wsX2_countRows := by decide +kernel
  have go : ∀ (p : Program) (e : Env) (s : State) (m : MethodId) (args : Array Value) (below : List Frame) (meth : Method) (c : Code), CX p s m args meth c cX2_countRows 3 wsX2_countRows RX2 D (tyG g) A s.heap (some .int) → ∀ (l2 : List (Nat × Nat)) (o2 : Option Nat) (n : Nat), Ch I O L K own k o2 l2 → n + l2.length = l0.length → GG p l e ({ frames := 0, cells := 0, slots := 0, locals := 0 } : Room) s m args below meth c (cQ below D g A xa args s 0 0 (fun r I1 O1 L1 K1 => (I1 = I ∧ O1 = O ∧ L1 = L ∧ K1 = K) ∧ r = some (.int (nI l0.length)))) 3 D A s.heap (cW g xa I O L K) (0) (0) 4 [(0, va_rf o), (1, .int (nI n)), (2, va_rf o2)] [] := by
    intro p e s m args below meth c C l2
    induction l2 with
    | nil =>
      intro o2 n ho hn
      have ho : o2 = none := ho
      subst ho
      refine g_aload_nq C none dX2_countRows_4 rfl ?_
      refine g_ifnull C 19 dX2_countRows_5 (by decide) (fun c5 => ?_) (fun a5 c5 => ?_)
      · refine g_iload_n C dX2_countRows_19 rfl ?_
        exact g_iret C dX2_countRows_20 rfl (⟨I, O, L, K, rfl, ⟨rfl, rfl, rfl, rfl⟩, by rw [← hn]; rfl⟩)
      · exact absurd c5 (by simp)
    | cons q l9 ih =>
      intro o2 n ho hn
      obtain ⟨a, ha, haL, haK, ho1, h10, h11, hnx⟩ := ho
      subst ha
      refine g_aload_nq C (some a) dX2_countRows_4 rfl ?_
      refine g_ifnull C 19 dX2_countRows_5 (by decide) (fun c5 => ?_) (fun a5 c5 => ?_)
      · exact absurd c5 (by simp)
      · refine g_iinc C dX2_countRows_8 rfl (by decide) ?_
        refine g_aload_nq C (some a) dX2_countRows_11 rfl ?_
        refine rg_older C (by assumption) (by assumption) i0 (by decide +kernel) dX2_countRows_12 ?_
        first | refine g_astore_n C dX2_countRows_15 (by decide) ?_ | refine g_astore_nq C dX2_countRows_15 (by decide) ?_
        refine g_goto C 4 dX2_countRows_16 (by decide) ?_
        exact ih _ (n + 1) hnx (by rw [List.length_cons] at hn; omega)
  cases o with
  | none =>
    refine k_ofW [(0, .null)] (by decide) rfl (Nat.le_of_ble_eq_true rfl) rfl (by simp [Value.category]) ?_
    intro p e s m args below meth c C
    refine g_iconst C 0 dX2_countRows_0 (by decide) ?_
    refine g_istore_n C dX2_countRows_1 (by decide) ?_
    refine g_aload_nq C none dX2_countRows_2 rfl ?_
    first | refine g_astore_n C dX2_countRows_3 (by decide) ?_ | refine g_astore_nq C dX2_countRows_3 (by decide) ?_
    exact go p e s m args below meth c C l0 _ 0 hch (Nat.zero_add _)
  | some x =>
    refine k_ofW [(0, .ref x)] (by decide) rfl (Nat.le_of_ble_eq_true rfl) rfl (by simp [Value.category]) ?_
    intro p e s m args below meth c C
    refine g_iconst C 0 dX2_countRows_0 (by decide) ?_
    refine g_istore_n C dX2_countRows_1 (by decide) ?_
    first | refine g_aload_n C dX2_countRows_2 rfl ?_ | refine g_aload_nq C _ dX2_countRows_2 rfl ?_
    first | refine g_astore_n C dX2_countRows_3 (by decide) ?_ | refine g_astore_nq C dX2_countRows_3 (by decide) ?_
    exact go p e s m args below meth c C l0 _ 0 hch (Nat.zero_add _)
set_option maxRecDepth 100000 in
set_option maxHeartbeats 1000000 in
theorem k_X2_cutBelow (l : Launch) (D : va_G) (g : Nat → ClassId) (A : Nat → Prop) (xa : Nat → Nat) (I : VV) (O : OO) (L : List Nat) (K : Nat → Nat) (k : Nat) (hk : k < 200) (o : Option Nat) (ho : ∀ b, o = some b → b ∈ L ∧ K b = 0) : CC l yX2_cutBelow wsX2_cutBelow ({ frames := 0, cells := 0, slots := 0, locals := 0 } : Room) 0 0 D g A xa [.ref (xa 0), .int (nI k), va_rf o] I O L K (fun r I1 O1 L1 K1 => I1 = I ∧ O1 = (match o with | none => u2 O 3 k none | some b => u2 O 5 b none) ∧ L1 = L ∧ K1 = K ∧ r = none) := by
  have i0 : ∀ w ∈ wsX00, w ∈ wsX2_cutBelow := by decide +kernel
  have i2 : ∀ w ∈ wsX20, w ∈ wsX2_cutBelow := by decide +kernel
  cases o with
  | none =>
    refine k_ofW [(0, .ref (xa 0)), (1, .int (nI k)), (2, .null)] (by decide) rfl (Nat.le_of_ble_eq_true rfl) rfl (by simp [Value.category]) ?_
    intro p e s m args below meth c C
    refine g_aload_nq C none dX2_cutBelow_0 rfl ?_
    refine g_ifnonnull C 14 dX2_cutBelow_1 (by decide) (fun a1 c1 => ?_) (fun c1 => ?_)
    · exact absurd c1 (by simp)
    · first | refine g_aload_n C dX2_cutBelow_4 rfl ?_ | refine g_aload_nq C _ dX2_cutBelow_4 rfl ?_
      refine cg_newest C i2 (by decide +kernel) dX2_cutBelow_5 ?_
      refine g_iload_n C dX2_cutBelow_8 rfl ?_
      refine g_null C dX2_cutBelow_9 ?_
      first | refine csn_newest C dX2_cutBelow_10 (by omega) ?_ | refine css_newest C (by assumption) (by assumption) dX2_cutBelow_10 (by omega) ?_
      refine g_goto C 19 dX2_cutBelow_11 (by decide) ?_
      exact g_vret C dX2_cutBelow_19 rfl (⟨_, _, _, _, rfl, rfl, rfl, rfl, rfl, rfl⟩)
  | some x =>
    refine k_ofW [(0, .ref (xa 0)), (1, .int (nI k)), (2, .ref x)] (by decide) rfl (Nat.le_of_ble_eq_true rfl) rfl (by simp [Value.category]) ?_
    intro p e s m args below meth c C
    obtain ⟨xL, xK⟩ := ho x rfl
    refine g_aload_nq C (some x) dX2_cutBelow_0 rfl ?_
    refine g_ifnonnull C 14 dX2_cutBelow_1 (by decide) (fun a1 c1 => ?_) (fun c1 => ?_)
    · first | refine g_aload_n C dX2_cutBelow_14 rfl ?_ | refine g_aload_nq C _ dX2_cutBelow_14 rfl ?_
      refine g_null C dX2_cutBelow_15 ?_
      first | refine rp_older (r := some _) C (by assumption) (by assumption) i0 (by decide +kernel) dX2_cutBelow_16 ?_ | refine rp_older C (by assumption) (by assumption) i0 (by decide +kernel) dX2_cutBelow_16 ?_
      exact g_vret C dX2_cutBelow_19 rfl (⟨_, _, _, _, rfl, rfl, rfl, rfl, rfl, rfl⟩)
    · exact absurd c1 (by simp)
set_option maxRecDepth 100000 in
set_option maxHeartbeats 1000000 in
theorem k_X2_dropOldRows (l : Launch) (D : va_G) (g : Nat → ClassId) (A : Nat → Prop) (xa : Nat → Nat) (I : VV) (O : OO) (L : List Nat) (K : Nat → Nat) {N : Nat} (hB : BdN I N) (hN : N ≤ 2 ^ 30) {own : Nat → Nat} {l0 : List (Nat × Nat)} (k v : Nat) (hk : k < 200) (hv : v < 2 ^ 30) (hch : Ch I O L K own k (O 3 k) l0) (hds : dsc l0) : CC l yX2_dropOldRows wsX2_dropOldRows ({ frames := 1, cells := 0, slots := 0, locals := 22 } : Room) 0 0 D g A xa [.ref (xa 0), .int (nI k), .int (nI v)] I O L K (fun r I1 O1 L1 K1 => I1 = I ∧ L1 = L ∧ K1 = K ∧ (∀ x, x ≠ 3 → x ≠ 5 → O1 x = O x) ∧ (∀ j, j ≠ k → O1 3 j = O 3 j) ∧ (∀ a, own a ≠ k → O1 5 a = O 5 a) ∧ Ch I O1 L K own k (O1 3 k) (drL l0 v) ∧ r = some (.int (nI (l0.length - (drL l0 v).length)))) := by
  refine k_ofW [(0, .ref (xa 0)), (1, .int (nI k)), (2, .int (nI v))] (by decide) rfl (Nat.le_of_ble_eq_true rfl) rfl (by simp [Value.category, vcat_rf]) ?_
  intro p e s m args below meth c C
  have i0 : ∀ w ∈ wsX00, w ∈ wsX2_dropOldRows := by decide +kernel
  have i2 : ∀ w ∈ wsX20, w ∈ wsX2_dropOldRows := by decide +kernel
  have loop : ∀ (l2 : List (Nat × Nat)) (ab o : Option Nat), Ch I O L K own k o l2 → (∀ b, ab = some b → b ∈ L ∧ K b = 0 ∧ own b = k) → wkC O v l2 ab o = wkC O v l0 none (O 3 k) → l2.length - (drL l2 v).length = l0.length - (drL l0 v).length → GG p l e ({ frames := 1, cells := 0, slots := 0, locals := 22 } : Room) s m args below meth c (cQ below D g A xa args s 0 0 (fun r I1 O1 L1 K1 => I1 = I ∧ L1 = L ∧ K1 = K ∧ (∀ x, x ≠ 3 → x ≠ 5 → O1 x = O x) ∧ (∀ j, j ≠ k → O1 3 j = O 3 j) ∧ (∀ a, own a ≠ k → O1 5 a = O 5 a) ∧ Ch I O1 L K own k (O1 3 k) (drL l0 v) ∧ r = some (.int (nI (l0.length - (drL l0 v).length))))) 6 D A s.heap (cW g xa I O L K) (0) (0) 10 [(0, .ref (xa 0)), (1, .int (nI k)), (2, .int (nI v)), (3, va_rf ab), (4, va_rf o)] [] := by
    intro l2
    induction l2 with
    | nil =>
      intro ab o ho hab hwk hlen
      have ho : o = none := ho
      subst ho
      refine g_aloadq C none dX2_dropOldRows_10 rfl ?_
      refine g_ifnull C 37 dX2_dropOldRows_12 (by decide) (fun c12 => ?_) (fun a12 c12 => ?_)
      · refine g_aloadq C none dX2_dropOldRows_37 rfl ?_
        refine g_ifnonnull C 44 dX2_dropOldRows_39 (by decide) (fun a39 c39 => ?_) (fun c39 => ?_)
        · exact absurd c39 (by simp)
        · refine g_iconst C 0 dX2_dropOldRows_42 (by decide) ?_
          exact g_iret C dX2_dropOldRows_43 rfl (⟨I, O, L, K, rfl, rfl, rfl, rfl, fun _ _ _ => rfl, fun _ _ => rfl, fun _ _ => rfl, by rw [wkC_none hch (show (wkC O v l0 none (O 3 k)).2 = none by rw [← hwk]; rfl)]; exact hch, by rw [← hlen]; rfl⟩)
      · exact absurd c12 (by simp)
    | cons q l9 ih =>
      intro ab o ho hab hwk hlen
      obtain ⟨a, ha, haL, haK, hoa, h10, h11, hnx⟩ := ho
      subst ha
      have hwc : wkC O v (q :: l9) ab (some a) = if v < q.1 then wkC O v l9 (some a) (O 5 a) else (ab, some a) := rfl
      have hdr : drL (q :: l9) v = if v < q.1 then q :: drL l9 v else if 0 < q.2 then [q] else [] := rfl
      have h11b : I 11 a < N := hB 11 a
      refine g_aloadq C (some a) dX2_dropOldRows_10 rfl ?_
      refine g_ifnull C 37 dX2_dropOldRows_12 (by decide) (fun c12 => ?_) (fun a12 c12 => ?_)
      · exact absurd c12 (by simp)
      · refine g_aloadq C (some a) dX2_dropOldRows_15 rfl ?_
        refine rg_version C (by assumption) (by assumption) i0 (by decide +kernel) dX2_dropOldRows_17 ?_
        refine g_iload_n C dX2_dropOldRows_20 rfl ?_
        refine g_icmp_le C 37 dX2_dropOldRows_21 (by decide) (bd hB hN _ _) (by omega) (fun c21 => ?_) (fun c21 => ?_)
        · refine g_aloadq C (some a) dX2_dropOldRows_37 rfl ?_
          refine g_ifnonnull C 44 dX2_dropOldRows_39 (by decide) (fun a39 c39 => ?_) (fun c39 => ?_)
          · have c21 : ¬ v < q.1 := by rw [h10] at c21; omega
            rw [if_neg c21] at hwc hdr
            rw [hwc] at hwk
            refine g_aloadq C (some a) dX2_dropOldRows_44 rfl ?_
            refine rg_older C (by assumption) (by assumption) i0 (by decide +kernel) dX2_dropOldRows_46 ?_
            refine g_callCS C (k_X2_countRows l D g A xa _ _ _ _ (O 5 a) hnx) gX2_dropOldRows_X2_countRows dX2_dropOldRows_49 (n := 1) rfl rfl rfl (by decide +kernel) ⟨Nat.le_of_ble_eq_true rfl, Nat.le_of_ble_eq_true rfl⟩ rfl rfl (Nat.le_of_ble_eq_true rfl) ⟨by omega, by omega⟩ (fun r I1 O1 L1 K1 hq => ?_)
            obtain ⟨⟨e1, e2, e3, e4⟩, hq⟩ := hq
            rw [e1, e2, e3, e4]
            rw [hq]
            refine g_istore C dX2_dropOldRows_52 (by decide) ?_
            refine g_aloadq C (some a) dX2_dropOldRows_54 rfl ?_
            refine g_null C dX2_dropOldRows_56 ?_
            first | refine rp_older (r := some _) C (by assumption) (by assumption) i0 (by decide +kernel) dX2_dropOldRows_57 ?_ | refine rp_older C (by assumption) (by assumption) i0 (by decide +kernel) dX2_dropOldRows_57 ?_
            refine g_aloadq C (some a) dX2_dropOldRows_60 rfl ?_
            refine rg_there C (by assumption) (by assumption) i0 (by decide +kernel) dX2_dropOldRows_62 ?_
            refine g_if_ne C 77 dX2_dropOldRows_65 (by decide) (by omega) (fun c65 => ?_) (fun c65 => ?_)
            · refine g_iload C dX2_dropOldRows_77 rfl ?_
              exact g_iret C dX2_dropOldRows_79 rfl (⟨I, u2 O 5 a none, L, K, rfl, rfl, rfl, rfl, fun x _ h5 => by simp only [u2, if_neg h5], fun _ _ => rfl, fun b hb => u2_ni _ _ _ _ (fun z => hb (by rw [z]; exact hoa)), (show Ch I (u2 O 5 a none) L K own k (O 3 k) (drL l0 v) from wkC_keep (ab := none) hch (by rw [← hwk]) c65), by rw [← hlen, hdr, if_pos (by omega)]; rfl⟩)
            · first | refine g_aload_n C dX2_dropOldRows_68 rfl ?_ | refine g_aload_nq C _ dX2_dropOldRows_68 rfl ?_
              refine g_iload_n C dX2_dropOldRows_69 rfl ?_
              first | refine g_aload_n C dX2_dropOldRows_70 rfl ?_ | refine g_aload_nq C _ dX2_dropOldRows_70 rfl ?_
              refine g_callC C (k_X2_cutBelow l D g A xa _ _ _ _ k hk ab (fun b hb => ⟨(hab b hb).1, (hab b hb).2.1⟩)) gX2_dropOldRows_X2_cutBelow dX2_dropOldRows_71 (n := 2) rfl rfl rfl (by decide +kernel) ⟨Nat.le_of_ble_eq_true rfl, Nat.le_of_ble_eq_true rfl⟩ rfl rfl (Nat.le_of_ble_eq_true rfl) ⟨by omega, by omega⟩ (fun r I1 O1 L1 K1 hq => ?_)
              obtain ⟨e1, e2, e3, e4, rfl⟩ := hq
              rw [e1, e3, e4]
              refine g_iinc C dX2_dropOldRows_74 rfl (by decide) ?_
              refine g_iload C dX2_dropOldRows_77 rfl ?_
              cases ab with
              | none =>
                have e2 : O1 = u2 (u2 O 5 a none) 3 k none := e2
                exact g_iret C dX2_dropOldRows_79 rfl (⟨I, O1, L, K, rfl, rfl, rfl, rfl, fun x h3 h5 => by rw [e2]; simp only [u2, if_neg h5, if_neg h3], fun j hj => by rw [e2, u2_ni _ _ _ _ hj]; rfl, fun b hb => by rw [e2]; show u2 O 5 a none 5 b = _; exact u2_ni _ _ _ _ (fun z => hb (by rw [z]; exact hoa)), by rw [e2, u2_same, wkC_top hch hwk.symm c65]; rfl, by rw [← hlen, hdr, if_neg (by omega)]; rfl⟩)
              | some b9 =>
                obtain ⟨bL, bK, bO⟩ := hab b9 rfl
                have e2 : O1 = u2 (u2 O 5 a none) 5 b9 none := e2
                exact g_iret C dX2_dropOldRows_79 rfl (⟨I, O1, L, K, rfl, rfl, rfl, rfl, fun x h3 h5 => by rw [e2]; simp only [u2, if_neg h5], fun j hj => by rw [e2]; rfl, fun b hb => by rw [e2]; show u2 (u2 O 5 a none) 5 b9 none 5 b = _; rw [u2_ni _ _ _ _ (fun z => hb (by rw [z]; exact bO)), u2_ni _ _ _ _ (fun z => hb (by rw [z]; exact hoa))], by rw [e2]; exact wkC_cut hch hds hwk.symm c65, by rw [← hlen, hdr, if_neg (by omega)]; rfl⟩)
          · exact absurd c39 (by simp)
        · have c21 : v < q.1 := by rw [h10] at c21; omega
          rw [if_pos c21] at hwc hdr
          refine g_aloadq C (some a) dX2_dropOldRows_24 rfl ?_
          first | refine g_astore_n C dX2_dropOldRows_26 (by decide) ?_ | refine g_astore_nq C dX2_dropOldRows_26 (by decide) ?_
          refine g_aloadq C (some a) dX2_dropOldRows_27 rfl ?_
          refine rg_older C (by assumption) (by assumption) i0 (by decide +kernel) dX2_dropOldRows_29 ?_
          first | refine g_astore C dX2_dropOldRows_32 (by decide) ?_ | refine g_astoreq C dX2_dropOldRows_32 (by decide) ?_
          refine g_goto C 10 dX2_dropOldRows_34 (by decide) ?_
          exact ih (some a) (O 5 a) hnx (fun b hb => by rw [← Option.some.inj hb]; exact ⟨haL, haK, hoa⟩) (by rw [← hwc]; exact hwk) (by rw [← hlen, hdr, List.length_cons, List.length_cons]; omega)
  refine g_null C dX2_dropOldRows_0 ?_
  first | refine g_astore_n C dX2_dropOldRows_1 (by decide) ?_ | refine g_astore_nq C dX2_dropOldRows_1 (by decide) ?_
  first | refine g_aload_n C dX2_dropOldRows_2 rfl ?_ | refine g_aload_nq C _ dX2_dropOldRows_2 rfl ?_
  refine cg_newest C i2 (by decide +kernel) dX2_dropOldRows_3 ?_
  refine g_iload_n C dX2_dropOldRows_6 rfl ?_
  refine cl_newest C dX2_dropOldRows_7 (by omega) ?_
  first | refine g_astore C dX2_dropOldRows_8 (by decide) ?_ | refine g_astoreq C dX2_dropOldRows_8 (by decide) ?_
  exact loop l0 none _ hch (fun b hb => absurd hb (by simp)) rfl rfl
set_option maxRecDepth 100000 in
set_option maxHeartbeats 1000000 in
theorem k_X2_free (l : Launch) (D : va_G) (g : Nat → ClassId) (A : Nat → Prop) (xa : Nat → Nat) (I : VV) (O : OO) (L : List Nat) (K : Nat → Nat) {N : Nat} (hB : BdN I N) (hN : N ≤ 2 ^ 30) {V : VV} {own : Nat → Nat} (hI : Iv V) (hR : RC V I O L K own) (hrc : I 1 0 = V 3 0) (hRw : Rw V) (hSt : ∀ i, i < V 16 0 → V 8 i ≤ 4) : CC l yX2_free wsX2_free ({ frames := 2, cells := 0, slots := 0, locals := 47 } : Room) 0 0 D g A xa [.ref (xa 0)] I O L K (fun r I1 O1 L1 K1 => L1 = L ∧ K1 = K ∧ O1 2 = O 2 ∧ BdN I1 N ∧ I1 1 0 = vFree V 3 0 ∧ RC (vFree V) I1 O1 L K own ∧ r = some (.int (nI (V 3 0 - vFree V 3 0)))) := by
  refine k_ofW [(0, .ref (xa 0))] (by decide) rfl (Nat.le_of_ble_eq_true rfl) rfl (by simp [Value.category, vcat_rf]) ?_
  intro p e s m args below meth c C
  have i0 : ∀ w ∈ wsX00, w ∈ wsX2_free := by decide +kernel
  have i1 : ∀ w ∈ wsX10, w ∈ wsX2_free := by decide +kernel
  have i2 : ∀ w ∈ wsX20, w ∈ wsX2_free := by decide +kernel
  have hla := hI.lat
  have hC := hI.1
  have hvk : vLK V ≤ V 4 0 := vLK_le V
  have hsm : sm (fun k => (chV V k (V 3 0)).length) 200 = V 3 0 := sm_chV _ (fun j hj => (hRw.1 j hj).1)
  have hsm2 : sm (fun k => (drL (chV V k (V 3 0)) (vLK V)).length) 200 = vFree V 3 0 := by
    rw [sm_cong (h := fun k => (chV (vFree V) k (vFree V 3 0)).length) 200 (fun k hk => by rw [chV_free hRw hk])]
    exact sm_chV _ (fun j hj => (hRw.free.1 j hj).1)
  have hsb : sm (fun k => (chV V k (V 3 0)).length - (drL (chV V k (V 3 0)) (vLK V)).length) 200 + vFree V 3 0 = V 3 0 := by
    rw [← hsm2]
    exact (sm_sub 200 (fun k _ => drL_len _ _)).trans hsm
  have hfr : V 3 0 - vFree V 3 0 = sm (fun k => (chV V k (V 3 0)).length - (drL (chV V k (V 3 0)) (vLK V)).length) 200 := by omega
  have hfr2 : vFree V 3 0 = V 3 0 - sm (fun k => (chV V k (V 3 0)).length - (drL (chV V k (V 3 0)) (vLK V)).length) 200 := by omega
  obtain ⟨hS, hT, hM, hH, hNw, hQ⟩ := hR
  have loop : ∀ (n i : Nat) (P : OO), 200 - i = n → i ≤ 200 → (∀ x, x ≠ 3 → x ≠ 5 → P x = O x) → (∀ j, j < i → Ch I P L K own j (P 3 j) (drL (chV V j (V 3 0)) (vLK V))) → (∀ j, i ≤ j → j < 200 → Ch I P L K own j (P 3 j) (chV V j (V 3 0))) → GG p l e ({ frames := 2, cells := 0, slots := 0, locals := 47 } : Room) s m args below meth c (cQ below D g A xa args s 0 0 (fun r I1 O1 L1 K1 => L1 = L ∧ K1 = K ∧ O1 2 = O 2 ∧ BdN I1 N ∧ I1 1 0 = vFree V 3 0 ∧ RC (vFree V) I1 O1 L K own ∧ r = some (.int (nI (V 3 0 - vFree V 3 0))))) 4 D A s.heap (cW g xa I P L K) (0) (0) 9 [(0, .ref (xa 0)), (1, .int (nI (vLK V))), (2, .int (nI (sm (fun k => (chV V k (V 3 0)).length - (drL (chV V k (V 3 0)) (vLK V)).length) i))), (3, .int (nI i))] [] := by
    intro n
    induction n using Nat.strongRecOn with
    | _ n ih =>
      intro i P hn hi hP h1 h2
      refine g_iload_n C dX2_free_9 rfl ?_
      refine g_sipush C 200 dX2_free_10 (by decide) ?_
      refine g_icmp_ge C 31 dX2_free_13 (by decide) (by omega) (by decide) (fun c13 => ?_) (fun c13 => ?_)
      · have ei : i = 200 := by omega
        have hRC : RC (vFree V) (u2 I 1 0 (I 1 0 - sm (fun k => (chV V k (V 3 0)).length - (drL (chV V k (V 3 0)) (vLK V)).length) i)) P L K own := by
          have hk : ∀ b, b ≠ 0 → b ≠ 1 → b ≠ 2 → b ≠ 3 → b ≠ 26 → vFree V b = V b := fun b x0 x1 x2 x3 x4 => vFree_k V x0 x1 x2 x3 x4
          have hRNf : RN (vFree V) (u2 I 1 0 (I 1 0 - sm (fun k => (chV V k (V 3 0)).length - (drL (chV V k (V 3 0)) (vLK V)).length) i)) P L K own := fun j hj => by
            rw [chV_free hRw hj]
            exact (h1 j (by omega)).cong (fun a aL aK ho => ⟨aL, aK, ho, rfl, rfl, rfl⟩)
          refine ⟨hS.cong ⟨?_, ?_, ?_, ?_, ?_, ?_, ?_, ?_⟩ ⟨rfl, rfl, rfl, rfl, rfl, rfl, rfl, rfl⟩, hT.cong ⟨?_, ?_, ?_, ?_, ?_, ?_, ?_, ?_⟩ ⟨rfl, rfl, rfl, rfl, rfl, rfl, rfl⟩ ⟨hP 2 (by decide) (by decide), hP 7 (by decide) (by decide)⟩, hM.cong ⟨?_, ?_⟩ ⟨rfl, fun g9 => by simp only [u2]; rw [if_neg (by omega)]⟩ ⟨hP 2 (by decide) (by decide), hP 6 (by decide) (by decide)⟩, hH.cong ⟨?_, ?_⟩ rfl ⟨hP 2 (by decide) (by decide), hP 4 (by decide) (by decide)⟩, hRNf, hQ.cong ⟨?_, ?_, ?_⟩ ⟨hP 0 (by decide) (by decide), hP 1 (by decide) (by decide), hP 2 (by decide) (by decide), hP 8 (by decide) (by decide)⟩⟩
          all_goals first | exact hk 16 (by decide) (by decide) (by decide) (by decide) (by decide) | (refine hk _ ?_ ?_ ?_ ?_ ?_ <;> decide)
        first | refine g_aload_n C dX2_free_31 rfl ?_ | refine g_aload_nq C _ dX2_free_31 rfl ?_
        refine g_dup C dX2_free_32 (by first | rfl | exact vcat_rf _) ?_
        refine cg_rowCount C i2 (by decide +kernel) dX2_free_33 ?_
        refine g_iload_n C dX2_free_36 rfl ?_
        first | refine g_isub C dX2_free_37 (by rw [hrc]; subst ei; omega) ?_ | refine g_isubx C dX2_free_37 ?_
        refine cp_rowCount C i2 (by decide +kernel) dX2_free_38 ?_
        refine g_iload_n C dX2_free_41 rfl ?_
        exact g_iret C dX2_free_42 rfl (⟨_, P, L, K, rfl, rfl, rfl, hP 2 (by decide) (by decide), hB.up (by have := hB 1 0; omega), by rw [u2_same, hrc, ei]; exact hfr2.symm, hRC, by rw [ei, hfr]⟩)
      · refine g_iload_n C dX2_free_16 rfl ?_
        first | refine g_aload_n C dX2_free_17 rfl ?_ | refine g_aload_nq C _ dX2_free_17 rfl ?_
        refine g_iload_n C dX2_free_18 rfl ?_
        refine g_iload_n C dX2_free_19 rfl ?_
        refine g_callC C (k_X2_dropOldRows l D g A xa _ _ _ _ hB hN i (vLK V) (by omega) (by omega) (h2 i (Nat.le_refl _) (by omega)) (chV_dsc hRw.2 _ (Nat.le_refl _))) gX2_free_X2_dropOldRows dX2_free_20 (n := 2) rfl rfl rfl (by decide +kernel) ⟨Nat.le_of_ble_eq_true rfl, Nat.le_of_ble_eq_true rfl⟩ rfl rfl (Nat.le_of_ble_eq_true rfl) ⟨by omega, by omega⟩ (fun r I1 O1 L1 K1 hq => ?_)
        obtain ⟨e1, e3, e4, f1, f2, f3, f4, hr⟩ := hq
        rw [e1, e3, e4, hr]
        first | refine g_iadd C dX2_free_23 ?_ | refine g_iaddx C dX2_free_23 ?_
        refine g_istore_n C dX2_free_24 (by decide) ?_
        refine g_iinc C dX2_free_25 rfl (by decide) ?_
        refine g_goto C 9 dX2_free_28 (by decide) ?_
        exact ih _ (by omega) (i + 1) O1 rfl (by omega) (fun x h3 h5 => (f1 x h3 h5).trans (hP x h3 h5)) (fun j hj => by
          rcases (show j < i ∨ j = i by omega) with y | y
          · rw [f2 j (by omega)]
            exact (h1 j y).cong (fun a _ _ ho => ⟨‹_›, ‹_›, ho, rfl, rfl, f3 a (by omega)⟩)
          · rw [y]; exact f4) (fun j hj1 hj2 => by
          rw [f2 j (by omega)]
          exact (h2 j (by omega) hj2).cong (fun a _ _ ho => ⟨‹_›, ‹_›, ho, rfl, rfl, f3 a (by omega)⟩))
  first | refine g_aload_n C dX2_free_0 rfl ?_ | refine g_aload_nq C _ dX2_free_0 rfl ?_
  refine g_callC C (k_X2_leastKept l D g A xa _ _ _ _ hB hN hS hT hC hla hSt) gX2_free_X2_leastKept dX2_free_1 (n := 0) rfl rfl rfl (by decide +kernel) ⟨Nat.le_of_ble_eq_true rfl, Nat.le_of_ble_eq_true rfl⟩ rfl rfl (Nat.le_of_ble_eq_true rfl) ⟨by omega, by omega⟩ (fun r I1 O1 L1 K1 hq => ?_)
  obtain ⟨⟨e1, e2, e3, e4⟩, hq⟩ := hq
  rw [e1, e2, e3, e4]
  rw [hq]
  refine g_istore_n C dX2_free_4 (by decide) ?_
  refine g_iconst C 0 dX2_free_5 (by decide) ?_
  refine g_istore_n C dX2_free_6 (by decide) ?_
  refine g_iconst C 0 dX2_free_7 (by decide) ?_
  refine g_istore_n C dX2_free_8 (by decide) ?_
  exact loop _ 0 O rfl (Nat.zero_le _) (fun _ _ _ => rfl) (fun j hj => by omega) (fun j _ hj => hNw j hj)
