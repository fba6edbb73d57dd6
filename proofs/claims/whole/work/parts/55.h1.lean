set_option maxRecDepth 100000 in
set_option maxHeartbeats 1000000 in
theorem k_L_begin (l : Launch) (D : va_G) (g : Nat → ClassId) (A : Nat → Prop) (xa : Nat → Nat) (xo : Nat) (I : VV) (O : OO) (L : List Nat) (K : Nat → Nat) (f : Nat → Int64) {Qc : Option Value → VV → OO → List Nat → (Nat → Nat) → Prop} {Qx : String → Prop} (hM : CM l yX2_begin wsX2_begin ({ frames := 7, cells := 2, slots := 15, locals := 105 } : Room) 2 15 D g (fA A [(xo, oE g f)]) xa [.ref (xa 0)] I O L K Qc Qx) (hxx : ∀ E, Qx E → E = xIS) (hret : ∀ r I1 O1 L1 K1, Qc r I1 O1 L1 K1 → ∃ v, r = some (.int v)) : HM l yL_begin wsL_begin ({ frames := 8, cells := 2, slots := 15, locals := 125 } : Room) 2 15 D g A xa xo [.ref (xa 0), .ref xo] I O L K f (fun r I1 O1 L1 K1 f1 => (∃ v, Qc (some (.int v)) I1 O1 L1 K1 ∧ r = some (.int (nI 0)) ∧ f1 0 = v.toInt64) ∨ ((I1 = I ∧ O1 = O ∧ L1 = L ∧ K1 = K) ∧ ((Qx xIS ∧ r = some (.int (nI 1)))))) := by
  refine x_ofWH [(0, .ref (xa 0)), (1, .ref xo)] (by decide) rfl (Nat.le_of_ble_eq_true rfl) rfl (by simp [Value.category, vcat_rf]) ?_
  intro p e s m args below meth c C T9 htb
  obtain ⟨fs, hfs⟩ := cX_this g xa I O L K
  first | refine g_aload_n C dL_begin_0 rfl ?_ | refine g_aload_nq C _ dL_begin_0 rfl ?_
  refine g_iconst C 0 dL_begin_1 (by decide) ?_
  first | refine g_aload_n C dL_begin_2 rfl ?_ | refine g_aload_nq C _ dL_begin_2 rfl ?_
  refine xf_callV C T9 (F := [(xo, oE g f)]) (Cl := RX2) (ci := 2) hM gL_begin_X2_begin rfl rfl rfl (n := 0) (by decide +kernel) ⟨Nat.le_of_ble_eq_true rfl, Nat.le_of_ble_eq_true rfl⟩ hfs rfl rfl rfl rfl (Nat.le_of_ble_eq_true rfl) dL_begin_3 ⟨Nat.le_of_ble_eq_true rfl, Nat.le_of_ble_eq_true rfl⟩ (fun r w hq => ?n1) (fun E w hq => ?n2)
  case n2 =>
    obtain ⟨rfl, hq⟩ := hq
    have hE9 := hxx E hq
    subst hE9
    refine x_catch C T9 [] ⟨0, 8, 11, 13⟩ [] htb rfl (fun z hz => absurd hz List.not_mem_nil) (by decide) (by decide) (by decide +kernel) (by decide +kernel) (fun q => ?_)
    first | refine g_astore_n C dL_begin_11 (by decide) ?_ | refine g_astore_nq C dL_begin_11 (by decide) ?_
    refine g_iconst C 1 dL_begin_12 (by decide) ?_
    exact x_ret (g_iret C dL_begin_13 rfl (⟨I, O, L, K, f, rfl, Or.inr ⟨⟨rfl, rfl, rfl, rfl⟩, ⟨hq, rfl⟩⟩⟩))
  obtain ⟨I1, O1, L1, K1, rfl, hq⟩ := hq
  obtain ⟨v, rfl⟩ := hret _ _ _ _ _ hq
  refine g_i2l C dL_begin_6 rfl ?_
  refine g_lastore C dL_begin_7 ?_
  refine g_goto C 14 dL_begin_8 (by decide) ?_
  refine g_iconst C 0 dL_begin_14 (by decide) ?_
  exact x_ret (g_iret C dL_begin_15 rfl (⟨I1, O1, L1, K1, _, rfl, Or.inl ⟨v, hq, rfl, rfl⟩⟩))
set_option maxRecDepth 100000 in
set_option maxHeartbeats 1000000 in
theorem k_L_look (l : Launch) (D : va_G) (g : Nat → ClassId) (A : Nat → Prop) (xa : Nat → Nat) (xo : Nat) (I : VV) (O : OO) (L : List Nat) (K : Nat → Nat) (f : Nat → Int64) (x : Int32) {Qc : Option Value → VV → OO → List Nat → (Nat → Nat) → Prop} {Qx : String → Prop} (hM : CM l yX2_look wsX2_look ({ frames := 7, cells := 3, slots := 21, locals := 105 } : Room) 3 21 D g (fA A [(xo, oE g f)]) xa [.ref (xa 0), .int x] I O L K Qc Qx) (hxx : ∀ E, Qx E → E = xIA ∨ E = xIS) (hret : ∀ r I1 O1 L1 K1, Qc r I1 O1 L1 K1 → ∃ v, r = some (.int v)) : HM l yL_look wsL_look ({ frames := 8, cells := 3, slots := 21, locals := 126 } : Room) 3 21 D g A xa xo [.ref (xa 0), .int x, .ref xo] I O L K f (fun r I1 O1 L1 K1 f1 => (∃ v, Qc (some (.int v)) I1 O1 L1 K1 ∧ r = some (.int (nI 0)) ∧ f1 0 = v.toInt64) ∨ ((I1 = I ∧ O1 = O ∧ L1 = L ∧ K1 = K) ∧ ((Qx xIA ∧ r = some (.int (nI 1))) ∨ (Qx xIS ∧ r = some (.int (nI 2)))))) := by
  refine x_ofWH [(0, .ref (xa 0)), (1, .int x), (2, .ref xo)] (by decide) rfl (Nat.le_of_ble_eq_true rfl) rfl (by simp [Value.category, vcat_rf]) ?_
  intro p e s m args below meth c C T9 htb
  obtain ⟨fs, hfs⟩ := cX_this g xa I O L K
  first | refine g_aload_n C dL_look_0 rfl ?_ | refine g_aload_nq C _ dL_look_0 rfl ?_
  refine g_iconst C 0 dL_look_1 (by decide) ?_
  first | refine g_aload_n C dL_look_2 rfl ?_ | refine g_aload_nq C _ dL_look_2 rfl ?_
  refine g_iload_n C dL_look_3 rfl ?_
  refine xf_callV C T9 (F := [(xo, oE g f)]) (Cl := RX2) (ci := 2) hM gL_look_X2_look rfl rfl rfl (n := 1) (by decide +kernel) ⟨Nat.le_of_ble_eq_true rfl, Nat.le_of_ble_eq_true rfl⟩ hfs rfl rfl rfl rfl (Nat.le_of_ble_eq_true rfl) dL_look_4 ⟨Nat.le_of_ble_eq_true rfl, Nat.le_of_ble_eq_true rfl⟩ (fun r w hq => ?n1) (fun E w hq => ?n2)
  case n2 =>
    obtain ⟨rfl, hq⟩ := hq
    rcases hxx E hq with rfl | rfl
    · refine x_catch C T9 [] ⟨0, 9, 12, 19⟩ [⟨0, 9, 15, 13⟩] htb rfl (fun z hz => absurd hz List.not_mem_nil) (by decide) (by decide) (by decide +kernel) (by decide +kernel) (fun q => ?_)
      first | refine g_astore_n C dL_look_12 (by decide) ?_ | refine g_astore_nq C dL_look_12 (by decide) ?_
      refine g_iconst C 1 dL_look_13 (by decide) ?_
      exact x_ret (g_iret C dL_look_14 rfl (⟨I, O, L, K, f, rfl, Or.inr ⟨⟨rfl, rfl, rfl, rfl⟩, Or.inl ⟨hq, rfl⟩⟩⟩))
    · refine x_catch C T9 [⟨0, 9, 12, 19⟩] ⟨0, 9, 15, 13⟩ [] htb rfl (fun z hz => by rw [List.mem_singleton.mp hz]; exact ⟨by decide, xIA, (by decide +kernel : Cond.classLink RL 19 xIA ∈ wsL_look), T9.2.2.2.2.2⟩) (by decide) (by decide) (by decide +kernel) (by decide +kernel) (fun q => ?_)
      first | refine g_astore_n C dL_look_15 (by decide) ?_ | refine g_astore_nq C dL_look_15 (by decide) ?_
      refine g_iconst C 2 dL_look_16 (by decide) ?_
      exact x_ret (g_iret C dL_look_17 rfl (⟨I, O, L, K, f, rfl, Or.inr ⟨⟨rfl, rfl, rfl, rfl⟩, Or.inr ⟨hq, rfl⟩⟩⟩))
  obtain ⟨I1, O1, L1, K1, rfl, hq⟩ := hq
  obtain ⟨v, rfl⟩ := hret _ _ _ _ _ hq
  refine g_i2l C dL_look_7 rfl ?_
  refine g_lastore C dL_look_8 ?_
  refine g_goto C 18 dL_look_9 (by decide) ?_
  refine g_iconst C 0 dL_look_18 (by decide) ?_
  exact x_ret (g_iret C dL_look_19 rfl (⟨I1, O1, L1, K1, _, rfl, Or.inl ⟨v, hq, rfl, rfl⟩⟩))
set_option maxRecDepth 100000 in
set_option maxHeartbeats 1000000 in
theorem k_L_put (l : Launch) (D : va_G) (g : Nat → ClassId) (A : Nat → Prop) (xa : Nat → Nat) (xo : Nat) (I : VV) (O : OO) (L : List Nat) (K : Nat → Nat) (f : Nat → Int64) (x y z : Int32) {Qc : Option Value → VV → OO → List Nat → (Nat → Nat) → Prop} {Qx : String → Prop} (hM : CM l yX2_put wsX2_put ({ frames := 7, cells := 3, slots := 18, locals := 140 } : Room) 3 18 D g (fA A [(xo, oE g f)]) xa [.ref (xa 0), .int x, .int y, .int z] I O L K Qc Qx) (hxx : ∀ E, Qx E → E = xIA ∨ E = xIS) (hret : ∀ r I1 O1 L1 K1, Qc r I1 O1 L1 K1 → ∃ v, r = some (.int v)) : HM l yL_put wsL_put ({ frames := 8, cells := 3, slots := 18, locals := 164 } : Room) 3 18 D g A xa xo [.ref (xa 0), .int x, .int y, .int z, .ref xo] I O L K f (fun r I1 O1 L1 K1 f1 => (∃ v, Qc (some (.int v)) I1 O1 L1 K1 ∧ r = some (.int (nI 0)) ∧ f1 0 = v.toInt64) ∨ ((I1 = I ∧ O1 = O ∧ L1 = L ∧ K1 = K) ∧ ((Qx xIA ∧ r = some (.int (nI 1))) ∨ (Qx xIS ∧ r = some (.int (nI 2)))))) := by
  refine x_ofWH [(0, .ref (xa 0)), (1, .int x), (2, .int y), (3, .int z), (4, .ref xo)] (by decide) rfl (Nat.le_of_ble_eq_true rfl) rfl (by simp [Value.category, vcat_rf]) ?_
  intro p e s m args below meth c C T9 htb
  obtain ⟨fs, hfs⟩ := cX_this g xa I O L K
  first | refine g_aload C dL_put_0 rfl ?_ | refine g_aloadq C _ dL_put_0 rfl ?_
  refine g_iconst C 0 dL_put_2 (by decide) ?_
  first | refine g_aload_n C dL_put_3 rfl ?_ | refine g_aload_nq C _ dL_put_3 rfl ?_
  refine g_iload_n C dL_put_4 rfl ?_
  refine g_iload_n C dL_put_5 rfl ?_
  refine g_iload_n C dL_put_6 rfl ?_
  refine xf_callV C T9 (F := [(xo, oE g f)]) (Cl := RX2) (ci := 2) hM gL_put_X2_put rfl rfl rfl (n := 3) (by decide +kernel) ⟨Nat.le_of_ble_eq_true rfl, Nat.le_of_ble_eq_true rfl⟩ hfs rfl rfl rfl rfl (Nat.le_of_ble_eq_true rfl) dL_put_7 ⟨Nat.le_of_ble_eq_true rfl, Nat.le_of_ble_eq_true rfl⟩ (fun r w hq => ?n1) (fun E w hq => ?n2)
  case n2 =>
    obtain ⟨rfl, hq⟩ := hq
    rcases hxx E hq with rfl | rfl
    · refine x_catch C T9 [] ⟨0, 12, 15, 19⟩ [⟨0, 12, 19, 13⟩] htb rfl (fun z hz => absurd hz List.not_mem_nil) (by decide) (by decide) (by decide +kernel) (by decide +kernel) (fun q => ?_)
      first | refine g_astore C dL_put_15 (by decide) ?_ | refine g_astoreq C dL_put_15 (by decide) ?_
      refine g_iconst C 1 dL_put_17 (by decide) ?_
      exact x_ret (g_iret C dL_put_18 rfl (⟨I, O, L, K, f, rfl, Or.inr ⟨⟨rfl, rfl, rfl, rfl⟩, Or.inl ⟨hq, rfl⟩⟩⟩))
    · refine x_catch C T9 [⟨0, 12, 15, 19⟩] ⟨0, 12, 19, 13⟩ [] htb rfl (fun z hz => by rw [List.mem_singleton.mp hz]; exact ⟨by decide, xIA, (by decide +kernel : Cond.classLink RL 19 xIA ∈ wsL_put), T9.2.2.2.2.2⟩) (by decide) (by decide) (by decide +kernel) (by decide +kernel) (fun q => ?_)
      first | refine g_astore C dL_put_19 (by decide) ?_ | refine g_astoreq C dL_put_19 (by decide) ?_
      refine g_iconst C 2 dL_put_21 (by decide) ?_
      exact x_ret (g_iret C dL_put_22 rfl (⟨I, O, L, K, f, rfl, Or.inr ⟨⟨rfl, rfl, rfl, rfl⟩, Or.inr ⟨hq, rfl⟩⟩⟩))
  obtain ⟨I1, O1, L1, K1, rfl, hq⟩ := hq
  obtain ⟨v, rfl⟩ := hret _ _ _ _ _ hq
  refine g_i2l C dL_put_10 rfl ?_
  refine g_lastore C dL_put_11 ?_
  refine g_goto C 23 dL_put_12 (by decide) ?_
  refine g_iconst C 0 dL_put_23 (by decide) ?_
  exact x_ret (g_iret C dL_put_24 rfl (⟨I1, O1, L1, K1, _, rfl, Or.inl ⟨v, hq, rfl, rfl⟩⟩))
set_option maxRecDepth 100000 in
set_option maxHeartbeats 1000000 in
theorem k_L_note (l : Launch) (D : va_G) (g : Nat → ClassId) (A : Nat → Prop) (xa : Nat → Nat) (xo : Nat) (I : VV) (O : OO) (L : List Nat) (K : Nat → Nat) (f : Nat → Int64) (x y : Int32) {Qc : Option Value → VV → OO → List Nat → (Nat → Nat) → Prop} {Qx : String → Prop} (hM : CM l yX2_note wsX2_note ({ frames := 7, cells := 3, slots := 18, locals := 103 } : Room) 3 18 D g (fA A [(xo, oE g f)]) xa [.ref (xa 0), .int x, .int y] I O L K Qc Qx) (hxx : ∀ E, Qx E → E = xIA ∨ E = xIS) (hret : ∀ r I1 O1 L1 K1, Qc r I1 O1 L1 K1 → ∃ v, r = some (.int v)) : HM l yL_note wsL_note ({ frames := 8, cells := 3, slots := 18, locals := 126 } : Room) 3 18 D g A xa xo [.ref (xa 0), .int x, .int y, .ref xo] I O L K f (fun r I1 O1 L1 K1 f1 => (∃ v, Qc (some (.int v)) I1 O1 L1 K1 ∧ r = some (.int (nI 0)) ∧ f1 0 = v.toInt64) ∨ ((I1 = I ∧ O1 = O ∧ L1 = L ∧ K1 = K) ∧ ((Qx xIA ∧ r = some (.int (nI 1))) ∨ (Qx xIS ∧ r = some (.int (nI 2)))))) := by
  refine x_ofWH [(0, .ref (xa 0)), (1, .int x), (2, .int y), (3, .ref xo)] (by decide) rfl (Nat.le_of_ble_eq_true rfl) rfl (by simp [Value.category, vcat_rf]) ?_
  intro p e s m args below meth c C T9 htb
  obtain ⟨fs, hfs⟩ := cX_this g xa I O L K
  first | refine g_aload_n C dL_note_0 rfl ?_ | refine g_aload_nq C _ dL_note_0 rfl ?_
  refine g_iconst C 0 dL_note_1 (by decide) ?_
  first | refine g_aload_n C dL_note_2 rfl ?_ | refine g_aload_nq C _ dL_note_2 rfl ?_
  refine g_iload_n C dL_note_3 rfl ?_
  refine g_iload_n C dL_note_4 rfl ?_
  refine xf_callV C T9 (F := [(xo, oE g f)]) (Cl := RX2) (ci := 2) hM gL_note_X2_note rfl rfl rfl (n := 2) (by decide +kernel) ⟨Nat.le_of_ble_eq_true rfl, Nat.le_of_ble_eq_true rfl⟩ hfs rfl rfl rfl rfl (Nat.le_of_ble_eq_true rfl) dL_note_5 ⟨Nat.le_of_ble_eq_true rfl, Nat.le_of_ble_eq_true rfl⟩ (fun r w hq => ?n1) (fun E w hq => ?n2)
  case n2 =>
    obtain ⟨rfl, hq⟩ := hq
    rcases hxx E hq with rfl | rfl
    · refine x_catch C T9 [] ⟨0, 10, 13, 19⟩ [⟨0, 10, 17, 13⟩] htb rfl (fun z hz => absurd hz List.not_mem_nil) (by decide) (by decide) (by decide +kernel) (by decide +kernel) (fun q => ?_)
      first | refine g_astore C dL_note_13 (by decide) ?_ | refine g_astoreq C dL_note_13 (by decide) ?_
      refine g_iconst C 1 dL_note_15 (by decide) ?_
      exact x_ret (g_iret C dL_note_16 rfl (⟨I, O, L, K, f, rfl, Or.inr ⟨⟨rfl, rfl, rfl, rfl⟩, Or.inl ⟨hq, rfl⟩⟩⟩))
    · refine x_catch C T9 [⟨0, 10, 13, 19⟩] ⟨0, 10, 17, 13⟩ [] htb rfl (fun z hz => by rw [List.mem_singleton.mp hz]; exact ⟨by decide, xIA, (by decide +kernel : Cond.classLink RL 19 xIA ∈ wsL_note), T9.2.2.2.2.2⟩) (by decide) (by decide) (by decide +kernel) (by decide +kernel) (fun q => ?_)
      first | refine g_astore C dL_note_17 (by decide) ?_ | refine g_astoreq C dL_note_17 (by decide) ?_
      refine g_iconst C 2 dL_note_19 (by decide) ?_
      exact x_ret (g_iret C dL_note_20 rfl (⟨I, O, L, K, f, rfl, Or.inr ⟨⟨rfl, rfl, rfl, rfl⟩, Or.inr ⟨hq, rfl⟩⟩⟩))
  obtain ⟨I1, O1, L1, K1, rfl, hq⟩ := hq
  obtain ⟨v, rfl⟩ := hret _ _ _ _ _ hq
  refine g_i2l C dL_note_8 rfl ?_
  refine g_lastore C dL_note_9 ?_
  refine g_goto C 21 dL_note_10 (by decide) ?_
  refine g_iconst C 0 dL_note_21 (by decide) ?_
  exact x_ret (g_iret C dL_note_22 rfl (⟨I1, O1, L1, K1, _, rfl, Or.inl ⟨v, hq, rfl, rfl⟩⟩))
set_option maxRecDepth 100000 in
set_option maxHeartbeats 1000000 in
theorem k_L_read (l : Launch) (D : va_G) (g : Nat → ClassId) (A : Nat → Prop) (xa : Nat → Nat) (xo : Nat) (I : VV) (O : OO) (L : List Nat) (K : Nat → Nat) (f : Nat → Int64) (x y : Int32) {Qc : Option Value → VV → OO → List Nat → (Nat → Nat) → Prop} {Qx : String → Prop} (hM : CM l yX2_read wsX2_read ({ frames := 7, cells := 3, slots := 18, locals := 103 } : Room) 3 18 D g (fA A [(xo, oE g f)]) xa [.ref (xa 0), .int x, .int y] I O L K Qc Qx) (hxx : ∀ E, Qx E → E = xIA ∨ E = xIS) (hret : ∀ r I1 O1 L1 K1, Qc r I1 O1 L1 K1 → ∃ v, r = some (.int v)) : HM l yL_read wsL_read ({ frames := 8, cells := 3, slots := 18, locals := 126 } : Room) 3 18 D g A xa xo [.ref (xa 0), .int x, .int y, .ref xo] I O L K f (fun r I1 O1 L1 K1 f1 => (∃ v, Qc (some (.int v)) I1 O1 L1 K1 ∧ r = some (.int (nI 0)) ∧ f1 0 = (if v = 0 then 0 else 1)) ∨ ((I1 = I ∧ O1 = O ∧ L1 = L ∧ K1 = K) ∧ ((Qx xIA ∧ r = some (.int (nI 1))) ∨ (Qx xIS ∧ r = some (.int (nI 2)))))) := by
  refine x_ofWH [(0, .ref (xa 0)), (1, .int x), (2, .int y), (3, .ref xo)] (by decide) rfl (Nat.le_of_ble_eq_true rfl) rfl (by simp [Value.category, vcat_rf]) ?_
  intro p e s m args below meth c C T9 htb
  obtain ⟨fs, hfs⟩ := cX_this g xa I O L K
  first | refine g_aload_n C dL_read_0 rfl ?_ | refine g_aload_nq C _ dL_read_0 rfl ?_
  refine g_iconst C 0 dL_read_1 (by decide) ?_
  first | refine g_aload_n C dL_read_2 rfl ?_ | refine g_aload_nq C _ dL_read_2 rfl ?_
  refine g_iload_n C dL_read_3 rfl ?_
  refine g_iload_n C dL_read_4 rfl ?_
  refine xf_callV C T9 (F := [(xo, oE g f)]) (Cl := RX2) (ci := 2) hM gL_read_X2_read rfl rfl rfl (n := 2) (by decide +kernel) ⟨Nat.le_of_ble_eq_true rfl, Nat.le_of_ble_eq_true rfl⟩ hfs rfl rfl rfl rfl (Nat.le_of_ble_eq_true rfl) dL_read_5 ⟨Nat.le_of_ble_eq_true rfl, Nat.le_of_ble_eq_true rfl⟩ (fun r w hq => ?n1) (fun E w hq => ?n2)
  case n2 =>
    obtain ⟨rfl, hq⟩ := hq
    rcases hxx E hq with rfl | rfl
    · refine x_catch C T9 [] ⟨0, 17, 20, 19⟩ [⟨0, 17, 24, 13⟩] htb rfl (fun z hz => absurd hz List.not_mem_nil) (by decide) (by decide) (by decide +kernel) (by decide +kernel) (fun q => ?_)
      first | refine g_astore C dL_read_20 (by decide) ?_ | refine g_astoreq C dL_read_20 (by decide) ?_
      refine g_iconst C 1 dL_read_22 (by decide) ?_
      exact x_ret (g_iret C dL_read_23 rfl (⟨I, O, L, K, f, rfl, Or.inr ⟨⟨rfl, rfl, rfl, rfl⟩, Or.inl ⟨hq, rfl⟩⟩⟩))
    · refine x_catch C T9 [⟨0, 17, 20, 19⟩] ⟨0, 17, 24, 13⟩ [] htb rfl (fun z hz => by rw [List.mem_singleton.mp hz]; exact ⟨by decide, xIA, (by decide +kernel : Cond.classLink RL 19 xIA ∈ wsL_read), T9.2.2.2.2.2⟩) (by decide) (by decide) (by decide +kernel) (by decide +kernel) (fun q => ?_)
      first | refine g_astore C dL_read_24 (by decide) ?_ | refine g_astoreq C dL_read_24 (by decide) ?_
      refine g_iconst C 2 dL_read_26 (by decide) ?_
      exact x_ret (g_iret C dL_read_27 rfl (⟨I, O, L, K, f, rfl, Or.inr ⟨⟨rfl, rfl, rfl, rfl⟩, Or.inr ⟨hq, rfl⟩⟩⟩))
  obtain ⟨I1, O1, L1, K1, rfl, hq⟩ := hq
  obtain ⟨v, rfl⟩ := hret _ _ _ _ _ hq
  refine g_ifx_eq C 15 dL_read_8 (by decide) (fun c8 => ?_) (fun c8 => ?_)
  · refine g_lconst C dL_read_15 rfl ?_
    refine g_lastore C dL_read_16 ?_
    refine g_goto C 28 dL_read_17 (by decide) ?_
    refine g_iconst C 0 dL_read_28 (by decide) ?_
    exact x_ret (g_iret C dL_read_29 rfl (⟨I1, O1, L1, K1, _, rfl, Or.inl ⟨v, hq, rfl, by rw [if_pos c8]; rfl⟩⟩))
  · refine g_lconst C dL_read_11 rfl ?_
    refine g_goto C 16 dL_read_12 (by decide) ?_
    refine g_lastore C dL_read_16 ?_
    refine g_goto C 28 dL_read_17 (by decide) ?_
    refine g_iconst C 0 dL_read_28 (by decide) ?_
    exact x_ret (g_iret C dL_read_29 rfl (⟨I1, O1, L1, K1, _, rfl, Or.inl ⟨v, hq, rfl, by rw [if_neg c8]; rfl⟩⟩))
set_option maxRecDepth 100000 in
set_option maxHeartbeats 1000000 in
theorem k_L_told (l : Launch) (D : va_G) (g : Nat → ClassId) (A : Nat → Prop) (xa : Nat → Nat) (xo : Nat) (I : VV) (O : OO) (L : List Nat) (K : Nat → Nat) (f : Nat → Int64) (x y : Int32) {Qc : Option Value → VV → OO → List Nat → (Nat → Nat) → Prop} {Qx : String → Prop} (hM : CM l yX2_told wsX2_told ({ frames := 7, cells := 2, slots := 12, locals := 103 } : Room) 2 12 D g (fA A [(xo, oE g f)]) xa [.ref (xa 0), .int x, .int y] I O L K Qc Qx) (hxx : ∀ E, Qx E → E = xIA) (hret : ∀ r I1 O1 L1 K1, Qc r I1 O1 L1 K1 → ∃ v, r = some (.int v)) : HM l yL_told wsL_told ({ frames := 8, cells := 2, slots := 12, locals := 125 } : Room) 2 12 D g A xa xo [.ref (xa 0), .int x, .int y, .ref xo] I O L K f (fun r I1 O1 L1 K1 f1 => (∃ v, Qc (some (.int v)) I1 O1 L1 K1 ∧ r = some (.int (nI 0)) ∧ f1 0 = (if v = 0 then 0 else 1)) ∨ ((I1 = I ∧ O1 = O ∧ L1 = L ∧ K1 = K) ∧ ((Qx xIA ∧ r = some (.int (nI 1)))))) := by
  refine x_ofWH [(0, .ref (xa 0)), (1, .int x), (2, .int y), (3, .ref xo)] (by decide) rfl (Nat.le_of_ble_eq_true rfl) rfl (by simp [Value.category, vcat_rf]) ?_
  intro p e s m args below meth c C T9 htb
  obtain ⟨fs, hfs⟩ := cX_this g xa I O L K
  first | refine g_aload_n C dL_told_0 rfl ?_ | refine g_aload_nq C _ dL_told_0 rfl ?_
  refine g_iconst C 0 dL_told_1 (by decide) ?_
  first | refine g_aload_n C dL_told_2 rfl ?_ | refine g_aload_nq C _ dL_told_2 rfl ?_
  refine g_iload_n C dL_told_3 rfl ?_
  refine g_iload_n C dL_told_4 rfl ?_
  refine xf_callV C T9 (F := [(xo, oE g f)]) (Cl := RX2) (ci := 2) hM gL_told_X2_told rfl rfl rfl (n := 2) (by decide +kernel) ⟨Nat.le_of_ble_eq_true rfl, Nat.le_of_ble_eq_true rfl⟩ hfs rfl rfl rfl rfl (Nat.le_of_ble_eq_true rfl) dL_told_5 ⟨Nat.le_of_ble_eq_true rfl, Nat.le_of_ble_eq_true rfl⟩ (fun r w hq => ?n1) (fun E w hq => ?n2)
  case n2 =>
    obtain ⟨rfl, hq⟩ := hq
    have hE9 := hxx E hq
    subst hE9
    refine x_catch C T9 [] ⟨0, 17, 20, 19⟩ [] htb rfl (fun z hz => absurd hz List.not_mem_nil) (by decide) (by decide) (by decide +kernel) (by decide +kernel) (fun q => ?_)
    first | refine g_astore C dL_told_20 (by decide) ?_ | refine g_astoreq C dL_told_20 (by decide) ?_
    refine g_iconst C 1 dL_told_22 (by decide) ?_
    exact x_ret (g_iret C dL_told_23 rfl (⟨I, O, L, K, f, rfl, Or.inr ⟨⟨rfl, rfl, rfl, rfl⟩, ⟨hq, rfl⟩⟩⟩))
  obtain ⟨I1, O1, L1, K1, rfl, hq⟩ := hq
  obtain ⟨v, rfl⟩ := hret _ _ _ _ _ hq
  refine g_ifx_eq C 15 dL_told_8 (by decide) (fun c8 => ?_) (fun c8 => ?_)
  · refine g_lconst C dL_told_15 rfl ?_
    refine g_lastore C dL_told_16 ?_
    refine g_goto C 24 dL_told_17 (by decide) ?_
    refine g_iconst C 0 dL_told_24 (by decide) ?_
    exact x_ret (g_iret C dL_told_25 rfl (⟨I1, O1, L1, K1, _, rfl, Or.inl ⟨v, hq, rfl, by rw [if_pos c8]; rfl⟩⟩))
  · refine g_lconst C dL_told_11 rfl ?_
    refine g_goto C 16 dL_told_12 (by decide) ?_
    refine g_lastore C dL_told_16 ?_
    refine g_goto C 24 dL_told_17 (by decide) ?_
    refine g_iconst C 0 dL_told_24 (by decide) ?_
    exact x_ret (g_iret C dL_told_25 rfl (⟨I1, O1, L1, K1, _, rfl, Or.inl ⟨v, hq, rfl, by rw [if_neg c8]; rfl⟩⟩))
set_option maxRecDepth 100000 in
set_option maxHeartbeats 1000000 in
theorem k_L_commit (l : Launch) (D : va_G) (g : Nat → ClassId) (A : Nat → Prop) (xa : Nat → Nat) (xo : Nat) (I : VV) (O : OO) (L : List Nat) (K : Nat → Nat) (f : Nat → Int64) (x : Int32) {Qc : Option Value → VV → OO → List Nat → (Nat → Nat) → Prop} {Qx : String → Prop} (hM : CM l yX2_commit wsX2_commit ({ frames := 7, cells := 203, slots := 618, locals := 140 } : Room) 203 618 D g (fA A [(xo, oE g f)]) xa [.ref (xa 0), .int x] I O L K Qc Qx) (hxx : ∀ E, Qx E → E = xIA ∨ E = xIS) (hret : ∀ r I1 O1 L1 K1, Qc r I1 O1 L1 K1 → ∃ v, r = some (.int v)) : HM l yL_commit wsL_commit ({ frames := 8, cells := 203, slots := 618, locals := 163 } : Room) 203 618 D g A xa xo [.ref (xa 0), .int x, .ref xo] I O L K f (fun r I1 O1 L1 K1 f1 => (∃ v, Qc (some (.int v)) I1 O1 L1 K1 ∧ r = some (.int (nI 0)) ∧ f1 0 = v.toInt64) ∨ ((I1 = I ∧ O1 = O ∧ L1 = L ∧ K1 = K) ∧ ((Qx xIA ∧ r = some (.int (nI 1))) ∨ (Qx xIS ∧ r = some (.int (nI 2)))))) := by
  refine x_ofWH [(0, .ref (xa 0)), (1, .int x), (2, .ref xo)] (by decide) rfl (Nat.le_of_ble_eq_true rfl) rfl (by simp [Value.category, vcat_rf]) ?_
  intro p e s m args below meth c C T9 htb
  obtain ⟨fs, hfs⟩ := cX_this g xa I O L K
  first | refine g_aload_n C dL_commit_0 rfl ?_ | refine g_aload_nq C _ dL_commit_0 rfl ?_
  refine g_iconst C 0 dL_commit_1 (by decide) ?_
  first | refine g_aload_n C dL_commit_2 rfl ?_ | refine g_aload_nq C _ dL_commit_2 rfl ?_
  refine g_iload_n C dL_commit_3 rfl ?_
  refine xf_callV C T9 (F := [(xo, oE g f)]) (Cl := RX2) (ci := 2) hM gL_commit_X2_commit rfl rfl rfl (n := 1) (by decide +kernel) ⟨Nat.le_of_ble_eq_true rfl, Nat.le_of_ble_eq_true rfl⟩ hfs rfl rfl rfl rfl (Nat.le_of_ble_eq_true rfl) dL_commit_4 ⟨Nat.le_of_ble_eq_true rfl, Nat.le_of_ble_eq_true rfl⟩ (fun r w hq => ?n1) (fun E w hq => ?n2)
  case n2 =>
    obtain ⟨rfl, hq⟩ := hq
    rcases hxx E hq with rfl | rfl
    · refine x_catch C T9 [] ⟨0, 9, 12, 19⟩ [⟨0, 9, 15, 13⟩] htb rfl (fun z hz => absurd hz List.not_mem_nil) (by decide) (by decide) (by decide +kernel) (by decide +kernel) (fun q => ?_)
      first | refine g_astore_n C dL_commit_12 (by decide) ?_ | refine g_astore_nq C dL_commit_12 (by decide) ?_
      refine g_iconst C 1 dL_commit_13 (by decide) ?_
      exact x_ret (g_iret C dL_commit_14 rfl (⟨I, O, L, K, f, rfl, Or.inr ⟨⟨rfl, rfl, rfl, rfl⟩, Or.inl ⟨hq, rfl⟩⟩⟩))
    · refine x_catch C T9 [⟨0, 9, 12, 19⟩] ⟨0, 9, 15, 13⟩ [] htb rfl (fun z hz => by rw [List.mem_singleton.mp hz]; exact ⟨by decide, xIA, (by decide +kernel : Cond.classLink RL 19 xIA ∈ wsL_commit), T9.2.2.2.2.2⟩) (by decide) (by decide) (by decide +kernel) (by decide +kernel) (fun q => ?_)
      first | refine g_astore_n C dL_commit_15 (by decide) ?_ | refine g_astore_nq C dL_commit_15 (by decide) ?_
      refine g_iconst C 2 dL_commit_16 (by decide) ?_
      exact x_ret (g_iret C dL_commit_17 rfl (⟨I, O, L, K, f, rfl, Or.inr ⟨⟨rfl, rfl, rfl, rfl⟩, Or.inr ⟨hq, rfl⟩⟩⟩))
  obtain ⟨I1, O1, L1, K1, rfl, hq⟩ := hq
  obtain ⟨v, rfl⟩ := hret _ _ _ _ _ hq
  refine g_i2l C dL_commit_7 rfl ?_
  refine g_lastore C dL_commit_8 ?_
  refine g_goto C 18 dL_commit_9 (by decide) ?_
  refine g_iconst C 0 dL_commit_18 (by decide) ?_
  exact x_ret (g_iret C dL_commit_19 rfl (⟨I1, O1, L1, K1, _, rfl, Or.inl ⟨v, hq, rfl, rfl⟩⟩))
set_option maxRecDepth 100000 in
set_option maxHeartbeats 1000000 in
theorem k_L_abort (l : Launch) (D : va_G) (g : Nat → ClassId) (A : Nat → Prop) (xa : Nat → Nat) (xo : Nat) (I : VV) (O : OO) (L : List Nat) (K : Nat → Nat) (f : Nat → Int64) (x : Int32) {Qc : Option Value → VV → OO → List Nat → (Nat → Nat) → Prop} {Qx : String → Prop} (hM : CM l yX2_abort wsX2_abort ({ frames := 7, cells := 2, slots := 12, locals := 140 } : Room) 2 12 D g (fA A [(xo, oE g f)]) xa [.ref (xa 0), .int x] I O L K Qc Qx) (hxx : ∀ E, Qx E → E = xIA ∨ E = xIS) (hret : ∀ r I1 O1 L1 K1, Qc r I1 O1 L1 K1 → ∃ v, r = some (.int v)) : HM l yL_abort wsL_abort ({ frames := 8, cells := 2, slots := 12, locals := 163 } : Room) 2 12 D g A xa xo [.ref (xa 0), .int x, .ref xo] I O L K f (fun r I1 O1 L1 K1 f1 => (∃ v, Qc (some (.int v)) I1 O1 L1 K1 ∧ r = some (.int (nI 0)) ∧ f1 0 = v.toInt64) ∨ ((I1 = I ∧ O1 = O ∧ L1 = L ∧ K1 = K) ∧ ((Qx xIA ∧ r = some (.int (nI 1))) ∨ (Qx xIS ∧ r = some (.int (nI 2)))))) := by
  refine x_ofWH [(0, .ref (xa 0)), (1, .int x), (2, .ref xo)] (by decide) rfl (Nat.le_of_ble_eq_true rfl) rfl (by simp [Value.category, vcat_rf]) ?_
  intro p e s m args below meth c C T9 htb
  obtain ⟨fs, hfs⟩ := cX_this g xa I O L K
  first | refine g_aload_n C dL_abort_0 rfl ?_ | refine g_aload_nq C _ dL_abort_0 rfl ?_
  refine g_iconst C 0 dL_abort_1 (by decide) ?_
  first | refine g_aload_n C dL_abort_2 rfl ?_ | refine g_aload_nq C _ dL_abort_2 rfl ?_
  refine g_iload_n C dL_abort_3 rfl ?_
  refine xf_callV C T9 (F := [(xo, oE g f)]) (Cl := RX2) (ci := 2) hM gL_abort_X2_abort rfl rfl rfl (n := 1) (by decide +kernel) ⟨Nat.le_of_ble_eq_true rfl, Nat.le_of_ble_eq_true rfl⟩ hfs rfl rfl rfl rfl (Nat.le_of_ble_eq_true rfl) dL_abort_4 ⟨Nat.le_of_ble_eq_true rfl, Nat.le_of_ble_eq_true rfl⟩ (fun r w hq => ?n1) (fun E w hq => ?n2)
  case n2 =>
    obtain ⟨rfl, hq⟩ := hq
    rcases hxx E hq with rfl | rfl
    · refine x_catch C T9 [] ⟨0, 9, 12, 19⟩ [⟨0, 9, 15, 13⟩] htb rfl (fun z hz => absurd hz List.not_mem_nil) (by decide) (by decide) (by decide +kernel) (by decide +kernel) (fun q => ?_)
      first | refine g_astore_n C dL_abort_12 (by decide) ?_ | refine g_astore_nq C dL_abort_12 (by decide) ?_
      refine g_iconst C 1 dL_abort_13 (by decide) ?_
      exact x_ret (g_iret C dL_abort_14 rfl (⟨I, O, L, K, f, rfl, Or.inr ⟨⟨rfl, rfl, rfl, rfl⟩, Or.inl ⟨hq, rfl⟩⟩⟩))
    · refine x_catch C T9 [⟨0, 9, 12, 19⟩] ⟨0, 9, 15, 13⟩ [] htb rfl (fun z hz => by rw [List.mem_singleton.mp hz]; exact ⟨by decide, xIA, (by decide +kernel : Cond.classLink RL 19 xIA ∈ wsL_abort), T9.2.2.2.2.2⟩) (by decide) (by decide) (by decide +kernel) (by decide +kernel) (fun q => ?_)
      first | refine g_astore_n C dL_abort_15 (by decide) ?_ | refine g_astore_nq C dL_abort_15 (by decide) ?_
      refine g_iconst C 2 dL_abort_16 (by decide) ?_
      exact x_ret (g_iret C dL_abort_17 rfl (⟨I, O, L, K, f, rfl, Or.inr ⟨⟨rfl, rfl, rfl, rfl⟩, Or.inr ⟨hq, rfl⟩⟩⟩))
  obtain ⟨I1, O1, L1, K1, rfl, hq⟩ := hq
  obtain ⟨v, rfl⟩ := hret _ _ _ _ _ hq
  refine g_i2l C dL_abort_7 rfl ?_
  refine g_lastore C dL_abort_8 ?_
  refine g_goto C 18 dL_abort_9 (by decide) ?_
  refine g_iconst C 0 dL_abort_18 (by decide) ?_
  exact x_ret (g_iret C dL_abort_19 rfl (⟨I1, O1, L1, K1, _, rfl, Or.inl ⟨v, hq, rfl, rfl⟩⟩))
set_option maxRecDepth 100000 in
set_option maxHeartbeats 1000000 in
theorem k_L_pin (l : Launch) (D : va_G) (g : Nat → ClassId) (A : Nat → Prop) (xa : Nat → Nat) (xo : Nat) (I : VV) (O : OO) (L : List Nat) (K : Nat → Nat) (f : Nat → Int64) (x : Int32) {Qc : Option Value → VV → OO → List Nat → (Nat → Nat) → Prop} {Qx : String → Prop} (hM : CM l yX2_pin wsX2_pin ({ frames := 7, cells := 1, slots := 6, locals := 103 } : Room) 1 6 D g (fA A [(xo, oE g f)]) xa [.ref (xa 0), .int x] I O L K Qc Qx) (hxx : ∀ E, Qx E → E = xIA) (hret : ∀ r I1 O1 L1 K1, Qc r I1 O1 L1 K1 → ∃ v, r = some (.int v)) : HM l yL_pin wsL_pin ({ frames := 8, cells := 1, slots := 6, locals := 124 } : Room) 1 6 D g A xa xo [.ref (xa 0), .int x, .ref xo] I O L K f (fun r I1 O1 L1 K1 f1 => (∃ v, Qc (some (.int v)) I1 O1 L1 K1 ∧ r = some (.int (nI 0)) ∧ f1 0 = v.toInt64) ∨ ((I1 = I ∧ O1 = O ∧ L1 = L ∧ K1 = K) ∧ ((Qx xIA ∧ r = some (.int (nI 1)))))) := by
  refine x_ofWH [(0, .ref (xa 0)), (1, .int x), (2, .ref xo)] (by decide) rfl (Nat.le_of_ble_eq_true rfl) rfl (by simp [Value.category, vcat_rf]) ?_
  intro p e s m args below meth c C T9 htb
  obtain ⟨fs, hfs⟩ := cX_this g xa I O L K
  first | refine g_aload_n C dL_pin_0 rfl ?_ | refine g_aload_nq C _ dL_pin_0 rfl ?_
  refine g_iconst C 0 dL_pin_1 (by decide) ?_
  first | refine g_aload_n C dL_pin_2 rfl ?_ | refine g_aload_nq C _ dL_pin_2 rfl ?_
  refine g_iload_n C dL_pin_3 rfl ?_
  refine xf_callV C T9 (F := [(xo, oE g f)]) (Cl := RX2) (ci := 2) hM gL_pin_X2_pin rfl rfl rfl (n := 1) (by decide +kernel) ⟨Nat.le_of_ble_eq_true rfl, Nat.le_of_ble_eq_true rfl⟩ hfs rfl rfl rfl rfl (Nat.le_of_ble_eq_true rfl) dL_pin_4 ⟨Nat.le_of_ble_eq_true rfl, Nat.le_of_ble_eq_true rfl⟩ (fun r w hq => ?n1) (fun E w hq => ?n2)
  case n2 =>
    obtain ⟨rfl, hq⟩ := hq
    have hE9 := hxx E hq
    subst hE9
    refine x_catch C T9 [] ⟨0, 9, 12, 19⟩ [] htb rfl (fun z hz => absurd hz List.not_mem_nil) (by decide) (by decide) (by decide +kernel) (by decide +kernel) (fun q => ?_)
    first | refine g_astore_n C dL_pin_12 (by decide) ?_ | refine g_astore_nq C dL_pin_12 (by decide) ?_
    refine g_iconst C 1 dL_pin_13 (by decide) ?_
    exact x_ret (g_iret C dL_pin_14 rfl (⟨I, O, L, K, f, rfl, Or.inr ⟨⟨rfl, rfl, rfl, rfl⟩, ⟨hq, rfl⟩⟩⟩))
  obtain ⟨I1, O1, L1, K1, rfl, hq⟩ := hq
  obtain ⟨v, rfl⟩ := hret _ _ _ _ _ hq
  refine g_i2l C dL_pin_7 rfl ?_
  refine g_lastore C dL_pin_8 ?_
  refine g_goto C 15 dL_pin_9 (by decide) ?_
  refine g_iconst C 0 dL_pin_15 (by decide) ?_
  exact x_ret (g_iret C dL_pin_16 rfl (⟨I1, O1, L1, K1, _, rfl, Or.inl ⟨v, hq, rfl, rfl⟩⟩))
set_option maxRecDepth 100000 in
set_option maxHeartbeats 1000000 in
theorem k_L_unpin (l : Launch) (D : va_G) (g : Nat → ClassId) (A : Nat → Prop) (xa : Nat → Nat) (xo : Nat) (I : VV) (O : OO) (L : List Nat) (K : Nat → Nat) (f : Nat → Int64) (x : Int32) {Qc : Option Value → VV → OO → List Nat → (Nat → Nat) → Prop} {Qx : String → Prop} (hM : CM l yX2_unpin wsX2_unpin ({ frames := 7, cells := 1, slots := 6, locals := 103 } : Room) 1 6 D g (fA A [(xo, oE g f)]) xa [.ref (xa 0), .int x] I O L K Qc Qx) (hxx : ∀ E, Qx E → E = xIA) (hret : ∀ r I1 O1 L1 K1, Qc r I1 O1 L1 K1 → ∃ v, r = some (.int v)) : HM l yL_unpin wsL_unpin ({ frames := 8, cells := 1, slots := 6, locals := 124 } : Room) 1 6 D g A xa xo [.ref (xa 0), .int x, .ref xo] I O L K f (fun r I1 O1 L1 K1 f1 => (∃ v, Qc (some (.int v)) I1 O1 L1 K1 ∧ r = some (.int (nI 0)) ∧ f1 0 = v.toInt64) ∨ ((I1 = I ∧ O1 = O ∧ L1 = L ∧ K1 = K) ∧ ((Qx xIA ∧ r = some (.int (nI 1)))))) := by
  refine x_ofWH [(0, .ref (xa 0)), (1, .int x), (2, .ref xo)] (by decide) rfl (Nat.le_of_ble_eq_true rfl) rfl (by simp [Value.category, vcat_rf]) ?_
  intro p e s m args below meth c C T9 htb
  obtain ⟨fs, hfs⟩ := cX_this g xa I O L K
  first | refine g_aload_n C dL_unpin_0 rfl ?_ | refine g_aload_nq C _ dL_unpin_0 rfl ?_
  refine g_iconst C 0 dL_unpin_1 (by decide) ?_
  first | refine g_aload_n C dL_unpin_2 rfl ?_ | refine g_aload_nq C _ dL_unpin_2 rfl ?_
  refine g_iload_n C dL_unpin_3 rfl ?_
  refine xf_callV C T9 (F := [(xo, oE g f)]) (Cl := RX2) (ci := 2) hM gL_unpin_X2_unpin rfl rfl rfl (n := 1) (by decide +kernel) ⟨Nat.le_of_ble_eq_true rfl, Nat.le_of_ble_eq_true rfl⟩ hfs rfl rfl rfl rfl (Nat.le_of_ble_eq_true rfl) dL_unpin_4 ⟨Nat.le_of_ble_eq_true rfl, Nat.le_of_ble_eq_true rfl⟩ (fun r w hq => ?n1) (fun E w hq => ?n2)
  case n2 =>
    obtain ⟨rfl, hq⟩ := hq
    have hE9 := hxx E hq
    subst hE9
    refine x_catch C T9 [] ⟨0, 9, 12, 19⟩ [] htb rfl (fun z hz => absurd hz List.not_mem_nil) (by decide) (by decide) (by decide +kernel) (by decide +kernel) (fun q => ?_)
    first | refine g_astore_n C dL_unpin_12 (by decide) ?_ | refine g_astore_nq C dL_unpin_12 (by decide) ?_
    refine g_iconst C 1 dL_unpin_13 (by decide) ?_
    exact x_ret (g_iret C dL_unpin_14 rfl (⟨I, O, L, K, f, rfl, Or.inr ⟨⟨rfl, rfl, rfl, rfl⟩, ⟨hq, rfl⟩⟩⟩))
  obtain ⟨I1, O1, L1, K1, rfl, hq⟩ := hq
  obtain ⟨v, rfl⟩ := hret _ _ _ _ _ hq
  refine g_i2l C dL_unpin_7 rfl ?_
  refine g_lastore C dL_unpin_8 ?_
  refine g_goto C 15 dL_unpin_9 (by decide) ?_
  refine g_iconst C 0 dL_unpin_15 (by decide) ?_
  exact x_ret (g_iret C dL_unpin_16 rfl (⟨I1, O1, L1, K1, _, rfl, Or.inl ⟨v, hq, rfl, rfl⟩⟩))
set_option maxRecDepth 100000 in
set_option maxHeartbeats 1000000 in
theorem k_L_state (l : Launch) (D : va_G) (g : Nat → ClassId) (A : Nat → Prop) (xa : Nat → Nat) (xo : Nat) (I : VV) (O : OO) (L : List Nat) (K : Nat → Nat) (f : Nat → Int64) (x : Int32) {Qc : Option Value → VV → OO → List Nat → (Nat → Nat) → Prop} {Qx : String → Prop} (hM : CM l yX2_state wsX2_state ({ frames := 7, cells := 1, slots := 6, locals := 103 } : Room) 1 6 D g (fA A [(xo, oE g f)]) xa [.ref (xa 0), .int x] I O L K Qc Qx) (hxx : ∀ E, Qx E → E = xIA) (hret : ∀ r I1 O1 L1 K1, Qc r I1 O1 L1 K1 → ∃ v, r = some (.int v)) : HM l yL_state wsL_state ({ frames := 8, cells := 1, slots := 6, locals := 124 } : Room) 1 6 D g A xa xo [.ref (xa 0), .int x, .ref xo] I O L K f (fun r I1 O1 L1 K1 f1 => (∃ v, Qc (some (.int v)) I1 O1 L1 K1 ∧ r = some (.int (nI 0)) ∧ f1 0 = v.toInt64) ∨ ((I1 = I ∧ O1 = O ∧ L1 = L ∧ K1 = K) ∧ ((Qx xIA ∧ r = some (.int (nI 1)))))) := by
  refine x_ofWH [(0, .ref (xa 0)), (1, .int x), (2, .ref xo)] (by decide) rfl (Nat.le_of_ble_eq_true rfl) rfl (by simp [Value.category, vcat_rf]) ?_
  intro p e s m args below meth c C T9 htb
  obtain ⟨fs, hfs⟩ := cX_this g xa I O L K
  first | refine g_aload_n C dL_state_0 rfl ?_ | refine g_aload_nq C _ dL_state_0 rfl ?_
  refine g_iconst C 0 dL_state_1 (by decide) ?_
  first | refine g_aload_n C dL_state_2 rfl ?_ | refine g_aload_nq C _ dL_state_2 rfl ?_
  refine g_iload_n C dL_state_3 rfl ?_
  refine xf_callV C T9 (F := [(xo, oE g f)]) (Cl := RX2) (ci := 2) hM gL_state_X2_state rfl rfl rfl (n := 1) (by decide +kernel) ⟨Nat.le_of_ble_eq_true rfl, Nat.le_of_ble_eq_true rfl⟩ hfs rfl rfl rfl rfl (Nat.le_of_ble_eq_true rfl) dL_state_4 ⟨Nat.le_of_ble_eq_true rfl, Nat.le_of_ble_eq_true rfl⟩ (fun r w hq => ?n1) (fun E w hq => ?n2)
  case n2 =>
    obtain ⟨rfl, hq⟩ := hq
    have hE9 := hxx E hq
    subst hE9
    refine x_catch C T9 [] ⟨0, 9, 12, 19⟩ [] htb rfl (fun z hz => absurd hz List.not_mem_nil) (by decide) (by decide) (by decide +kernel) (by decide +kernel) (fun q => ?_)
    first | refine g_astore_n C dL_state_12 (by decide) ?_ | refine g_astore_nq C dL_state_12 (by decide) ?_
    refine g_iconst C 1 dL_state_13 (by decide) ?_
    exact x_ret (g_iret C dL_state_14 rfl (⟨I, O, L, K, f, rfl, Or.inr ⟨⟨rfl, rfl, rfl, rfl⟩, ⟨hq, rfl⟩⟩⟩))
  obtain ⟨I1, O1, L1, K1, rfl, hq⟩ := hq
  obtain ⟨v, rfl⟩ := hret _ _ _ _ _ hq
  refine g_i2l C dL_state_7 rfl ?_
  refine g_lastore C dL_state_8 ?_
  refine g_goto C 15 dL_state_9 (by decide) ?_
  refine g_iconst C 0 dL_state_15 (by decide) ?_
  exact x_ret (g_iret C dL_state_16 rfl (⟨I1, O1, L1, K1, _, rfl, Or.inl ⟨v, hq, rfl, rfl⟩⟩))
set_option maxRecDepth 100000 in
set_option maxHeartbeats 1000000 in
theorem k_L_waits (l : Launch) (D : va_G) (g : Nat → ClassId) (A : Nat → Prop) (xa : Nat → Nat) (xo : Nat) (I : VV) (O : OO) (L : List Nat) (K : Nat → Nat) (f : Nat → Int64) (x : Int32) {Qc : Option Value → VV → OO → List Nat → (Nat → Nat) → Prop} {Qx : String → Prop} (hM : CM l yX2_waits wsX2_waits ({ frames := 7, cells := 1, slots := 6, locals := 103 } : Room) 1 6 D g (fA A [(xo, oE g f)]) xa [.ref (xa 0), .int x] I O L K Qc Qx) (hxx : ∀ E, Qx E → E = xIA) (hret : ∀ r I1 O1 L1 K1, Qc r I1 O1 L1 K1 → ∃ v, r = some (.int v)) : HM l yL_waits wsL_waits ({ frames := 8, cells := 1, slots := 6, locals := 125 } : Room) 1 6 D g A xa xo [.ref (xa 0), .int x, .ref xo] I O L K f (fun r I1 O1 L1 K1 f1 => (∃ v, Qc (some (.int v)) I1 O1 L1 K1 ∧ r = some (.int (nI 0)) ∧ f1 0 = v.toInt64) ∨ ((I1 = I ∧ O1 = O ∧ L1 = L ∧ K1 = K) ∧ ((Qx xIA ∧ r = some (.int (nI 1)))))) := by
  refine x_ofWH [(0, .ref (xa 0)), (1, .int x), (2, .ref xo)] (by decide) rfl (Nat.le_of_ble_eq_true rfl) rfl (by simp [Value.category, vcat_rf]) ?_
  intro p e s m args below meth c C T9 htb
  obtain ⟨fs, hfs⟩ := cX_this g xa I O L K
  first | refine g_aload_n C dL_waits_0 rfl ?_ | refine g_aload_nq C _ dL_waits_0 rfl ?_
  refine g_iconst C 0 dL_waits_1 (by decide) ?_
  first | refine g_aload_n C dL_waits_2 rfl ?_ | refine g_aload_nq C _ dL_waits_2 rfl ?_
  refine g_iload_n C dL_waits_3 rfl ?_
  refine xf_callV C T9 (F := [(xo, oE g f)]) (Cl := RX2) (ci := 2) hM gL_waits_X2_waits rfl rfl rfl (n := 1) (by decide +kernel) ⟨Nat.le_of_ble_eq_true rfl, Nat.le_of_ble_eq_true rfl⟩ hfs rfl rfl rfl rfl (Nat.le_of_ble_eq_true rfl) dL_waits_4 ⟨Nat.le_of_ble_eq_true rfl, Nat.le_of_ble_eq_true rfl⟩ (fun r w hq => ?n1) (fun E w hq => ?n2)
  case n2 =>
    obtain ⟨rfl, hq⟩ := hq
    have hE9 := hxx E hq
    subst hE9
    refine x_catch C T9 [] ⟨0, 9, 12, 19⟩ [] htb rfl (fun z hz => absurd hz List.not_mem_nil) (by decide) (by decide) (by decide +kernel) (by decide +kernel) (fun q => ?_)
    first | refine g_astore_n C dL_waits_12 (by decide) ?_ | refine g_astore_nq C dL_waits_12 (by decide) ?_
    refine g_iconst C 1 dL_waits_13 (by decide) ?_
    exact x_ret (g_iret C dL_waits_14 rfl (⟨I, O, L, K, f, rfl, Or.inr ⟨⟨rfl, rfl, rfl, rfl⟩, ⟨hq, rfl⟩⟩⟩))
  obtain ⟨I1, O1, L1, K1, rfl, hq⟩ := hq
  obtain ⟨v, rfl⟩ := hret _ _ _ _ _ hq
  refine g_i2l C dL_waits_7 rfl ?_
  refine g_lastore C dL_waits_8 ?_
  refine g_goto C 15 dL_waits_9 (by decide) ?_
  refine g_iconst C 0 dL_waits_15 (by decide) ?_
  exact x_ret (g_iret C dL_waits_16 rfl (⟨I1, O1, L1, K1, _, rfl, Or.inl ⟨v, hq, rfl, rfl⟩⟩))
set_option maxRecDepth 100000 in
set_option maxHeartbeats 1000000 in
theorem k_L_conflicts (l : Launch) (D : va_G) (g : Nat → ClassId) (A : Nat → Prop) (xa : Nat → Nat) (xo : Nat) (I : VV) (O : OO) (L : List Nat) (K : Nat → Nat) (f : Nat → Int64) (x y : Int32) {Qc : Option Value → VV → OO → List Nat → (Nat → Nat) → Prop} {Qx : String → Prop} (hM : CM l yX2_conflicts wsX2_conflicts ({ frames := 7, cells := 2, slots := 12, locals := 102 } : Room) 2 12 D g (fA A [(xo, oE g f)]) xa [.ref (xa 0), .int x, .int y] I O L K Qc Qx) (hxx : ∀ E, Qx E → E = xIA) (hret : ∀ r I1 O1 L1 K1, Qc r I1 O1 L1 K1 → ∃ v, r = some (.int v)) : HM l yL_conflicts wsL_conflicts ({ frames := 8, cells := 2, slots := 12, locals := 124 } : Room) 2 12 D g A xa xo [.ref (xa 0), .int x, .int y, .ref xo] I O L K f (fun r I1 O1 L1 K1 f1 => (∃ v, Qc (some (.int v)) I1 O1 L1 K1 ∧ r = some (.int (nI 0)) ∧ f1 0 = v.toInt64) ∨ ((I1 = I ∧ O1 = O ∧ L1 = L ∧ K1 = K) ∧ ((Qx xIA ∧ r = some (.int (nI 1)))))) := by
  refine x_ofWH [(0, .ref (xa 0)), (1, .int x), (2, .int y), (3, .ref xo)] (by decide) rfl (Nat.le_of_ble_eq_true rfl) rfl (by simp [Value.category, vcat_rf]) ?_
  intro p e s m args below meth c C T9 htb
  obtain ⟨fs, hfs⟩ := cX_this g xa I O L K
  first | refine g_aload_n C dL_conflicts_0 rfl ?_ | refine g_aload_nq C _ dL_conflicts_0 rfl ?_
  refine g_iconst C 0 dL_conflicts_1 (by decide) ?_
  first | refine g_aload_n C dL_conflicts_2 rfl ?_ | refine g_aload_nq C _ dL_conflicts_2 rfl ?_
  refine g_iload_n C dL_conflicts_3 rfl ?_
  refine g_iload_n C dL_conflicts_4 rfl ?_
  refine xf_callV C T9 (F := [(xo, oE g f)]) (Cl := RX2) (ci := 2) hM gL_conflicts_X2_conflicts rfl rfl rfl (n := 2) (by decide +kernel) ⟨Nat.le_of_ble_eq_true rfl, Nat.le_of_ble_eq_true rfl⟩ hfs rfl rfl rfl rfl (Nat.le_of_ble_eq_true rfl) dL_conflicts_5 ⟨Nat.le_of_ble_eq_true rfl, Nat.le_of_ble_eq_true rfl⟩ (fun r w hq => ?n1) (fun E w hq => ?n2)
  case n2 =>
    obtain ⟨rfl, hq⟩ := hq
    have hE9 := hxx E hq
    subst hE9
    refine x_catch C T9 [] ⟨0, 10, 13, 19⟩ [] htb rfl (fun z hz => absurd hz List.not_mem_nil) (by decide) (by decide) (by decide +kernel) (by decide +kernel) (fun q => ?_)
    first | refine g_astore C dL_conflicts_13 (by decide) ?_ | refine g_astoreq C dL_conflicts_13 (by decide) ?_
    refine g_iconst C 1 dL_conflicts_15 (by decide) ?_
    exact x_ret (g_iret C dL_conflicts_16 rfl (⟨I, O, L, K, f, rfl, Or.inr ⟨⟨rfl, rfl, rfl, rfl⟩, ⟨hq, rfl⟩⟩⟩))
  obtain ⟨I1, O1, L1, K1, rfl, hq⟩ := hq
  obtain ⟨v, rfl⟩ := hret _ _ _ _ _ hq
  refine g_i2l C dL_conflicts_8 rfl ?_
  refine g_lastore C dL_conflicts_9 ?_
  refine g_goto C 17 dL_conflicts_10 (by decide) ?_
  refine g_iconst C 0 dL_conflicts_17 (by decide) ?_
  exact x_ret (g_iret C dL_conflicts_18 rfl (⟨I1, O1, L1, K1, _, rfl, Or.inl ⟨v, hq, rfl, rfl⟩⟩))
