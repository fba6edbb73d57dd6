abbrev mQ (below : List Frame) (D : va_G) (g : Nat → ClassId) (A : Nat → Prop) (xm : Nat → Nat) (args : Array Value) (s : State) (Qm : Option Value → VV → Prop) : State → Prop := MQ below (kPost D (tyG g) A (fun r w => ∃ V', w = mW g xm V' ∧ Qm r V')) args s 0 0 A
def ix (x : Int32) : Nat := x.toInt.toNat
theorem ix_nI {j : Nat} (h : j < 2 ^ 31) : ix (nI j) = j := by unfold ix; rw [nI_toInt h]; rfl
abbrev inR (x : Int32) (n : Nat) : Prop := 0 ≤ x.toInt ∧ x.toInt < (n : Int)
abbrev tel (V : VV) (x : Int32) : Prop := (vLK V : Int) ≤ x.toInt ∧ x.toInt ≤ (V 4 0 : Int)
theorem inR_nI {j n : Nat} (h : j < 2 ^ 31) : inR (nI j) n ↔ j < n := by
  unfold inR
  rw [nI_toInt h]
  omega
theorem inR_neg {x : Int32} {n : Nat} (h : x < 0) : ¬ inR x n := fun q => by
  have h2 := Int32.lt_iff_toInt_lt.mp h
  have h3 : (0 : Int32).toInt = 0 := rfl
  omega
theorem inR_ex {x : Int32} {n : Nat} (h : inR x n) : ∃ j : Nat, j < n ∧ j < 2 ^ 31 ∧ x = nI j := by
  have h0 : ¬ x < 0 := fun q => inR_neg q h
  obtain ⟨j, hj, rfl⟩ := nI_of h0
  exact ⟨j, (inR_nI hj).mp h, hj, rfl⟩
theorem sh0 : nI 0 - 1 = -1 := by decide
theorem sh_pos {b : Nat} (h : 0 < b) : nI b - 1 = nI (b - 1) := pk_sub (a := b) (b := 1) h
theorem sh_lt {b : Nat} (hb : b < 2 ^ 31) : nI b - 1 < 0 ↔ b = 0 := by
  rcases Nat.eq_zero_or_pos b with h | h
  · subst h; exact ⟨fun _ => rfl, fun _ => by decide⟩
  · rw [sh_pos h]
    exact ⟨fun q => absurd q (nI_pos (by omega)), fun q => by omega⟩
theorem sh_ge {b : Nat} (hb : b < 2 ^ 31) : 0 ≤ nI b - 1 ↔ 0 < b := by
  rcases Nat.eq_zero_or_pos b with h | h
  · subst h; exact ⟨fun q => absurd q (by decide), fun q => by omega⟩
  · rw [sh_pos h]
    exact ⟨fun _ => h, fun _ => nI_pos' (by omega)⟩
theorem sh_eq {b t : Nat} (hb : b < 2 ^ 31) (ht : t < 2 ^ 31) : nI b - 1 = nI t ↔ b = t + 1 := by
  rcases Nat.eq_zero_or_pos b with h | h
  · subst h
    rw [sh0]
    refine ⟨fun q => absurd (nI_pos ht) (fun z => z (by rw [← q]; decide)), fun q => by omega⟩
  · rw [sh_pos h, nI_eq (by omega) ht]
    omega
theorem g_callMS {p : Program} {l : Launch} {e : Env} {R : Room} {s : State} {m : MethodId} {args : Array Value} {below : List Frame} {meth : Method} {c : Code} {Q : State → Prop} {cc : ByteArray} {nL : Nat} {Ts : List Cond} {own : String} {D : va_G} {A : Nat → Prop} {H0 : Heap} {ret : Option FieldType} {cells slots pc : Nat} {lv : List (Nat × Value)} {st : List Value} {g : Nat → ClassId} {xm : Nat → Nat} {V : VV}
    (C : CX p s m args meth c cc nL Ts own D (tyG g) A H0 ret) {y : MethodName} {wy wy' : List Cond} {rm : Room} {maxL index n : Nat} {bytes : ByteArray} {rt : Option FieldType} {As rest : List Value} {Qm : Option Value → VV → Prop}
    (hM : MC l y wy rm D g A xm As V Qm) (hG : GoodIn Ts (va_wsS own index y wy)) (hd : decode cc pc = .ok (.invokestatic index, 3)) (hw : wy = Cond.code y bytes maxL rt :: wy') (hrc : rm.cells = 0) (hrs : rm.slots = 0)
    (hdy : y.cls ≠ "java/lang/invoke/MethodHandle" ∧ y.cls ≠ "java/lang/invoke/VarHandle" ∧ (parseMethodDescriptor y.desc).map (fun d => d.parameters.length) = some n) (hR : rm.frames + 1 ≤ R.frames ∧ 8 + (maxL + 11) + rm.locals ≤ R.locals)
    (hn : As.length = n) (hst : st = As.reverse ++ rest) (hcat : (rest.map fun v => v.category).sum ≤ 8) (hf : cells ≤ R.cells ∧ slots ≤ R.slots)
    (kk : ∀ (r : Option Value) (V' : VV), Qm r V' → GG p l e R s m args below meth c Q nL D A H0 (mW g xm V') cells slots (pc + 3) lv (r.toList ++ rest)) : GG p l e R s m args below meth c Q nL D A H0 (mW g xm V) cells slots pc lv st :=
  g_callS C hM hG hw hrc hrs hdy hR hn hst hcat hd hf (fun r w hq => by
    obtain ⟨V', rfl, hq⟩ := hq
    exact kk r V' hq)
set_option maxRecDepth 100000 in
set_option maxHeartbeats 1000000 in
theorem k_X3_thrown (l : Launch) (D : va_G) (g : Nat → ClassId) (A : Nat → Prop) (xm : Nat → Nat) (V : VV)  : MC l yX3_thrown wsX3_thrown ({ frames := 0, cells := 0, slots := 0, locals := 0 } : Room) D g A xm [.ref (xm 0)] V (fun r V1 => V1 = V ∧ r = some (.int (nI (V 25 0)))) := by
  refine k_ofW [(0, .ref (xm 0))] (by decide) rfl (Nat.le_of_ble_eq_true rfl) rfl (by simp [Value.category]) ?_
  intro p e s m args below meth c C
  have i3 : ∀ w ∈ wsX30, w ∈ wsX3_thrown := by decide +kernel
  first | refine g_aload_n C dX3_thrown_0 rfl ?_ | refine g_aload_nq C _ dX3_thrown_0 rfl ?_
  refine mg_thrown C i3 (by decide +kernel) dX3_thrown_1 ?_
  exact g_iret C dX3_thrown_4 rfl (⟨V, rfl, rfl, rfl⟩)
set_option maxRecDepth 100000 in
set_option maxHeartbeats 1000000 in
theorem k_X3_isTransaction (l : Launch) (D : va_G) (g : Nat → ClassId) (A : Nat → Prop) (xm : Nat → Nat) (V : VV) {N : Nat} (hB : BdN V N) (hN : N ≤ 2 ^ 30) (x : Int32) : MC l yX3_isTransaction wsX3_isTransaction ({ frames := 0, cells := 0, slots := 0, locals := 0 } : Room) D g A xm [.ref (xm 0), .int x] V (fun r V1 => V1 = V ∧ ((inR x (V 16 0) ∧ r = some (.int (nI 1))) ∨ (¬ inR x (V 16 0) ∧ r = some (.int (nI 0))))) := by
  refine k_ofW [(0, .ref (xm 0)), (1, .int x)] (by decide) rfl (Nat.le_of_ble_eq_true rfl) rfl (by simp [Value.category]) ?_
  intro p e s m args below meth c C
  have i3 : ∀ w ∈ wsX30, w ∈ wsX3_isTransaction := by decide +kernel
  refine g_iload_n C dX3_isTransaction_0 rfl ?_
  refine g_ifx_lt C 16 dX3_isTransaction_1 (by decide) (fun c1 => ?_) (fun c1 => ?_)
  · refine g_iconst C 0 dX3_isTransaction_16 (by decide) ?_
    exact g_zret C dX3_isTransaction_17 rfl (by first | exact nar_boolV (by omega) | decide +kernel) (⟨V, rfl, rfl, Or.inr ⟨inR_neg c1, rfl⟩⟩)
  · obtain ⟨j, hj, rfl⟩ := nI_of c1
    refine g_iload_n C dX3_isTransaction_4 rfl ?_
    first | refine g_aload_n C dX3_isTransaction_5 rfl ?_ | refine g_aload_nq C _ dX3_isTransaction_5 rfl ?_
    refine mg_count C i3 (by decide +kernel) dX3_isTransaction_6 ?_
    refine g_icmp_ge C 16 dX3_isTransaction_9 (by decide) (by omega) (bd hB hN _ _) (fun c9 => ?_) (fun c9 => ?_)
    · refine g_iconst C 0 dX3_isTransaction_16 (by decide) ?_
      exact g_zret C dX3_isTransaction_17 rfl (by first | exact nar_boolV (by omega) | decide +kernel) (⟨V, rfl, rfl, Or.inr ⟨fun q => absurd ((inR_nI hj).mp q) (Nat.not_lt.mpr c9), rfl⟩⟩)
    · refine g_iconst C 1 dX3_isTransaction_12 (by decide) ?_
      refine g_goto C 17 dX3_isTransaction_13 (by decide) ?_
      exact g_zret C dX3_isTransaction_17 rfl (by first | exact nar_boolV (by omega) | decide +kernel) (⟨V, rfl, rfl, Or.inl ⟨(inR_nI hj).mpr c9, rfl⟩⟩)
set_option maxRecDepth 100000 in
set_option maxHeartbeats 1000000 in
theorem k_X3_isLive (l : Launch) (D : va_G) (g : Nat → ClassId) (A : Nat → Prop) (xm : Nat → Nat) (V : VV) {N : Nat} (hB : BdN V N) (hN : N ≤ 2 ^ 30) (i : Nat) (hi : i < 60) : MC l yX3_isLive wsX3_isLive ({ frames := 0, cells := 0, slots := 0, locals := 0 } : Room) D g A xm [.ref (xm 0), .int (nI i)] V (fun r V1 => V1 = V ∧ ((V 8 i < 3 ∧ r = some (.int (nI 1))) ∨ (3 ≤ V 8 i ∧ r = some (.int (nI 0))))) := by
  refine k_ofW [(0, .ref (xm 0)), (1, .int (nI i))] (by decide) rfl (Nat.le_of_ble_eq_true rfl) rfl (by simp [Value.category]) ?_
  intro p e s m args below meth c C
  have i3 : ∀ w ∈ wsX30, w ∈ wsX3_isLive := by decide +kernel
  first | refine g_aload_n C dX3_isLive_0 rfl ?_ | refine g_aload_nq C _ dX3_isLive_0 rfl ?_
  refine mg_states C i3 (by decide +kernel) dX3_isLive_1 ?_
  refine g_iload_n C dX3_isLive_4 rfl ?_
  refine ml_states C dX3_isLive_5 (by omega) ?_
  refine g_iconst C 3 dX3_isLive_6 (by decide) ?_
  refine g_icmp_ge C 14 dX3_isLive_7 (by decide) (by first | exact bd hB hN _ _ | omega) (by first | exact bd hB hN _ _ | omega) (fun c7 => ?_) (fun c7 => ?_)
  · refine g_iconst C 0 dX3_isLive_14 (by decide) ?_
    exact g_zret C dX3_isLive_15 rfl (by first | exact nar_boolV (by omega) | decide +kernel) (⟨V, rfl, rfl, by first | exact Or.inl ⟨c7, rfl⟩ | exact Or.inr ⟨c7, rfl⟩⟩)
  · refine g_iconst C 1 dX3_isLive_10 (by decide) ?_
    refine g_goto C 15 dX3_isLive_11 (by decide) ?_
    exact g_zret C dX3_isLive_15 rfl (by first | exact nar_boolV (by omega) | decide +kernel) (⟨V, rfl, rfl, by first | exact Or.inl ⟨c7, rfl⟩ | exact Or.inr ⟨c7, rfl⟩⟩)
set_option maxRecDepth 100000 in
set_option maxHeartbeats 1000000 in
theorem k_X3_fails (l : Launch) (D : va_G) (g : Nat → ClassId) (A : Nat → Prop) (xm : Nat → Nat) (V : VV) (a b : Nat) (ha : a ≤ 1) (hb : b ≤ 1) : MC l yX3_fails wsX3_fails ({ frames := 0, cells := 0, slots := 0, locals := 0 } : Room) D g A xm [.ref (xm 0), .int (nI a), .int (nI b)] V (fun r V1 => (0 < a ∧ 0 < b ∧ V1 = u2 V 25 0 0 ∧ r = some (.int (nI 0))) ∨ (0 < a ∧ b = 0 ∧ V1 = u2 V 25 0 2 ∧ r = some (.int (nI 1))) ∨ (a = 0 ∧ V1 = u2 V 25 0 1 ∧ r = some (.int (nI 1)))) := by
  refine k_ofW [(0, .ref (xm 0)), (1, .int (nI a)), (2, .int (nI b))] (by decide) rfl (Nat.le_of_ble_eq_true rfl) rfl (by simp [Value.category]) ?_
  intro p e s m args below meth c C
  have i3 : ∀ w ∈ wsX30, w ∈ wsX3_fails := by decide +kernel
  first | refine g_aload_n C dX3_fails_0 rfl ?_ | refine g_aload_nq C _ dX3_fails_0 rfl ?_
  refine g_iload_n C dX3_fails_1 rfl ?_
  refine g_if_ne C 9 dX3_fails_2 (by decide) (by omega) (fun c2 => ?_) (fun c2 => ?_)
  · refine g_iload_n C dX3_fails_9 rfl ?_
    refine g_if_ne C 17 dX3_fails_10 (by decide) (by omega) (fun c10 => ?_) (fun c10 => ?_)
    · refine g_iconst C 0 dX3_fails_17 (by decide) ?_
      refine mp_thrown C i3 (by decide +kernel) dX3_fails_18 ?_
      first | refine g_aload_n C dX3_fails_21 rfl ?_ | refine g_aload_nq C _ dX3_fails_21 rfl ?_
      refine mg_thrown C i3 (by decide +kernel) dX3_fails_22 ?_
      refine g_if_eq C 32 dX3_fails_25 (by decide) (by rw [u2_same]; decide) (fun c25 => ?_) (fun c25 => ?_)
      · rw [u2_same] at c25
        refine g_iconst C 0 dX3_fails_32 (by decide) ?_
        exact g_zret C dX3_fails_33 rfl (by first | exact nar_boolV (by omega) | decide +kernel) (⟨_, rfl, by first | exact absurd c25 (by decide) | exact Or.inl ⟨c2, c10, rfl, rfl⟩ | exact Or.inr (Or.inl ⟨c2, c10, rfl, rfl⟩) | exact Or.inr (Or.inr ⟨c2, rfl, rfl⟩)⟩)
      · rw [u2_same] at c25
        refine g_iconst C 1 dX3_fails_28 (by decide) ?_
        refine g_goto C 33 dX3_fails_29 (by decide) ?_
        exact g_zret C dX3_fails_33 rfl (by first | exact nar_boolV (by omega) | decide +kernel) (⟨_, rfl, by first | exact absurd c25 (by decide) | exact Or.inl ⟨c2, c10, rfl, rfl⟩ | exact Or.inr (Or.inl ⟨c2, c10, rfl, rfl⟩) | exact Or.inr (Or.inr ⟨c2, rfl, rfl⟩)⟩)
    · refine g_iconst C 2 dX3_fails_13 (by decide) ?_
      refine g_goto C 18 dX3_fails_14 (by decide) ?_
      refine mp_thrown C i3 (by decide +kernel) dX3_fails_18 ?_
      first | refine g_aload_n C dX3_fails_21 rfl ?_ | refine g_aload_nq C _ dX3_fails_21 rfl ?_
      refine mg_thrown C i3 (by decide +kernel) dX3_fails_22 ?_
      refine g_if_eq C 32 dX3_fails_25 (by decide) (by rw [u2_same]; decide) (fun c25 => ?_) (fun c25 => ?_)
      · rw [u2_same] at c25
        refine g_iconst C 0 dX3_fails_32 (by decide) ?_
        exact g_zret C dX3_fails_33 rfl (by first | exact nar_boolV (by omega) | decide +kernel) (⟨_, rfl, by first | exact absurd c25 (by decide) | exact Or.inl ⟨c2, c10, rfl, rfl⟩ | exact Or.inr (Or.inl ⟨c2, c10, rfl, rfl⟩) | exact Or.inr (Or.inr ⟨c2, rfl, rfl⟩)⟩)
      · rw [u2_same] at c25
        refine g_iconst C 1 dX3_fails_28 (by decide) ?_
        refine g_goto C 33 dX3_fails_29 (by decide) ?_
        exact g_zret C dX3_fails_33 rfl (by first | exact nar_boolV (by omega) | decide +kernel) (⟨_, rfl, by first | exact absurd c25 (by decide) | exact Or.inl ⟨c2, c10, rfl, rfl⟩ | exact Or.inr (Or.inl ⟨c2, c10, rfl, rfl⟩) | exact Or.inr (Or.inr ⟨c2, rfl, rfl⟩)⟩)
  · refine g_iconst C 1 dX3_fails_5 (by decide) ?_
    refine g_goto C 18 dX3_fails_6 (by decide) ?_
    refine mp_thrown C i3 (by decide +kernel) dX3_fails_18 ?_
    first | refine g_aload_n C dX3_fails_21 rfl ?_ | refine g_aload_nq C _ dX3_fails_21 rfl ?_
    refine mg_thrown C i3 (by decide +kernel) dX3_fails_22 ?_
    refine g_if_eq C 32 dX3_fails_25 (by decide) (by rw [u2_same]; decide) (fun c25 => ?_) (fun c25 => ?_)
    · rw [u2_same] at c25
      refine g_iconst C 0 dX3_fails_32 (by decide) ?_
      exact g_zret C dX3_fails_33 rfl (by first | exact nar_boolV (by omega) | decide +kernel) (⟨_, rfl, by first | exact absurd c25 (by decide) | exact Or.inl ⟨c2, c10, rfl, rfl⟩ | exact Or.inr (Or.inl ⟨c2, c10, rfl, rfl⟩) | exact Or.inr (Or.inr ⟨c2, rfl, rfl⟩)⟩)
    · rw [u2_same] at c25
      refine g_iconst C 1 dX3_fails_28 (by decide) ?_
      refine g_goto C 33 dX3_fails_29 (by decide) ?_
      exact g_zret C dX3_fails_33 rfl (by first | exact nar_boolV (by omega) | decide +kernel) (⟨_, rfl, by first | exact absurd c25 (by decide) | exact Or.inl ⟨c2, c10, rfl, rfl⟩ | exact Or.inr (Or.inl ⟨c2, c10, rfl, rfl⟩) | exact Or.inr (Or.inr ⟨c2, rfl, rfl⟩)⟩)
set_option maxRecDepth 100000 in
set_option maxHeartbeats 1000000 in
theorem k_X3_canWrite (l : Launch) (D : va_G) (g : Nat → ClassId) (A : Nat → Prop) (xm : Nat → Nat) (V : VV) {N : Nat} (hB : BdN V N) (hN : N ≤ 2 ^ 30) (i : Nat) (hi : i < 60) : MC l yX3_canWrite wsX3_canWrite ({ frames := 0, cells := 0, slots := 0, locals := 0 } : Room) D g A xm [.ref (xm 0), .int (nI i)] V (fun r V1 => V1 = V ∧ ((V 8 i = 0 ∧ 0 < V 6 i ∧ r = some (.int (nI 1))) ∨ (¬ (V 8 i = 0 ∧ 0 < V 6 i) ∧ r = some (.int (nI 0))))) := by
  refine k_ofW [(0, .ref (xm 0)), (1, .int (nI i))] (by decide) rfl (Nat.le_of_ble_eq_true rfl) rfl (by simp [Value.category]) ?_
  intro p e s m args below meth c C
  have i3 : ∀ w ∈ wsX30, w ∈ wsX3_canWrite := by decide +kernel
  first | refine g_aload_n C dX3_canWrite_0 rfl ?_ | refine g_aload_nq C _ dX3_canWrite_0 rfl ?_
  refine mg_states C i3 (by decide +kernel) dX3_canWrite_1 ?_
  refine g_iload_n C dX3_canWrite_4 rfl ?_
  refine ml_states C dX3_canWrite_5 (by omega) ?_
  refine g_if_ne C 22 dX3_canWrite_6 (by decide) (by first | exact bd hB hN _ _ | omega) (fun c6 => ?_) (fun c6 => ?_)
  · refine g_iconst C 0 dX3_canWrite_22 (by decide) ?_
    exact g_zret C dX3_canWrite_23 rfl (by first | exact nar_boolV (by omega) | decide +kernel) (⟨V, rfl, rfl, by first | exact Or.inl ⟨c6, c15, rfl⟩ | exact Or.inr ⟨fun q => by have c6 : 0 < V 8 i := c6; omega, rfl⟩ | exact Or.inr ⟨fun q => by have c15 : V 6 i = 0 := c15; omega, rfl⟩⟩)
  · first | refine g_aload_n C dX3_canWrite_9 rfl ?_ | refine g_aload_nq C _ dX3_canWrite_9 rfl ?_
    refine mg_writers C i3 (by decide +kernel) dX3_canWrite_10 ?_
    refine g_iload_n C dX3_canWrite_13 rfl ?_
    refine ml_writers C dX3_canWrite_14 (by omega) ?_
    refine g_if_eq C 22 dX3_canWrite_15 (by decide) (by first | exact bd hB hN _ _ | omega) (fun c15 => ?_) (fun c15 => ?_)
    · refine g_iconst C 0 dX3_canWrite_22 (by decide) ?_
      exact g_zret C dX3_canWrite_23 rfl (by first | exact nar_boolV (by omega) | decide +kernel) (⟨V, rfl, rfl, by first | exact Or.inl ⟨c6, c15, rfl⟩ | exact Or.inr ⟨fun q => by have c6 : 0 < V 8 i := c6; omega, rfl⟩ | exact Or.inr ⟨fun q => by have c15 : V 6 i = 0 := c15; omega, rfl⟩⟩)
    · refine g_iconst C 1 dX3_canWrite_18 (by decide) ?_
      refine g_goto C 23 dX3_canWrite_19 (by decide) ?_
      exact g_zret C dX3_canWrite_23 rfl (by first | exact nar_boolV (by omega) | decide +kernel) (⟨V, rfl, rfl, by first | exact Or.inl ⟨c6, c15, rfl⟩ | exact Or.inr ⟨fun q => by have c6 : 0 < V 8 i := c6; omega, rfl⟩ | exact Or.inr ⟨fun q => by have c15 : V 6 i = 0 := c15; omega, rfl⟩⟩)
set_option maxRecDepth 100000 in
set_option maxHeartbeats 1000000 in
theorem k_X3_isTriple (l : Launch) (D : va_G) (g : Nat → ClassId) (A : Nat → Prop) (xm : Nat → Nat) (V : VV) (x : Int32) : MC l yX3_isTriple wsX3_isTriple ({ frames := 0, cells := 0, slots := 0, locals := 0 } : Room) D g A xm [.int x] V (fun r V1 => V1 = V ∧ ((inR x 200 ∧ r = some (.int (nI 1))) ∨ (¬ inR x 200 ∧ r = some (.int (nI 0))))) := by
  refine k_ofW [(0, .int x)] (by decide) rfl (Nat.le_of_ble_eq_true rfl) rfl (by simp [Value.category]) ?_
  intro p e s m args below meth c C
  refine g_iload_n C dX3_isTriple_0 rfl ?_
  refine g_ifx_lt C 15 dX3_isTriple_1 (by decide) (fun c1 => ?_) (fun c1 => ?_)
  · refine g_iconst C 0 dX3_isTriple_15 (by decide) ?_
    exact g_zret C dX3_isTriple_16 rfl (by first | exact nar_boolV (by omega) | decide +kernel) (⟨V, rfl, rfl, Or.inr ⟨inR_neg c1, rfl⟩⟩)
  · obtain ⟨j, hj, rfl⟩ := nI_of c1
    refine g_iload_n C dX3_isTriple_4 rfl ?_
    refine g_sipush C 200 dX3_isTriple_5 (by decide) ?_
    refine g_icmp_ge C 15 dX3_isTriple_8 (by decide) (by omega) (by decide) (fun c8 => ?_) (fun c8 => ?_)
    · refine g_iconst C 0 dX3_isTriple_15 (by decide) ?_
      exact g_zret C dX3_isTriple_16 rfl (by first | exact nar_boolV (by omega) | decide +kernel) (⟨V, rfl, rfl, Or.inr ⟨fun q => absurd ((inR_nI hj).mp q) (Nat.not_lt.mpr c8), rfl⟩⟩)
    · refine g_iconst C 1 dX3_isTriple_11 (by decide) ?_
      refine g_goto C 16 dX3_isTriple_12 (by decide) ?_
      exact g_zret C dX3_isTriple_16 rfl (by first | exact nar_boolV (by omega) | decide +kernel) (⟨V, rfl, rfl, Or.inl ⟨(inR_nI hj).mpr c8, rfl⟩⟩)
set_option maxRecDepth 100000 in
set_option maxHeartbeats 1000000 in
theorem k_X3_hasAbove (l : Launch) (D : va_G) (g : Nat → ClassId) (A : Nat → Prop) (xm : Nat → Nat) (V : VV) {N : Nat} (hB : BdN V N) (hN : N ≤ 2 ^ 30) (t v : Nat) (ht : t < 2 ^ 30) (hv : v < 2 ^ 30) (hR : V 3 0 ≤ 13000) : MC l yX3_hasAbove wsX3_hasAbove ({ frames := 0, cells := 0, slots := 0, locals := 0 } : Room) D g A xm [.ref (xm 0), .int (nI t), .int (nI v)] V (fun r V1 => V1 = V ∧ ((vAb V t v (V 3 0) = true ∧ r = some (.int (nI 1))) ∨ (vAb V t v (V 3 0) = false ∧ r = some (.int (nI 0))))) := by
  refine k_ofW [(0, .ref (xm 0)), (1, .int (nI t)), (2, .int (nI v))] (by decide) rfl (Nat.le_of_ble_eq_true rfl) rfl (by simp [Value.category]) ?_
  intro p e s m args below meth c C
  have i3 : ∀ w ∈ wsX30, w ∈ wsX3_hasAbove := by decide +kernel
  have loop : ∀ (n i : Nat), V 3 0 - i = n → i ≤ V 3 0 → vAb V t v i = false → GG p l e ({ frames := 0, cells := 0, slots := 0, locals := 0 } : Room) s m args below meth c (mQ below D g A xm args s (fun r V1 => V1 = V ∧ ((vAb V t v (V 3 0) = true ∧ r = some (.int (nI 1))) ∨ (vAb V t v (V 3 0) = false ∧ r = some (.int (nI 0)))))) 4 D A s.heap (mW g xm (V)) 0 0 2 [(0, .ref (xm 0)), (1, .int (nI t)), (2, .int (nI v)), (3, .int (nI (i)))] [] := by
    intro n
    induction n using Nat.strongRecOn with
    | _ n ih =>
      intro i hn hi hvi
      refine g_iload_n C dX3_hasAbove_2 rfl ?_
      first | refine g_aload_n C dX3_hasAbove_3 rfl ?_ | refine g_aload_nq C _ dX3_hasAbove_3 rfl ?_
      refine mg_rows C i3 (by decide +kernel) dX3_hasAbove_4 ?_
      refine g_icmp_ge C 38 dX3_hasAbove_7 (by decide) (by omega) (by omega) (fun c7 => ?_) (fun c7 => ?_)
      · refine g_iconst C 0 dX3_hasAbove_38 (by decide) ?_
        exact g_zret C dX3_hasAbove_39 rfl (by first | exact nar_boolV (by omega) | decide +kernel) (⟨V, rfl, rfl, Or.inr ⟨(show i = V 3 0 by omega) ▸ hvi, rfl⟩⟩)
      · first | refine g_aload_n C dX3_hasAbove_10 rfl ?_ | refine g_aload_nq C _ dX3_hasAbove_10 rfl ?_
        refine mg_rowTriples C i3 (by decide +kernel) dX3_hasAbove_11 ?_
        refine g_iload_n C dX3_hasAbove_14 rfl ?_
        refine ml_rowTriples C dX3_hasAbove_15 (by omega) ?_
        refine g_iload_n C dX3_hasAbove_16 rfl ?_
        refine g_icmp_ne C 32 dX3_hasAbove_17 (by decide) (bd hB hN _ _) (by omega) (fun c17 => ?_) (fun c17 => ?_)
        · refine g_iinc C dX3_hasAbove_32 rfl (by decide) ?_
          refine g_goto C 2 dX3_hasAbove_35 (by decide) ?_
          exact ih _ (by omega) (i + 1) rfl (by omega) (by unfold vAb; rw [hvi]; simp only [Bool.false_or, Bool.and_eq_false_iff, decide_eq_false_iff_not]; first | exact Or.inl c17 | exact Or.inr (Nat.not_lt.mpr c27))
        · first | refine g_aload_n C dX3_hasAbove_20 rfl ?_ | refine g_aload_nq C _ dX3_hasAbove_20 rfl ?_
          refine mg_rowVersions C i3 (by decide +kernel) dX3_hasAbove_21 ?_
          refine g_iload_n C dX3_hasAbove_24 rfl ?_
          refine ml_rowVersions C dX3_hasAbove_25 (by omega) ?_
          refine g_iload_n C dX3_hasAbove_26 rfl ?_
          refine g_icmp_le C 32 dX3_hasAbove_27 (by decide) (bd hB hN _ _) (by omega) (fun c27 => ?_) (fun c27 => ?_)
          · refine g_iinc C dX3_hasAbove_32 rfl (by decide) ?_
            refine g_goto C 2 dX3_hasAbove_35 (by decide) ?_
            exact ih _ (by omega) (i + 1) rfl (by omega) (by unfold vAb; rw [hvi]; simp only [Bool.false_or, Bool.and_eq_false_iff, decide_eq_false_iff_not]; first | exact Or.inl c17 | exact Or.inr (Nat.not_lt.mpr c27))
          · refine g_iconst C 1 dX3_hasAbove_30 (by decide) ?_
            exact g_zret C dX3_hasAbove_31 rfl (by first | exact nar_boolV (by omega) | decide +kernel) (⟨V, rfl, rfl, Or.inl ⟨vAb_true c7 c17 c27, rfl⟩⟩)
  refine g_iconst C 0 dX3_hasAbove_0 (by decide) ?_
  refine g_istore_n C dX3_hasAbove_1 (by decide) ?_
  exact loop _ 0 rfl (Nat.zero_le _) rfl
set_option maxRecDepth 100000 in
set_option maxHeartbeats 1000000 in
theorem k_X3_rowOf (l : Launch) (D : va_G) (g : Nat → ClassId) (A : Nat → Prop) (xm : Nat → Nat) (V : VV) {N : Nat} (hB : BdN V N) (hN : N ≤ 2 ^ 30) (t v : Nat) (ht : t < 2 ^ 30) (hv : v < 2 ^ 30) (hR : V 3 0 ≤ 13000) : MC l yX3_rowOf wsX3_rowOf ({ frames := 0, cells := 0, slots := 0, locals := 0 } : Room) D g A xm [.ref (xm 0), .int (nI t), .int (nI v)] V (fun r V1 => V1 = V ∧ r = some (.int (nI (vRow V t v (V 3 0)) - 1))) := by
  refine k_ofW [(0, .ref (xm 0)), (1, .int (nI t)), (2, .int (nI v))] (by decide) rfl (Nat.le_of_ble_eq_true rfl) rfl (by simp [Value.category]) ?_
  intro p e s m args below meth c C
  have i3 : ∀ w ∈ wsX30, w ∈ wsX3_rowOf := by decide +kernel
  have loop : ∀ (n i b : Nat), V 3 0 - i = n → i ≤ V 3 0 → vRow V t v i = b → b ≤ i → GG p l e ({ frames := 0, cells := 0, slots := 0, locals := 0 } : Room) s m args below meth c (mQ below D g A xm args s (fun r V1 => V1 = V ∧ r = some (.int (nI (vRow V t v (V 3 0)) - 1)))) 5 D A s.heap (mW g xm (V)) 0 0 5 [(0, .ref (xm 0)), (1, .int (nI t)), (2, .int (nI v)), (3, .int (nI (b) - 1)), (4, .int (nI (i)))] [] := by
    intro n
    induction n using Nat.strongRecOn with
    | _ n ih =>
      intro i b hn hi hvi hb
      refine g_iload C dX3_rowOf_5 rfl ?_
      first | refine g_aload_n C dX3_rowOf_7 rfl ?_ | refine g_aload_nq C _ dX3_rowOf_7 rfl ?_
      refine mg_rows C i3 (by decide +kernel) dX3_rowOf_8 ?_
      refine g_icmp_ge C 65 dX3_rowOf_11 (by decide) (by omega) (by omega) (fun c11 => ?_) (fun c11 => ?_)
      · refine g_iload_n C dX3_rowOf_65 rfl ?_
        exact g_iret C dX3_rowOf_66 rfl (⟨V, rfl, rfl, by rw [← hvi, show i = V 3 0 by omega]⟩)
      · first | refine g_aload_n C dX3_rowOf_14 rfl ?_ | refine g_aload_nq C _ dX3_rowOf_14 rfl ?_
        refine mg_rowTriples C i3 (by decide +kernel) dX3_rowOf_15 ?_
        refine g_iload C dX3_rowOf_18 rfl ?_
        refine ml_rowTriples C dX3_rowOf_20 (by omega) ?_
        refine g_iload_n C dX3_rowOf_21 rfl ?_
        refine g_icmp_ne C 59 dX3_rowOf_22 (by decide) (bd hB hN _ _) (by omega) (fun c22 => ?_) (fun c22 => ?_)
        · refine g_iinc C dX3_rowOf_59 rfl (by decide) ?_
          refine g_goto C 5 dX3_rowOf_62 (by decide) ?_
          exact ih _ (by omega) (i + 1) b rfl (by omega) (by unfold vRow; rw [if_neg (fun q => c22 q.1)]; exact hvi) (by omega)
        · first | refine g_aload_n C dX3_rowOf_25 rfl ?_ | refine g_aload_nq C _ dX3_rowOf_25 rfl ?_
          refine mg_rowVersions C i3 (by decide +kernel) dX3_rowOf_26 ?_
          refine g_iload C dX3_rowOf_29 rfl ?_
          refine ml_rowVersions C dX3_rowOf_31 (by omega) ?_
          refine g_iload_n C dX3_rowOf_32 rfl ?_
          refine g_icmp_gt C 59 dX3_rowOf_33 (by decide) (bd hB hN _ _) (by omega) (fun c33 => ?_) (fun c33 => ?_)
          · refine g_iinc C dX3_rowOf_59 rfl (by decide) ?_
            refine g_goto C 5 dX3_rowOf_62 (by decide) ?_
            exact ih _ (by omega) (i + 1) b rfl (by omega) (by unfold vRow; rw [if_neg (fun q => absurd q.2.1 (Nat.not_le.mpr c33))]; exact hvi) (by omega)
          · refine g_iload_n C dX3_rowOf_36 rfl ?_
            refine g_ifx_lt C 56 dX3_rowOf_37 (by decide) (fun c37 => ?_) (fun c37 => ?_)
            · have c37 : b = 0 := (sh_lt (by omega)).mp c37
              refine g_iload C dX3_rowOf_56 rfl ?_
              refine g_istore_n C dX3_rowOf_58 (by decide) ?_
              refine g_iinc C dX3_rowOf_59 rfl (by decide) ?_
              refine g_goto C 5 dX3_rowOf_62 (by decide) ?_
              refine g_ws rfl ?_
              rw [show nI i = nI (i + 1) - 1 from (sh_pos (b := i + 1) (by omega)).symm]
              exact ih _ (by omega) (i + 1) (i + 1) rfl (by omega) (by unfold vRow; rw [hvi, if_pos ⟨c22, c33, Or.inl c37⟩]) (by omega)
            · have c37 : 0 < b := Nat.pos_of_ne_zero (fun z => c37 ((sh_lt (by omega)).mpr z))
              first | refine g_aload_n C dX3_rowOf_40 rfl ?_ | refine g_aload_nq C _ dX3_rowOf_40 rfl ?_
              refine mg_rowVersions C i3 (by decide +kernel) dX3_rowOf_41 ?_
              refine g_iload C dX3_rowOf_44 rfl ?_
              refine ml_rowVersions C dX3_rowOf_46 (by omega) ?_
              first | refine g_aload_n C dX3_rowOf_47 rfl ?_ | refine g_aload_nq C _ dX3_rowOf_47 rfl ?_
              refine mg_rowVersions C i3 (by decide +kernel) dX3_rowOf_48 ?_
              refine g_iload_n C dX3_rowOf_51 rfl ?_
              refine g_top C (sh_pos c37) ?_
              refine ml_rowVersions C dX3_rowOf_52 (by omega) ?_
              refine g_icmp_le C 59 dX3_rowOf_53 (by decide) (bd hB hN _ _) (bd hB hN _ _) (fun c53 => ?_) (fun c53 => ?_)
              · refine g_iinc C dX3_rowOf_59 rfl (by decide) ?_
                refine g_goto C 5 dX3_rowOf_62 (by decide) ?_
                exact ih _ (by omega) (i + 1) b rfl (by omega) (by unfold vRow; rw [hvi, if_neg (fun q => q.2.2.elim (fun z => by omega) (fun z => absurd z (Nat.not_lt.mpr c53)))]) (by omega)
              · refine g_iload C dX3_rowOf_56 rfl ?_
                refine g_istore_n C dX3_rowOf_58 (by decide) ?_
                refine g_iinc C dX3_rowOf_59 rfl (by decide) ?_
                refine g_goto C 5 dX3_rowOf_62 (by decide) ?_
                rw [show nI i = nI (i + 1) - 1 from (sh_pos (b := i + 1) (by omega)).symm]
                exact ih _ (by omega) (i + 1) (i + 1) rfl (by omega) (by unfold vRow; rw [hvi, if_pos ⟨c22, c33, Or.inr c53⟩]) (by omega)
  refine g_iconstm C dX3_rowOf_0 ?_
  refine g_istore_n C dX3_rowOf_1 (by decide) ?_
  refine g_iconst C 0 dX3_rowOf_2 (by decide) ?_
  refine g_istore C dX3_rowOf_3 (by decide) ?_
  rw [show (-1 : Int32) = nI 0 - 1 from sh0.symm]
  exact loop _ 0 0 rfl (Nat.zero_le _) rfl (Nat.le_refl _)
