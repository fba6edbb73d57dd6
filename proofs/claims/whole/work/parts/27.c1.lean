/-- Math.min over numbers -/
theorem g_mmin {p : Program} {l : Launch} {e : Env} {R : Room} {s : State} {m : MethodId} {args : Array Value} {below : List Frame} {meth : Method} {c : Code} {Q : State → Prop} {cc : ByteArray} {nL : Nat} {Ts : List Cond} {own : String} {D : va_G} {tys : List (ClassId × FieldType)} {A : Nat → Prop} {H0 : Heap} {ret : Option FieldType} {ws : va_W} {cells slots pc : Nat} {lv : List (Nat × Value)} {st : List Value} (C : CX p s m args meth c cc nL Ts own D tys A H0 ret) {index a b : Nat} (ha : a < 2 ^ 31) (hb9 : b < 2 ^ 31)
    (h1 : Cond.methodLink own index Lib.Math.min.name ∈ Ts) (h2 : Cond.static Lib.Math.min.name ∈ Ts) (h3 : Cond.initialized "java/lang/Math" ∈ Ts) (h4 : Cond.code Lib.Math.min.name Lib.Math.min.code 2 (some .int) ∈ Ts)
    (hframes : 1 ≤ R.frames) (hlocals : (st.map fun v => v.category).sum + 13 ≤ R.locals) (hc : cells ≤ R.cells) (hs : slots ≤ R.slots) (hd : decode cc pc = .ok (.invokestatic index, 3))
    (kk : GG p l e R s m args below meth c Q nL D A H0 ws cells slots (pc + 3) lv (.int (nI (if b < a then b else a)) :: st)) : GG p l e R s m args below meth c Q nL D A H0 ws cells slots pc lv (.int (nI b) :: .int (nI a) :: st) := fun H locs ls hP hD hS hl => by
  have ht := C.1.2.2.2.2
  refine va_mmin C.1.1 C.1.2.1 (C.1.2.2.1.trans hl.1.1.symm) C.1.2.2.2.1 (ht _ h1) (ht _ h2) (ht _ h3) (ht _ h4) hframes hlocals hc hs hd ?_
  have hk := kk H locs ls hP hD hS hl
  by_cases q : b < a
  · rw [if_pos q] at hk
    rw [if_pos ((nI_ltI hb9 ha).mpr q)]
    exact hk
  · rw [if_neg q] at hk
    rw [if_neg (fun z => q ((nI_ltI hb9 ha).mp z))]
    exact hk
/-- the first row not above v tells that the triple is there -/
def thL : List (Nat × Nat) → Nat → Prop
  | [], _ => False
  | q :: l, v => (q.1 ≤ v ∧ 0 < q.2) ∨ (v < q.1 ∧ thL l v)
def hdL : List (Nat × Nat) → Nat → Prop
  | [], _ => False
  | q :: _, v => v < q.1
theorem vLP_none {V : VV} (h : ∀ j, j < vLT V (V 16 0) → V 5 j = 0) : ∀ k, vLP V k = vLT V (V 16 0)
  | 0 => rfl
  | k + 1 => by
    unfold vLP
    rw [vLP_none h k]
    rw [if_neg (fun q => by have := h k q.2; omega)]
theorem vLP_low {V : VV} {v : Nat} (h : ∀ j, j < v → V 5 j = 0) : ∀ k, k ≤ v → vLP V k = vLT V (V 16 0)
  | 0, _ => rfl
  | k + 1, hk => by
    unfold vLP
    rw [vLP_low h k (by omega)]
    rw [if_neg (fun q => by have := h k (by omega); omega)]
theorem vLP_hit {V : VV} {v : Nat} (h : ∀ j, j < v → V 5 j = 0) (h1 : 0 < V 5 v) (h2 : v < vLT V (V 16 0)) : ∀ k, v < k → vLP V k = v
  | 0, hk => by omega
  | k + 1, hk => by
    unfold vLP
    rcases (show k = v ∨ v < k by omega) with e | e
    · subst e
      rw [vLP_low h k (Nat.le_refl _), if_pos ⟨h1, h2⟩]
    · rw [vLP_hit h h1 h2 k e, if_neg (fun q => by have := q.2; omega)]
set_option maxRecDepth 100000 in
set_option maxHeartbeats 1000000 in
theorem k_X1_hasEnded (l : Launch) (D : va_G) (g : Nat → ClassId) (A : Nat → Prop) (xa : Nat → Nat) (I : VV) (O : OO) (L : List Nat) (K : Nat → Nat) {N : Nat} (hB : BdN I N) (hN : N ≤ 2 ^ 30) (a : Nat) (haL : a ∈ L) (haK : K a = 1) : CC l yX1_hasEnded wsX1_hasEnded ({ frames := 0, cells := 0, slots := 0, locals := 0 } : Room) 0 0 D g A xa [.ref a] I O L K (fun r I1 O1 L1 K1 => (I1 = I ∧ O1 = O ∧ L1 = L ∧ K1 = K) ∧ (((I 16 a = 3 ∨ I 16 a = 4) ∧ r = some (.int (nI 1))) ∨ (¬ (I 16 a = 3 ∨ I 16 a = 4) ∧ r = some (.int (nI 0))))) := by
  refine k_ofW [(0, .ref a)] (by decide) rfl (Nat.le_of_ble_eq_true rfl) rfl (by simp [Value.category, vcat_rf]) ?_
  intro p e s m args below meth c C
  have i1 : ∀ w ∈ wsX10, w ∈ wsX1_hasEnded := by decide +kernel
  first | refine g_aload_n C dX1_hasEnded_0 rfl ?_ | refine g_aload_nq C _ dX1_hasEnded_0 rfl ?_
  refine tg_state C (by assumption) (by assumption) i1 (by decide +kernel) dX1_hasEnded_1 ?_
  refine g_iconst C 3 dX1_hasEnded_4 (by decide) ?_
  refine g_icmp_eq C 16 dX1_hasEnded_5 (by decide) (by first | exact bd hB hN _ _ | omega) (by first | exact bd hB hN _ _ | omega) (fun c5 => ?_) (fun c5 => ?_)
  · refine g_iconst C 1 dX1_hasEnded_16 (by decide) ?_
    refine g_goto C 21 dX1_hasEnded_17 (by decide) ?_
    exact g_zret C dX1_hasEnded_21 rfl (by first | exact nar_boolV (by omega) | decide +kernel) (⟨I, O, L, K, rfl, ⟨rfl, rfl, rfl, rfl⟩, Or.inl ⟨Or.inl c5, rfl⟩⟩)
  · first | refine g_aload_n C dX1_hasEnded_8 rfl ?_ | refine g_aload_nq C _ dX1_hasEnded_8 rfl ?_
    refine tg_state C (by assumption) (by assumption) i1 (by decide +kernel) dX1_hasEnded_9 ?_
    refine g_iconst C 4 dX1_hasEnded_12 (by decide) ?_
    refine g_icmp_ne C 20 dX1_hasEnded_13 (by decide) (by first | exact bd hB hN _ _ | omega) (by first | exact bd hB hN _ _ | omega) (fun c13 => ?_) (fun c13 => ?_)
    · refine g_iconst C 0 dX1_hasEnded_20 (by decide) ?_
      exact g_zret C dX1_hasEnded_21 rfl (by first | exact nar_boolV (by omega) | decide +kernel) (⟨I, O, L, K, rfl, ⟨rfl, rfl, rfl, rfl⟩, Or.inr ⟨fun q => q.elim c5 c13, rfl⟩⟩)
    · refine g_iconst C 1 dX1_hasEnded_16 (by decide) ?_
      refine g_goto C 21 dX1_hasEnded_17 (by decide) ?_
      exact g_zret C dX1_hasEnded_21 rfl (by first | exact nar_boolV (by omega) | decide +kernel) (⟨I, O, L, K, rfl, ⟨rfl, rfl, rfl, rfl⟩, Or.inl ⟨Or.inr c13, rfl⟩⟩)
set_option maxRecDepth 100000 in
set_option maxHeartbeats 1000000 in
theorem k_X2_isChangedSince (l : Launch) (D : va_G) (g : Nat → ClassId) (A : Nat → Prop) (xa : Nat → Nat) (I : VV) (O : OO) (L : List Nat) (K : Nat → Nat) {N : Nat} (hB : BdN I N) (hN : N ≤ 2 ^ 30) {own : Nat → Nat} {ls0 : List (Nat × Nat)} (k v : Nat) (hk : k < 200) (hv : v < 2 ^ 30) (hch : Ch I O L K own k (O 3 k) ls0) : CC l yX2_isChangedSince wsX2_isChangedSince ({ frames := 0, cells := 0, slots := 0, locals := 0 } : Room) 0 0 D g A xa [.ref (xa 0), .int (nI k), .int (nI v)] I O L K (fun r I1 O1 L1 K1 => (I1 = I ∧ O1 = O ∧ L1 = L ∧ K1 = K) ∧ (((hdL ls0 v) ∧ r = some (.int (nI 1))) ∨ (¬ (hdL ls0 v) ∧ r = some (.int (nI 0))))) := by
  refine k_ofW [(0, .ref (xa 0)), (1, .int (nI k)), (2, .int (nI v))] (by decide) rfl (Nat.le_of_ble_eq_true rfl) rfl (by simp [Value.category, vcat_rf]) ?_
  intro p e s m args below meth c C
  have i0 : ∀ w ∈ wsX00, w ∈ wsX2_isChangedSince := by decide +kernel
  have i2 : ∀ w ∈ wsX20, w ∈ wsX2_isChangedSince := by decide +kernel
  first | refine g_aload_n C dX2_isChangedSince_0 rfl ?_ | refine g_aload_nq C _ dX2_isChangedSince_0 rfl ?_
  refine cg_newest C i2 (by decide +kernel) dX2_isChangedSince_1 ?_
  refine g_iload_n C dX2_isChangedSince_4 rfl ?_
  refine cl_newest C dX2_isChangedSince_5 (by omega) ?_
  refine g_ifnull C 26 dX2_isChangedSince_6 (by decide) (fun c6 => ?_) (fun a6 c6 => ?_)
  · have hnil : ls0 = [] := by
      cases ls0 with
      | nil => rfl
      | cons q l9 => obtain ⟨a, ha, _⟩ := hch; exact absurd (c6.symm.trans ha) (by simp)
    refine g_iconst C 0 dX2_isChangedSince_26 (by decide) ?_
    exact g_zret C dX2_isChangedSince_27 rfl (by first | exact nar_boolV (by omega) | decide +kernel) (⟨I, O, L, K, rfl, ⟨rfl, rfl, rfl, rfl⟩, Or.inr ⟨by rw [hnil]; exact id, rfl⟩⟩)
  · obtain ⟨q, l9, rfl⟩ : ∃ q l9, ls0 = q :: l9 := by
      cases ls0 with
      | nil => exact absurd (c6.symm.trans hch) (by simp)
      | cons q l9 => exact ⟨q, l9, rfl⟩
    obtain ⟨a, ha, haL, haK, -, h10, -, -⟩ := hch
    first | refine g_aload_n C dX2_isChangedSince_9 rfl ?_ | refine g_aload_nq C _ dX2_isChangedSince_9 rfl ?_
    refine cg_newest C i2 (by decide +kernel) dX2_isChangedSince_10 ?_
    refine g_iload_n C dX2_isChangedSince_13 rfl ?_
    refine cl_newest C dX2_isChangedSince_14 (by omega) ?_
    rw [ha]
    refine rg_version C (by assumption) (by assumption) i0 (by decide +kernel) dX2_isChangedSince_15 ?_
    refine g_iload_n C dX2_isChangedSince_18 rfl ?_
    refine g_icmp_le C 26 dX2_isChangedSince_19 (by decide) (bd hB hN _ _) (by omega) (fun c19 => ?_) (fun c19 => ?_)
    · rw [h10] at c19
      refine g_iconst C 0 dX2_isChangedSince_26 (by decide) ?_
      exact g_zret C dX2_isChangedSince_27 rfl (by first | exact nar_boolV (by omega) | decide +kernel) (⟨I, O, L, K, rfl, ⟨rfl, rfl, rfl, rfl⟩, Or.inr ⟨fun z => absurd z (Nat.not_lt.mpr c19), rfl⟩⟩)
    · rw [h10] at c19
      refine g_iconst C 1 dX2_isChangedSince_22 (by decide) ?_
      refine g_goto C 27 dX2_isChangedSince_23 (by decide) ?_
      exact g_zret C dX2_isChangedSince_27 rfl (by first | exact nar_boolV (by omega) | decide +kernel) (⟨I, O, L, K, rfl, ⟨rfl, rfl, rfl, rfl⟩, Or.inl ⟨c19, rfl⟩⟩)
set_option maxRecDepth 100000 in
set_option maxHeartbeats 1000000 in
theorem k_X2_isThere (l : Launch) (D : va_G) (g : Nat → ClassId) (A : Nat → Prop) (xa : Nat → Nat) (I : VV) (O : OO) (L : List Nat) (K : Nat → Nat) {N : Nat} (hB : BdN I N) (hN : N ≤ 2 ^ 30) {own : Nat → Nat} {ls0 : List (Nat × Nat)} (k v : Nat) (hk : k < 200) (hv : v < 2 ^ 30) (hch : Ch I O L K own k (O 3 k) ls0) : CC l yX2_isThere wsX2_isThere ({ frames := 0, cells := 0, slots := 0, locals := 0 } : Room) 0 0 D g A xa [.ref (xa 0), .int (nI k), .int (nI v)] I O L K (fun r I1 O1 L1 K1 => (I1 = I ∧ O1 = O ∧ L1 = L ∧ K1 = K) ∧ (((thL ls0 v) ∧ r = some (.int (nI 1))) ∨ (¬ (thL ls0 v) ∧ r = some (.int (nI 0))))) := by
  refine k_ofW [(0, .ref (xa 0)), (1, .int (nI k)), (2, .int (nI v))] (by decide) rfl (Nat.le_of_ble_eq_true rfl) rfl (by simp [Value.category, vcat_rf]) ?_
  intro p e s m args below meth c C
  have i0 : ∀ w ∈ wsX00, w ∈ wsX2_isThere := by decide +kernel
  have i2 : ∀ w ∈ wsX20, w ∈ wsX2_isThere := by decide +kernel
  have loop : ∀ (l2 : List (Nat × Nat)) (o : Option Nat), Ch I O L K own k o l2 → (thL l2 v ↔ thL ls0 v) → GG p l e ({ frames := 0, cells := 0, slots := 0, locals := 0 } : Room) s m args below meth c (cQ below D g A xa args s 0 0 (fun r I1 O1 L1 K1 => (I1 = I ∧ O1 = O ∧ L1 = L ∧ K1 = K) ∧ (((thL ls0 v) ∧ r = some (.int (nI 1))) ∨ (¬ (thL ls0 v) ∧ r = some (.int (nI 0)))))) 4 D A s.heap (cW g xa I O L K) (0) (0) 7 [(0, .ref (xa 0)), (1, .int (nI k)), (2, .int (nI v)), (3, va_rf o)] [] := by
    intro l2
    induction l2 with
    | nil =>
      intro o ho hiff
      have ho : o = none := ho
      subst ho
      refine g_aload_nq C none dX2_isThere_7 rfl ?_
      refine g_ifnull C 27 dX2_isThere_8 (by decide) (fun c8 => ?_) (fun a8 c8 => ?_)
      · refine g_aload_nq C none dX2_isThere_27 rfl ?_
        refine g_ifnull C 42 dX2_isThere_28 (by decide) (fun c28 => ?_) (fun a28 c28 => ?_)
        · refine g_iconst C 0 dX2_isThere_42 (by decide) ?_
          exact g_zret C dX2_isThere_43 rfl (by first | exact nar_boolV (by omega) | decide +kernel) (⟨I, O, L, K, rfl, ⟨rfl, rfl, rfl, rfl⟩, Or.inr ⟨fun q => hiff.mpr q, rfl⟩⟩)
        · exact absurd c28 (by simp)
      · exact absurd c8 (by simp)
    | cons q l9 ih =>
      intro o ho hiff
      obtain ⟨a, ha, haL, haK, ho1, h10, h11, hnx⟩ := ho
      subst ha
      refine g_aload_nq C (some a) dX2_isThere_7 rfl ?_
      refine g_ifnull C 27 dX2_isThere_8 (by decide) (fun c8 => ?_) (fun a8 c8 => ?_)
      · exact absurd c8 (by simp)
      · first | refine g_aload_n C dX2_isThere_11 rfl ?_ | refine g_aload_nq C _ dX2_isThere_11 rfl ?_
        refine rg_version C (by assumption) (by assumption) i0 (by decide +kernel) dX2_isThere_12 ?_
        refine g_iload_n C dX2_isThere_15 rfl ?_
        refine g_icmp_le C 27 dX2_isThere_16 (by decide) (bd hB hN _ _) (by omega) (fun c16 => ?_) (fun c16 => ?_)
        · rw [h10] at c16
          refine g_aload_nq C (some a) dX2_isThere_27 rfl ?_
          refine g_ifnull C 42 dX2_isThere_28 (by decide) (fun c28 => ?_) (fun a28 c28 => ?_)
          · exact absurd c28 (by simp)
          · first | refine g_aload_n C dX2_isThere_31 rfl ?_ | refine g_aload_nq C _ dX2_isThere_31 rfl ?_
            refine rg_there C (by assumption) (by assumption) i0 (by decide +kernel) dX2_isThere_32 ?_
            refine g_if_eq C 42 dX2_isThere_35 (by decide) (bd hB hN _ _) (fun c35 => ?_) (fun c35 => ?_)
            · rw [h11] at c35
              refine g_iconst C 0 dX2_isThere_42 (by decide) ?_
              exact g_zret C dX2_isThere_43 rfl (by first | exact nar_boolV (by omega) | decide +kernel) (⟨I, O, L, K, rfl, ⟨rfl, rfl, rfl, rfl⟩, Or.inr ⟨fun z => (hiff.mpr z).elim (fun y => by have := y.2; omega) (fun y => by have := y.1; omega), rfl⟩⟩)
            · rw [h11] at c35
              refine g_iconst C 1 dX2_isThere_38 (by decide) ?_
              refine g_goto C 43 dX2_isThere_39 (by decide) ?_
              exact g_zret C dX2_isThere_43 rfl (by first | exact nar_boolV (by omega) | decide +kernel) (⟨I, O, L, K, rfl, ⟨rfl, rfl, rfl, rfl⟩, Or.inl ⟨hiff.mp (Or.inl ⟨c16, c35⟩), rfl⟩⟩)
        · rw [h10] at c16
          first | refine g_aload_n C dX2_isThere_19 rfl ?_ | refine g_aload_nq C _ dX2_isThere_19 rfl ?_
          refine rg_older C (by assumption) (by assumption) i0 (by decide +kernel) dX2_isThere_20 ?_
          first | refine g_astore_n C dX2_isThere_23 (by decide) ?_ | refine g_astore_nq C dX2_isThere_23 (by decide) ?_
          refine g_goto C 7 dX2_isThere_24 (by decide) ?_
          exact ih _ hnx ⟨fun z => hiff.mp (Or.inr ⟨c16, z⟩), fun z => (hiff.mpr z).elim (fun y => by have := y.1; omega) (fun y => y.2)⟩
  first | refine g_aload_n C dX2_isThere_0 rfl ?_ | refine g_aload_nq C _ dX2_isThere_0 rfl ?_
  refine cg_newest C i2 (by decide +kernel) dX2_isThere_1 ?_
  refine g_iload_n C dX2_isThere_4 rfl ?_
  refine cl_newest C dX2_isThere_5 (by omega) ?_
  first | refine g_astore_n C dX2_isThere_6 (by decide) ?_ | refine g_astore_nq C dX2_isThere_6 (by decide) ?_
  exact loop ls0 _ hch Iff.rfl
set_option maxRecDepth 100000 in
set_option maxHeartbeats 1000000 in
theorem k_X2_leastKept (l : Launch) (D : va_G) (g : Nat → ClassId) (A : Nat → Prop) (xa : Nat → Nat) (I : VV) (O : OO) (L : List Nat) (K : Nat → Nat) {N : Nat} (hB : BdN I N) (hN : N ≤ 2 ^ 30) {V : VV} (hS : RS V I) (hT : RT V I O L K) (hC : V 16 0 ≤ 60) (hLa : V 4 0 ≤ 60) (hSt : ∀ i, i < V 16 0 → V 8 i ≤ 4) : CC l yX2_leastKept wsX2_leastKept ({ frames := 1, cells := 0, slots := 0, locals := 20 } : Room) 0 0 D g A xa [.ref (xa 0)] I O L K (fun r I1 O1 L1 K1 => (I1 = I ∧ O1 = O ∧ L1 = L ∧ K1 = K) ∧ r = some (.int (nI (vLK V)))) := by
  refine k_ofW [(0, .ref (xa 0))] (by decide) rfl (Nat.le_of_ble_eq_true rfl) rfl (by simp [Value.category, vcat_rf]) ?_
  intro p e s m args below meth c C
  have i1 : ∀ w ∈ wsX10, w ∈ wsX2_leastKept := by decide +kernel
  have i2 : ∀ w ∈ wsX20, w ∈ wsX2_leastKept := by decide +kernel
  have hbeg : I 0 0 = V 16 0 := hS.1
  have hlat : I 2 0 = V 4 0 := hS.2.1
  have hpin := hS.2.2.2.2.1
  have hle : ∀ k, vLT V k ≤ V 4 0 := vLT_le V
  have loop2 : ∀ (n i : Nat), vLT V (V 16 0) - i = n → i ≤ vLT V (V 16 0) → (∀ j, j < i → V 5 j = 0) → GG p l e ({ frames := 1, cells := 0, slots := 0, locals := 20 } : Room) s m args below meth c (cQ below D g A xa args s 0 0 (fun r I1 O1 L1 K1 => (I1 = I ∧ O1 = O ∧ L1 = L ∧ K1 = K) ∧ r = some (.int (nI (vLK V))))) 3 D A s.heap (cW g xa I O L K) (0) (0) 49 [(0, .ref (xa 0)), (1, .int (nI (vLT V (V 16 0)))), (2, .int (nI (i)))] [] := by
    have h0 := hle (V 16 0)
    intro n
    induction n using Nat.strongRecOn with
    | _ n ih =>
      intro i hn hi hz
      refine g_iload_n C dX2_leastKept_49 rfl ?_
      refine g_iload_n C dX2_leastKept_50 rfl ?_
      refine g_icmp_ge C 71 dX2_leastKept_51 (by decide) (by omega) (by omega) (fun c51 => ?_) (fun c51 => ?_)
      · refine g_iload_n C dX2_leastKept_71 rfl ?_
        exact g_iret C dX2_leastKept_72 rfl (⟨I, O, L, K, rfl, ⟨rfl, rfl, rfl, rfl⟩, by rw [show vLK V = vLT V (V 16 0) from vLP_none (fun j hj => hz j (by omega)) 64]⟩)
      · first | refine g_aload_n C dX2_leastKept_54 rfl ?_ | refine g_aload_nq C _ dX2_leastKept_54 rfl ?_
        refine cg_pins C i2 (by decide +kernel) dX2_leastKept_55 ?_
        refine g_iload_n C dX2_leastKept_58 rfl ?_
        refine cl_pins C dX2_leastKept_59 (by omega) ?_
        refine g_if_le C 65 dX2_leastKept_60 (by decide) (bd hB hN _ _) (fun c60 => ?_) (fun c60 => ?_)
        · rw [hpin i (by omega)] at c60
          refine g_iinc C dX2_leastKept_65 rfl (by decide) ?_
          refine g_goto C 49 dX2_leastKept_68 (by decide) ?_
          exact ih _ (by omega) (i + 1) rfl (by omega) (fun j hj => by rcases (show j < i ∨ j = i by omega) with z | z; exact hz j z; rw [z]; exact c60)
        · rw [hpin i (by omega)] at c60
          refine g_iload_n C dX2_leastKept_63 rfl ?_
          exact g_iret C dX2_leastKept_64 rfl (⟨I, O, L, K, rfl, ⟨rfl, rfl, rfl, rfl⟩, by rw [show vLK V = i from vLP_hit hz c60 c51 64 (by omega)]⟩)
  have loop1 : ∀ (n i : Nat), V 16 0 - i = n → i ≤ V 16 0 → GG p l e ({ frames := 1, cells := 0, slots := 0, locals := 20 } : Room) s m args below meth c (cQ below D g A xa args s 0 0 (fun r I1 O1 L1 K1 => (I1 = I ∧ O1 = O ∧ L1 = L ∧ K1 = K) ∧ r = some (.int (nI (vLK V))))) 3 D A s.heap (cW g xa I O L K) (0) (0) 7 [(0, .ref (xa 0)), (1, .int (nI (vLT V i))), (2, .int (nI (i)))] [] := by
    intro n
    induction n using Nat.strongRecOn with
    | _ n ih =>
      intro i hn hi
      have h0 := hle i
      refine g_iload_n C dX2_leastKept_7 rfl ?_
      first | refine g_aload_n C dX2_leastKept_8 rfl ?_ | refine g_aload_nq C _ dX2_leastKept_8 rfl ?_
      refine cg_begun C i2 (by decide +kernel) dX2_leastKept_9 ?_
      rw [hbeg]
      refine g_icmp_ge C 47 dX2_leastKept_12 (by decide) (by omega) (by omega) (fun c12 => ?_) (fun c12 => ?_)
      · refine g_iconst C 0 dX2_leastKept_47 (by decide) ?_
        refine g_istore_n C dX2_leastKept_48 (by decide) ?_
        rw [show i = V 16 0 by omega]
        exact loop2 _ 0 rfl (Nat.zero_le _) (fun j hj => by omega)
      · obtain ⟨t2, tL, tK, -, -, h14, h16, -, -⟩ := hT i (by omega)
        have hs4 := hSt i (by omega)
        first | refine g_aload_n C dX2_leastKept_15 rfl ?_ | refine g_aload_nq C _ dX2_leastKept_15 rfl ?_
        refine cg_transactions C i2 (by decide +kernel) dX2_leastKept_16 ?_
        refine g_iload_n C dX2_leastKept_19 rfl ?_
        refine cl_transactions C dX2_leastKept_20 (by omega) ?_
        rw [t2]
        refine g_callT C (k_X1_hasEnded l D g A xa _ _ _ _ hB hN (tx O i) tL tK) (by assumption) (by assumption) gX2_leastKept_X1_hasEnded dX2_leastKept_21 (n := 0) rfl rfl rfl (by decide +kernel) ⟨Nat.le_of_ble_eq_true rfl, Nat.le_of_ble_eq_true rfl⟩ rfl rfl (Nat.le_of_ble_eq_true rfl) ⟨by omega, by omega⟩ (fun r I1 O1 L1 K1 hq => ?_)
        obtain ⟨⟨e1, e2, e3, e4⟩, hq⟩ := hq
        rw [e1, e2, e3, e4]
        rw [h16] at hq
        rcases hq with ⟨h21, rfl⟩ | ⟨h21, rfl⟩
        · refine g_if_ne C 41 dX2_leastKept_24 (by decide) (by decide) (fun c24 => ?_) (fun c24 => absurd c24 (by decide))
          refine g_iinc C dX2_leastKept_41 rfl (by decide) ?_
          refine g_goto C 7 dX2_leastKept_44 (by decide) ?_
          have e9 : vLT V (i + 1) = vLT V i := by show (if V 8 i < 3 ∧ V 7 i < vLT V i then V 7 i else vLT V i) = _; rw [if_neg (fun q => by have := q.1; omega)]
          have ih9 := ih _ (by omega) (i + 1) rfl (by omega)
          rw [e9] at ih9
          exact ih9
        · refine g_if_ne C 41 dX2_leastKept_24 (by decide) (by decide) (fun c24 => absurd c24 (by decide)) (fun c24 => ?_)
          refine g_iload_n C dX2_leastKept_27 rfl ?_
          first | refine g_aload_n C dX2_leastKept_28 rfl ?_ | refine g_aload_nq C _ dX2_leastKept_28 rfl ?_
          refine cg_transactions C i2 (by decide +kernel) dX2_leastKept_29 ?_
          refine g_iload_n C dX2_leastKept_32 rfl ?_
          refine cl_transactions C dX2_leastKept_33 (by omega) ?_
          rw [t2]
          refine tg_sees C (by assumption) (by assumption) i1 (by decide +kernel) dX2_leastKept_34 ?_
          refine g_mmin C (by omega) (by have := hB 14 (tx O i); omega) (by decide +kernel) (by decide +kernel) (by decide +kernel) (List.mem_of_getElem? (i := 8) rfl) (Nat.le_of_ble_eq_true rfl) (Nat.le_of_ble_eq_true rfl) (by omega) (by omega) dX2_leastKept_37 ?_
          rw [h14]
          refine g_istore_n C dX2_leastKept_40 (by decide) ?_
          refine g_iinc C dX2_leastKept_41 rfl (by decide) ?_
          refine g_goto C 7 dX2_leastKept_44 (by decide) ?_
          have e9 : vLT V (i + 1) = (if V 7 i < vLT V i then V 7 i else vLT V i) := by show (if V 8 i < 3 ∧ V 7 i < vLT V i then V 7 i else vLT V i) = _; by_cases z9 : V 7 i < vLT V i; rw [if_pos ⟨by omega, z9⟩, if_pos z9]; rw [if_neg (fun q => z9 q.2), if_neg z9]
          have ih9 := ih _ (by omega) (i + 1) rfl (by omega)
          rw [e9] at ih9
          exact ih9
  first | refine g_aload_n C dX2_leastKept_0 rfl ?_ | refine g_aload_nq C _ dX2_leastKept_0 rfl ?_
  refine cg_latestVersion C i2 (by decide +kernel) dX2_leastKept_1 ?_
  rw [hlat]
  refine g_istore_n C dX2_leastKept_4 (by decide) ?_
  refine g_iconst C 0 dX2_leastKept_5 (by decide) ?_
  refine g_istore_n C dX2_leastKept_6 (by decide) ?_
  exact loop1 _ 0 rfl (Nat.zero_le _)
