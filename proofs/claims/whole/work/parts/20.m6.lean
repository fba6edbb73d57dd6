set_option maxRecDepth 100000 in
set_option maxHeartbeats 1000000 in
theorem k_X3_takeRing (l : Launch) (D : va_G) (g : Nat → ClassId) (A : Nat → Prop) (xm : Nat → Nat) (V : VV) {N : Nat} (hB : BdN V N) (hN : N ≤ 2 ^ 30) (hN2 : 20000 ≤ N) (hC : V 16 0 ≤ 60) (hQ : V 20 0 + 60 ≤ 4000) (t n : Nat) (ht : t < 60) (hn0 : 0 < n) (hn : n ≤ 60) (hp : ∀ i, i < n → pth V t i < 60 ∧ 0 < V 11 (pth V t i)) : MC l yX3_takeRing wsX3_takeRing ({ frames := 1, cells := 0, slots := 0, locals := 26 } : Room) D g A xm [.ref (xm 0), .int (nI t), .int (nI n)] V (fun r V1 => V1 = vTake V t n ∧ r = none) := by
  refine k_ofW [(0, .ref (xm 0)), (1, .int (nI t)), (2, .int (nI n))] (by decide) rfl (Nat.le_of_ble_eq_true rfl) rfl (by simp [Value.category]) ?_
  intro p e s m args below meth c C
  have i3 : ∀ w ∈ wsX30, w ∈ wsX3_takeRing := by decide +kernel
  obtain ⟨F, hF⟩ : ∃ F, F = vTk n (u2 V 22 0 0) t := ⟨_, rfl⟩
  have hFk : ∀ b, b ≠ 21 → b ≠ 22 → F b = V b := fun b h1 h2 => by
    rw [hF, vTk_k _ _ _ _ h1 h2]
    show (if b = 22 then _ else _) = _
    rw [if_neg h2]
  have hFP : ∀ j, j < n → F 21 j < 60 := fun j hj => by
    have h9 := (vTk_P (P := fun x => x < 60) n (u2 V 22 0 0) t (fun i hi => by rw [pth_22]; exact (hp i hi).1) (fun j hj => by rw [u2_same] at hj; omega)).2 j (by rw [u2_same]; omega)
    rw [hF]; exact h9
  have hFB : BdN F N := by rw [hF]; exact BdN.tk n (hB.up (by omega)) (by omega) (by rw [u2_same]; omega)
  have hres : vTake V t n = vEnd F (F 21 (n - 1)) 4 := by rw [hF]; rfl
  have loop : ∀ (rem : Nat) (U : VV) (a k : Nat), k + rem = n → vTk rem U a = F → U 22 0 = k → (∀ i, i < rem → pth U a i < 60 ∧ 0 < U 11 (pth U a i)) → BdN U N → a < 2 ^ 30 → GG p l e ({ frames := 1, cells := 0, slots := 0, locals := 26 } : Room) s m args below meth c (mQ below D g A xm args s (fun r V1 => V1 = vTake V t n ∧ r = none)) 6 D A s.heap (mW g xm (U)) 0 0 10 [(0, .ref (xm 0)), (1, .int (nI t)), (2, .int (nI n)), (3, .int (nI (a))), (4, .int (nI (k)))] [] := by
    intro rem
    induction rem with
    | zero =>
      intro U a k hk hU h22 hpu hBU ha
      have hU : U = F := hU
      rw [hU]
      refine g_iload C dX3_takeRing_10 rfl ?_
      refine g_iload_n C dX3_takeRing_12 rfl ?_
      refine g_icmp_ge C 93 dX3_takeRing_13 (by decide) (by omega) (by omega) (fun c13 => ?_) (fun c13 => ?_)
      · first | refine g_aload_n C dX3_takeRing_93 rfl ?_ | refine g_aload_nq C _ dX3_takeRing_93 rfl ?_
        first | refine g_aload_n C dX3_takeRing_94 rfl ?_ | refine g_aload_nq C _ dX3_takeRing_94 rfl ?_
        refine mg_ring C i3 (by decide +kernel) dX3_takeRing_95 ?_
        refine g_iload_n C dX3_takeRing_98 rfl ?_
        refine g_iconst C 1 dX3_takeRing_99 (by decide) ?_
        first | refine g_isub C dX3_takeRing_100 (by omega) ?_ | refine g_isubx C dX3_takeRing_100 ?_
        refine ml_ring C dX3_takeRing_101 (by omega) ?_
        refine g_iconst C 4 dX3_takeRing_102 (by decide) ?_
        refine g_callM C (k_X3_end l D g A xm _ hFB hN hN2 (by rw [hFk 16 (by decide) (by decide)]; exact hC) (by rw [hFk 20 (by decide) (by decide)]; exact hQ) (F 21 (n - 1)) 4 (hFP _ (by omega)) (by decide)) gX3_takeRing_X3_end dX3_takeRing_103 (n := 2) rfl rfl rfl (by decide +kernel) ⟨Nat.le_of_ble_eq_true rfl, Nat.le_of_ble_eq_true rfl⟩ rfl rfl (Nat.le_of_ble_eq_true rfl) ⟨Nat.le_refl _, Nat.le_refl _⟩ (fun r V1 hq => ?_)
        obtain ⟨rfl, rfl⟩ := hq
        exact g_vret C dX3_takeRing_106 rfl (⟨_, rfl, hres.symm, rfl⟩)
      · exact absurd c13 (by omega)
    | succ rem ihr =>
      intro U a k hk hU h22 hpu hBU ha
      have ha0 := hpu 0 (by omega)
      have ha1 : a < 60 := ha0.1
      have ha2 : 0 < U 11 a := ha0.2
      have inner : ∀ (to : Nat) (X : VV), vIns a to X = vIns a (U 22 0) U → to ≤ k → BdN X N → (∀ b, b ≠ 21 → X b = U b) → GG p l e ({ frames := 1, cells := 0, slots := 0, locals := 26 } : Room) s m args below meth c (mQ below D g A xm args s (fun r V1 => V1 = vTake V t n ∧ r = none)) 6 D A s.heap (mW g xm (X)) 0 0 22 [(0, .ref (xm 0)), (1, .int (nI t)), (2, .int (nI n)), (3, .int (nI (a))), (4, .int (nI (k))), (5, .int (nI to))] [] := by
        intro to
        induction to with
        | zero =>
          intro X hX hto hBX hXk
          refine g_iload C dX3_takeRing_22 rfl ?_
          refine g_if_le C 62 dX3_takeRing_24 (by decide) (by decide) (fun c24 => ?_) (fun c24 => ?_)
          · first | refine g_aload_n C dX3_takeRing_62 rfl ?_ | refine g_aload_nq C _ dX3_takeRing_62 rfl ?_
            refine mg_ring C i3 (by decide +kernel) dX3_takeRing_63 ?_
            refine g_iload C dX3_takeRing_66 rfl ?_
            refine g_iload_n C dX3_takeRing_68 rfl ?_
            refine ms_ring C dX3_takeRing_69 (by omega) ?_
            first | refine g_aload_n C dX3_takeRing_70 rfl ?_ | refine g_aload_nq C _ dX3_takeRing_70 rfl ?_
            refine g_dup C dX3_takeRing_71 (by first | rfl | exact vcat_rf _) ?_
            refine mg_ringSize C i3 (by decide +kernel) dX3_takeRing_72 ?_
            refine g_iconst C 1 dX3_takeRing_75 (by decide) ?_
            first | refine g_iadd C dX3_takeRing_76 ?_ | refine g_iaddx C dX3_takeRing_76 ?_
            refine mp_ringSize C i3 (by decide +kernel) dX3_takeRing_77 ?_
            first | refine g_aload_n C dX3_takeRing_80 rfl ?_ | refine g_aload_nq C _ dX3_takeRing_80 rfl ?_
            refine mg_waitsFor C i3 (by decide +kernel) dX3_takeRing_81 ?_
            refine g_iload_n C dX3_takeRing_84 rfl ?_
            refine ml_waitsFor C dX3_takeRing_85 (by omega) ?_
            refine g_istore_n C dX3_takeRing_86 (by decide) ?_
            refine g_iinc C dX3_takeRing_87 rfl (by decide) ?_
            refine g_goto C 10 dX3_takeRing_90 (by decide) ?_
            have hx11 : X 11 a = U 11 a := by rw [hXk 11 (by decide)]
            have hx22 : X 22 0 = k := by rw [hXk 22 (by decide)]; exact h22
            have hst : u2 (u2 X 21 0 a) 22 0 (X 22 0 + 1) = u2 (vIns a (U 22 0) U) 22 0 (U 22 0 + 1) := by rw [← hX, hx22, h22]; show _ = u2 (vIns a 0 X) 22 0 (k + 1); unfold vIns; rfl
            have ha11 : a < 60 := ha1
            rw [show u2 (u2 X 21 0 a) 22 0 (u2 X 21 0 a 22 0 + 1) = u2 (vIns a (U 22 0) U) 22 0 (U 22 0 + 1) from hst]
            rw [show nI (u2 (vIns a (U 22 0) U) 22 0 (U 22 0 + 1) 11 a) - 1 = nI (U 11 a - 1) from by rw [show u2 (vIns a (U 22 0) U) 22 0 (U 22 0 + 1) 11 a = U 11 a from congrFun (vIns_k a (U 22 0) U 11 (by decide)) a]; exact sh_pos ha2]
            exact g_lv (lv' := [(0, .ref (xm 0)), (1, .int (nI t)), (2, .int (nI n)), (3, .int (nI (U 11 a - 1))), (4, .int (nI (k + 1)))]) (fun q hq => List.mem_append_left [(5, _)] hq) (ihr _ (U 11 a - 1) (k + 1) (by omega) hU (by rw [u2_same, h22]) (fun i hi => by
              have e1 : ∀ b, b ≠ 21 → b ≠ 22 → u2 (vIns a (U 22 0) U) 22 0 (U 22 0 + 1) b = U b := fun b h1 h2 => by
                show (if b = 22 then _ else _) = _
                rw [if_neg h2]
                exact vIns_k _ _ _ _ h1
              have ep : ∀ i c, pth (u2 (vIns a (U 22 0) U) 22 0 (U 22 0 + 1)) c i = pth U c i := by
                intro i
                induction i with
                | zero => intro c; rfl
                | succ i ih =>
                  intro c
                  show pth _ (u2 (vIns a (U 22 0) U) 22 0 (U 22 0 + 1) 11 c - 1) i = pth U (U 11 c - 1) i
                  rw [e1 11 (by decide) (by decide), ih]
              rw [ep, e1 11 (by decide) (by decide)]
              exact hpu (i + 1) (by omega)) ((hBU.ins (x := a) (by omega) (k := U 22 0)).up (by omega)) (by have := hBU 11 a; omega))
          · exact absurd c24 (by decide)
        | succ to iht =>
          intro X hX hto hBX hXk
          refine g_iload C dX3_takeRing_22 rfl ?_
          refine g_if_le C 62 dX3_takeRing_24 (by decide) (by omega) (fun c24 => ?_) (fun c24 => ?_)
          · first | refine g_aload_n C dX3_takeRing_62 rfl ?_ | refine g_aload_nq C _ dX3_takeRing_62 rfl ?_
            refine mg_ring C i3 (by decide +kernel) dX3_takeRing_63 ?_
            refine g_iload C dX3_takeRing_66 rfl ?_
            refine g_iload_n C dX3_takeRing_68 rfl ?_
            refine ms_ring C dX3_takeRing_69 (by omega) ?_
            first | refine g_aload_n C dX3_takeRing_70 rfl ?_ | refine g_aload_nq C _ dX3_takeRing_70 rfl ?_
            refine g_dup C dX3_takeRing_71 (by first | rfl | exact vcat_rf _) ?_
            refine mg_ringSize C i3 (by decide +kernel) dX3_takeRing_72 ?_
            refine g_iconst C 1 dX3_takeRing_75 (by decide) ?_
            first | refine g_iadd C dX3_takeRing_76 ?_ | refine g_iaddx C dX3_takeRing_76 ?_
            refine mp_ringSize C i3 (by decide +kernel) dX3_takeRing_77 ?_
            first | refine g_aload_n C dX3_takeRing_80 rfl ?_ | refine g_aload_nq C _ dX3_takeRing_80 rfl ?_
            refine mg_waitsFor C i3 (by decide +kernel) dX3_takeRing_81 ?_
            refine g_iload_n C dX3_takeRing_84 rfl ?_
            refine ml_waitsFor C dX3_takeRing_85 (by omega) ?_
            refine g_istore_n C dX3_takeRing_86 (by decide) ?_
            refine g_iinc C dX3_takeRing_87 rfl (by decide) ?_
            refine g_goto C 10 dX3_takeRing_90 (by decide) ?_
            exact absurd c24 (by omega)
          · first | refine g_aload_n C dX3_takeRing_27 rfl ?_ | refine g_aload_nq C _ dX3_takeRing_27 rfl ?_
            refine mg_ring C i3 (by decide +kernel) dX3_takeRing_28 ?_
            refine g_iload C dX3_takeRing_31 rfl ?_
            refine g_iconst C 1 dX3_takeRing_33 (by decide) ?_
            first | refine g_isub C dX3_takeRing_34 (by omega) ?_ | refine g_isubx C dX3_takeRing_34 ?_
            refine ml_ring C dX3_takeRing_35 (by omega) ?_
            refine g_iload_n C dX3_takeRing_36 rfl ?_
            refine g_icmp_le C 62 dX3_takeRing_37 (by decide) (bd hBX hN _ _) (by omega) (fun c37 => ?_) (fun c37 => ?_)
            · first | refine g_aload_n C dX3_takeRing_62 rfl ?_ | refine g_aload_nq C _ dX3_takeRing_62 rfl ?_
              refine mg_ring C i3 (by decide +kernel) dX3_takeRing_63 ?_
              refine g_iload C dX3_takeRing_66 rfl ?_
              refine g_iload_n C dX3_takeRing_68 rfl ?_
              refine ms_ring C dX3_takeRing_69 (by omega) ?_
              first | refine g_aload_n C dX3_takeRing_70 rfl ?_ | refine g_aload_nq C _ dX3_takeRing_70 rfl ?_
              refine g_dup C dX3_takeRing_71 (by first | rfl | exact vcat_rf _) ?_
              refine mg_ringSize C i3 (by decide +kernel) dX3_takeRing_72 ?_
              refine g_iconst C 1 dX3_takeRing_75 (by decide) ?_
              first | refine g_iadd C dX3_takeRing_76 ?_ | refine g_iaddx C dX3_takeRing_76 ?_
              refine mp_ringSize C i3 (by decide +kernel) dX3_takeRing_77 ?_
              first | refine g_aload_n C dX3_takeRing_80 rfl ?_ | refine g_aload_nq C _ dX3_takeRing_80 rfl ?_
              refine mg_waitsFor C i3 (by decide +kernel) dX3_takeRing_81 ?_
              refine g_iload_n C dX3_takeRing_84 rfl ?_
              refine ml_waitsFor C dX3_takeRing_85 (by omega) ?_
              refine g_istore_n C dX3_takeRing_86 (by decide) ?_
              refine g_iinc C dX3_takeRing_87 rfl (by decide) ?_
              refine g_goto C 10 dX3_takeRing_90 (by decide) ?_
              have hx11 : X 11 a = U 11 a := by rw [hXk 11 (by decide)]
              have hx22 : X 22 0 = k := by rw [hXk 22 (by decide)]; exact h22
              have hst : u2 (u2 X 21 (to + 1) a) 22 0 (X 22 0 + 1) = u2 (vIns a (U 22 0) U) 22 0 (U 22 0 + 1) := by rw [← hX, hx22, h22]; show _ = u2 (vIns a (to + 1) X) 22 0 (k + 1); unfold vIns; rw [if_neg (show ¬ a < X 21 to from Nat.not_lt.mpr c37)]
              have ha11 : a < 60 := ha1
              rw [show u2 (u2 X 21 (to + 1) a) 22 0 (u2 X 21 (to + 1) a 22 0 + 1) = u2 (vIns a (U 22 0) U) 22 0 (U 22 0 + 1) from hst]
              rw [show nI (u2 (vIns a (U 22 0) U) 22 0 (U 22 0 + 1) 11 a) - 1 = nI (U 11 a - 1) from by rw [show u2 (vIns a (U 22 0) U) 22 0 (U 22 0 + 1) 11 a = U 11 a from congrFun (vIns_k a (U 22 0) U 11 (by decide)) a]; exact sh_pos ha2]
              exact g_lv (lv' := [(0, .ref (xm 0)), (1, .int (nI t)), (2, .int (nI n)), (3, .int (nI (U 11 a - 1))), (4, .int (nI (k + 1)))]) (fun q hq => List.mem_append_left [(5, _)] hq) (ihr _ (U 11 a - 1) (k + 1) (by omega) hU (by rw [u2_same, h22]) (fun i hi => by
                have e1 : ∀ b, b ≠ 21 → b ≠ 22 → u2 (vIns a (U 22 0) U) 22 0 (U 22 0 + 1) b = U b := fun b h1 h2 => by
                  show (if b = 22 then _ else _) = _
                  rw [if_neg h2]
                  exact vIns_k _ _ _ _ h1
                have ep : ∀ i c, pth (u2 (vIns a (U 22 0) U) 22 0 (U 22 0 + 1)) c i = pth U c i := by
                  intro i
                  induction i with
                  | zero => intro c; rfl
                  | succ i ih =>
                    intro c
                    show pth _ (u2 (vIns a (U 22 0) U) 22 0 (U 22 0 + 1) 11 c - 1) i = pth U (U 11 c - 1) i
                    rw [e1 11 (by decide) (by decide), ih]
                rw [ep, e1 11 (by decide) (by decide)]
                exact hpu (i + 1) (by omega)) ((hBU.ins (x := a) (by omega) (k := U 22 0)).up (by omega)) (by have := hBU 11 a; omega))
            · first | refine g_aload_n C dX3_takeRing_40 rfl ?_ | refine g_aload_nq C _ dX3_takeRing_40 rfl ?_
              refine mg_ring C i3 (by decide +kernel) dX3_takeRing_41 ?_
              refine g_iload C dX3_takeRing_44 rfl ?_
              first | refine g_aload_n C dX3_takeRing_46 rfl ?_ | refine g_aload_nq C _ dX3_takeRing_46 rfl ?_
              refine mg_ring C i3 (by decide +kernel) dX3_takeRing_47 ?_
              refine g_iload C dX3_takeRing_50 rfl ?_
              refine g_iconst C 1 dX3_takeRing_52 (by decide) ?_
              first | refine g_isub C dX3_takeRing_53 (by omega) ?_ | refine g_isubx C dX3_takeRing_53 ?_
              refine ml_ring C dX3_takeRing_54 (by omega) ?_
              refine ms_ring C dX3_takeRing_55 (by omega) ?_
              refine g_idec C dX3_takeRing_56 rfl (by decide) ?_
              refine g_goto C 22 dX3_takeRing_59 (by decide) ?_
              exact iht (u2 X 21 (to + 1) (X 21 to)) (by rw [← hX]; show _ = (if a < X 21 to then vIns a to (u2 X 21 (to + 1) (X 21 to)) else u2 X 21 (to + 1) a); rw [if_pos (show a < X 21 to from c37)]) (by omega) (hBX.up (hBX 21 to)) (fun b hb => by rw [← hXk b hb]; show (if b = 21 then _ else _) = _; rw [if_neg hb])
      refine g_iload C dX3_takeRing_10 rfl ?_
      refine g_iload_n C dX3_takeRing_12 rfl ?_
      refine g_icmp_ge C 93 dX3_takeRing_13 (by decide) (by omega) (by omega) (fun c13 => ?_) (fun c13 => ?_)
      · exact absurd c13 (by omega)
      · first | refine g_aload_n C dX3_takeRing_16 rfl ?_ | refine g_aload_nq C _ dX3_takeRing_16 rfl ?_
        refine mg_ringSize C i3 (by decide +kernel) dX3_takeRing_17 ?_
        rw [h22]
        refine g_istore C dX3_takeRing_20 (by decide) ?_
        exact inner k U (by rw [h22]) (Nat.le_refl _) hBU (fun _ _ => rfl)
  first | refine g_aload_n C dX3_takeRing_0 rfl ?_ | refine g_aload_nq C _ dX3_takeRing_0 rfl ?_
  refine g_iconst C 0 dX3_takeRing_1 (by decide) ?_
  refine mp_ringSize C i3 (by decide +kernel) dX3_takeRing_2 ?_
  refine g_iload_n C dX3_takeRing_5 rfl ?_
  refine g_istore_n C dX3_takeRing_6 (by decide) ?_
  refine g_iconst C 0 dX3_takeRing_7 (by decide) ?_
  refine g_istore C dX3_takeRing_8 (by decide) ?_
  exact loop n _ t 0 (by omega) hF.symm (u2_same _ _ _ _) (fun i hi => by rw [pth_22]; exact hp i hi) (hB.up (by omega)) (by omega)
set_option maxRecDepth 100000 in
set_option maxHeartbeats 1000000 in
theorem k_X3_lookForRing (l : Launch) (D : va_G) (g : Nat → ClassId) (A : Nat → Prop) (xm : Nat → Nat) (V : VV) {N : Nat} (hB : BdN V N) (hN : N ≤ 2 ^ 30) (hN2 : 20000 ≤ N) (hC : V 16 0 ≤ 60) (hQ : V 20 0 + 60 ≤ 4000) (hW : ∀ i, i < V 16 0 → V 8 i = 1 → 0 < V 11 i ∧ V 11 i ≤ V 16 0 ∧ V 12 i < 200 ∧ V 13 i ≤ 1) (t : Nat) (ht : t < V 16 0) : MC l yX3_lookForRing wsX3_lookForRing ({ frames := 2, cells := 0, slots := 0, locals := 51 } : Room) D g A xm [.ref (xm 0), .int (nI t)] V (fun r V1 => V1 = vRing V t ∧ r = none) := by
  refine k_ofW [(0, .ref (xm 0)), (1, .int (nI t))] (by decide) rfl (Nat.le_of_ble_eq_true rfl) rfl (by simp [Value.category]) ?_
  intro p e s m args below meth c C
  have i3 : ∀ w ∈ wsX30, w ∈ wsX3_lookForRing := by decide +kernel
  have loop : ∀ (f a n : Nat), n + f = 60 → vLk V t f a n = vLk V t 60 t 0 → a < V 16 0 → GG p l e ({ frames := 2, cells := 0, slots := 0, locals := 51 } : Room) s m args below meth c (mQ below D g A xm args s (fun r V1 => V1 = vRing V t ∧ r = none)) 4 D A s.heap (mW g xm (V)) 0 0 4 [(0, .ref (xm 0)), (1, .int (nI t)), (2, .int (nI n)), (3, .int (nI a))] [] := by
    intro f
    induction f with
    | zero =>
      intro a n hn hv ha
      first | refine g_aload_n C dX3_lookForRing_4 rfl ?_ | refine g_aload_nq C _ dX3_lookForRing_4 rfl ?_
      refine mg_states C i3 (by decide +kernel) dX3_lookForRing_5 ?_
      refine g_iload_n C dX3_lookForRing_8 rfl ?_
      refine ml_states C dX3_lookForRing_9 (by omega) ?_
      refine g_iconst C 1 dX3_lookForRing_10 (by decide) ?_
      refine g_icmp_ne C 42 dX3_lookForRing_11 (by decide) (bd hB hN _ _) (by decide) (fun c11 => ?_) (fun c11 => ?_)
      · exact g_vret C dX3_lookForRing_42 rfl (⟨V, rfl, by unfold vRing; rw [if_pos (by rw [← hv]; rfl)], rfl⟩)
      · refine g_iload_n C dX3_lookForRing_14 rfl ?_
        refine g_bipush C 60 dX3_lookForRing_15 (by decide) ?_
        refine g_icmp_ge C 42 dX3_lookForRing_17 (by decide) (by omega) (by decide) (fun c17 => ?_) (fun c17 => ?_)
        · exact g_vret C dX3_lookForRing_42 rfl (⟨V, rfl, by unfold vRing; rw [if_pos (by rw [← hv]; rfl)], rfl⟩)
        · exact absurd c17 (by omega)
    | succ f ihf =>
      intro a n hn hv ha
      first | refine g_aload_n C dX3_lookForRing_4 rfl ?_ | refine g_aload_nq C _ dX3_lookForRing_4 rfl ?_
      refine mg_states C i3 (by decide +kernel) dX3_lookForRing_5 ?_
      refine g_iload_n C dX3_lookForRing_8 rfl ?_
      refine ml_states C dX3_lookForRing_9 (by omega) ?_
      refine g_iconst C 1 dX3_lookForRing_10 (by decide) ?_
      refine g_icmp_ne C 42 dX3_lookForRing_11 (by decide) (bd hB hN _ _) (by decide) (fun c11 => ?_) (fun c11 => ?_)
      · exact g_vret C dX3_lookForRing_42 rfl (⟨V, rfl, by unfold vRing; rw [if_pos (by rw [← hv]; show (if V 8 a = 1 then _ else 0) = 0; rw [if_neg c11])], rfl⟩)
      · refine g_iload_n C dX3_lookForRing_14 rfl ?_
        refine g_bipush C 60 dX3_lookForRing_15 (by decide) ?_
        refine g_icmp_ge C 42 dX3_lookForRing_17 (by decide) (by omega) (by decide) (fun c17 => ?_) (fun c17 => ?_)
        · exact g_vret C dX3_lookForRing_42 rfl (⟨V, rfl, absurd c17 (by omega), rfl⟩)
        · have hw := hW a ha c11
          have hv11 := hB 11 a
          first | refine g_aload_n C dX3_lookForRing_20 rfl ?_ | refine g_aload_nq C _ dX3_lookForRing_20 rfl ?_
          refine mg_waitsFor C i3 (by decide +kernel) dX3_lookForRing_21 ?_
          refine g_iload_n C dX3_lookForRing_24 rfl ?_
          refine ml_waitsFor C dX3_lookForRing_25 (by omega) ?_
          refine g_top C (sh_pos hw.1) ?_
          refine g_istore_n C dX3_lookForRing_26 (by decide) ?_
          refine g_iinc C dX3_lookForRing_27 rfl (by decide) ?_
          refine g_iload_n C dX3_lookForRing_30 rfl ?_
          refine g_iload_n C dX3_lookForRing_31 rfl ?_
          refine g_icmp_ne C 4 dX3_lookForRing_32 (by decide) (by omega) (by omega) (fun c32 => ?_) (fun c32 => ?_)
          · exact ihf (V 11 a - 1) (n + 1) (by omega) (by rw [← hv]; show _ = (if V 8 a = 1 then (if V 11 a - 1 = t then n + 1 else vLk V t f (V 11 a - 1) (n + 1)) else 0); rw [if_pos c11, if_neg c32]) (by omega)
          · have hlk : vLk V t 60 t 0 = n + 1 := by rw [← hv]; show (if V 8 a = 1 then (if V 11 a - 1 = t then n + 1 else vLk V t f (V 11 a - 1) (n + 1)) else 0) = _; rw [if_pos c11, if_pos c32]
            have hpp : ∀ i, i < n + 1 → pth V t i < 60 ∧ 0 < V 11 (pth V t i) := fun i hi => by
              obtain ⟨h1, h2, h3, h4⟩ := vLk_pth V t 60 t 0 (by omega)
              have h5 := pth_lt hW ht i (fun j hj => h3 j (by omega))
              exact ⟨by omega, (hW _ h5 (h3 i (by omega))).1⟩
            first | refine g_aload_n C dX3_lookForRing_35 rfl ?_ | refine g_aload_nq C _ dX3_lookForRing_35 rfl ?_
            refine g_iload_n C dX3_lookForRing_36 rfl ?_
            refine g_iload_n C dX3_lookForRing_37 rfl ?_
            refine g_callM C (k_X3_takeRing l D g A xm _ hB hN hN2 hC hQ t (n + 1) (by omega) (by omega) (by omega) hpp) gX3_lookForRing_X3_takeRing dX3_lookForRing_38 (n := 2) rfl rfl rfl (by decide +kernel) ⟨Nat.le_of_ble_eq_true rfl, Nat.le_of_ble_eq_true rfl⟩ rfl rfl (Nat.le_of_ble_eq_true rfl) ⟨Nat.le_refl _, Nat.le_refl _⟩ (fun r V1 hq => ?_)
            obtain ⟨rfl, rfl⟩ := hq
            exact g_vret C dX3_lookForRing_41 rfl (⟨_, rfl, by unfold vRing; rw [hlk, if_neg (by omega)], rfl⟩)
  refine g_iconst C 0 dX3_lookForRing_0 (by decide) ?_
  refine g_istore_n C dX3_lookForRing_1 (by decide) ?_
  refine g_iload_n C dX3_lookForRing_2 rfl ?_
  refine g_istore_n C dX3_lookForRing_3 (by decide) ?_
  exact loop 60 t 0 rfl rfl ht
