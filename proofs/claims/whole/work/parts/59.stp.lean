set_option maxRecDepth 100000 in
set_option maxHeartbeats 1000000 in
theorem st_begin {p : Program} {l : Launch} {e : Env} {s : State} {m : MethodId} {args : Array Value} {below : List Frame} {meth : Method} {c : Code} {Q : State → Prop} {D : va_G} {A : Nat → Prop} {g : Nat → ClassId} {xa xm : Nat → Nat} {xo b Ln n N cells slots : Nat} {xs : Nat → Int32} {V I : VV} {O : OO} {L : List Nat} {K : Nat → Nat} {f : Nat → Int64}
    (C : CX p s m args meth c code 7 wsL_law RL D (tyG g) A s.heap ret) (hst : l.stackTraces = false) (T9 : XTC A s) (hX : va_X b Ln xs s s.heap) (hbl : b < s.heap.size) (hbA : ¬ A b) (hLn : Ln ≤ 2048) (h4 : 4 * n + 4 ≤ Ln) (hN2 : 20000 ≤ N) (hN4 : N + 4000 ≤ 2 ^ 30) (hB : LB N V I O L K) (hc : cells + 250 ≤ 601024) (hs : slots + 700 ≤ 7293034)
    (k19 : ∀ (V' I' : VV) (O' : OO) (L' : List Nat) (K' : Nat → Nat) (f' : Nat → Int64), LB (N + 4000) V' I' O' L' K' → GG p l e room_1 s m args below meth c Q 7 D A s.heap ((cW g xa I' O' L' K' ++ [(xo, oE g f')]) ++ mW g xm V') (cells + 250) (slots + 700) 1019 [(0, .ref b), (1, .ref (xa 0)), (2, .ref (xm 0)), (3, .ref xo), (4, .int (nI (4 * n)))] []) : GG p l e room_1 s m args below meth c Q 7 D A s.heap ((cW g xa I O L K ++ [(xo, oE g f)]) ++ mW g xm V) cells slots 124 [(0, .ref b), (1, .ref (xa 0)), (2, .ref (xm 0)), (3, .ref xo), (4, .int (nI (4 * n)))] [] := by
  obtain ⟨hV, hBV, hBI, hrc, own, hR⟩ := id hB
  have hN : N ≤ 2 ^ 30 := by omega
  have hC := hV.1.1
  have hla := hV.1.lat
  have hrw := hV.1.rows
  obtain ⟨fs, hfs⟩ := cX_this g xa I O L K
  first | refine g_aload_n C dL_law_124 rfl ?_ | refine g_aload_nq C _ dL_law_124 rfl ?_
  first | refine g_aload_n C dL_law_125 rfl ?_ | refine g_aload_nq C _ dL_law_125 rfl ?_
  refine xf_callSX C T9 (F := mW g xm V) (W1 := cW g xa I O L K ++ [(xo, oE g f)]) (k_L_begin l D g _ xa xo I O L K f  (k_X2_begin l hst D g _ xa I O L K hBI hN4 hN2 (hV.thrown 0) hR.thrown hrc ) (fun E h => h.1) (fun r I9 O9 L9 K9 h => by obtain ⟨_, _, h⟩ := h; exact ⟨_, h⟩)) gL_law_L_begin rfl rfl rfl (n := 2) (by decide +kernel) ⟨Nat.le_of_ble_eq_true rfl, Nat.le_of_ble_eq_true rfl⟩ rfl rfl (Nat.le_of_ble_eq_true rfl) dL_law_126 ⟨show cells + 2 ≤ 601024 by omega, show slots + 15 ≤ 7293034 by omega⟩ (fun r w hq => ?_)
  obtain ⟨I1, O1, L1, K1, f1, rfl, hq⟩ := hq
  obtain ⟨k9, hk9, hr9⟩ : ∃ k9, k9 ≤ 2 ∧ r = some (.int (nI k9)) := by
    rcases hq with ⟨_, _, h, _⟩ | ⟨_, _, h⟩
    · exact ⟨0, by decide, h⟩
    · exact ⟨1, by decide, h⟩
  rw [hr9]
  refine g_istore C dL_law_129 (by decide) ?_
  first | refine g_aload_n C dL_law_131 rfl ?_ | refine g_aload_nq C _ dL_law_131 rfl ?_
  refine g_comm ?_
  refine f_callV C (F := cW g xa I1 O1 L1 K1 ++ [(xo, oE g f1)]) (W1 := mW g xm V) (Cl := RX3) (ci := 3) (k_X3_begin l D g _ xm V hBV hN hC ) gL_law_X3_begin rfl rfl rfl (n := 0) (by decide +kernel) ⟨Nat.le_of_ble_eq_true rfl, Nat.le_of_ble_eq_true rfl⟩ (List.mem_of_getElem? (i := 0) rfl) rfl rfl rfl rfl (Nat.le_of_ble_eq_true rfl) dL_law_132 ⟨show cells + 2 + 0 ≤ 601024 by omega, show slots + 15 + 0 ≤ 7293034 by omega⟩ (fun r2 w hm => ?_)
  obtain ⟨V1, rfl, hm⟩ := hm
  refine g_comm ?_
  obtain ⟨hLB, kk, aa, hkk, hrh, hrm, h25, hans⟩ := mt_begin hB hN2 rfl hq hm
  have e9 : kk = k9 := (nI_eq (by omega) (by omega)).mp (Value.int.inj (Option.some.inj (hrh.symm.trans hr9)))
  subst e9
  rw [hrm]
  refine g_istore C dL_law_135 (by decide) ?_
  first | refine g_aload_n C dL_law_137 rfl ?_ | refine g_aload_nq C _ dL_law_137 rfl ?_
  refine g_comm ?_
  refine f_callV C (F := cW g xa I1 O1 L1 K1 ++ [(xo, oE g f1)]) (W1 := mW g xm V1) (Cl := RX3) (ci := 3) (k_X3_thrown l D g _ xm V1 ) gL_law_X3_thrown rfl rfl rfl (n := 0) (by decide +kernel) ⟨Nat.le_of_ble_eq_true rfl, Nat.le_of_ble_eq_true rfl⟩ (List.mem_of_getElem? (i := 0) rfl) rfl rfl rfl rfl (Nat.le_of_ble_eq_true rfl) dL_law_138 ⟨show cells + 2 + 0 + 0 ≤ 601024 by omega, show slots + 15 + 0 + 0 ≤ 7293034 by omega⟩ (fun r2 w hm => ?_)
  obtain ⟨V2, rfl, e2, hr3⟩ := hm
  refine g_comm ?_
  rw [e2, hr3, h25]
  refine g_iload C dL_law_141 rfl ?_
  refine g_icmp_eq C 148 dL_law_143 (by decide) (by omega) (by omega) (fun c143 => ?_) (fun c143 => ?_)
  · refine g_iload C dL_law_148 rfl ?_
    refine g_if_ne C 165 dL_law_150 (by decide) (by omega) (fun c150 => ?_) (fun c150 => ?_)
    · refine g_goto C 1019 dL_law_165 (by decide) ?_
      exact g_lv (lv' := [(0, .ref b), (1, .ref (xa 0)), (2, .ref (xm 0)), (3, .ref xo), (4, .int (nI (4 * n)))]) lv56 (g_widen (by omega) (by omega) (k19 _ _ _ _ _ _ hLB))
    · first | refine g_aload_n C dL_law_153 rfl ?_ | refine g_aload_nq C _ dL_law_153 rfl ?_
      refine g_iconst C 0 dL_law_154 (by decide) ?_
      refine g_laload C dL_law_155 ?_
      refine g_iload C dL_law_156 rfl ?_
      refine g_i2l C dL_law_158 rfl ?_
      have hans9 : f1 0 = aa.toInt64 := hans c150
      refine g_lcmp_eq C (hans9) dL_law_159 ?_
      refine g_if_eq C 165 dL_law_160 (by decide) (by decide) (fun c160 => ?_) (fun c160 => absurd c160 (by decide))
      refine g_goto C 1019 dL_law_165 (by decide) ?_
      exact g_lv (lv' := [(0, .ref b), (1, .ref (xa 0)), (2, .ref (xm 0)), (3, .ref xo), (4, .int (nI (4 * n)))]) lv56 (g_widen (by omega) (by omega) (k19 _ _ _ _ _ _ hLB))
  · exact absurd rfl c143
set_option maxRecDepth 100000 in
set_option maxHeartbeats 1000000 in
theorem st_look {p : Program} {l : Launch} {e : Env} {s : State} {m : MethodId} {args : Array Value} {below : List Frame} {meth : Method} {c : Code} {Q : State → Prop} {D : va_G} {A : Nat → Prop} {g : Nat → ClassId} {xa xm : Nat → Nat} {xo b Ln n N cells slots : Nat} {xs : Nat → Int32} {V I : VV} {O : OO} {L : List Nat} {K : Nat → Nat} {f : Nat → Int64}
    (C : CX p s m args meth c code 7 wsL_law RL D (tyG g) A s.heap ret) (hst : l.stackTraces = false) (T9 : XTC A s) (hX : va_X b Ln xs s s.heap) (hbl : b < s.heap.size) (hbA : ¬ A b) (hLn : Ln ≤ 2048) (h4 : 4 * n + 4 ≤ Ln) (hN2 : 20000 ≤ N) (hN4 : N + 4000 ≤ 2 ^ 30) (hB : LB N V I O L K) (hc : cells + 250 ≤ 601024) (hs : slots + 700 ≤ 7293034)
    (k19 : ∀ (V' I' : VV) (O' : OO) (L' : List Nat) (K' : Nat → Nat) (f' : Nat → Int64), LB (N + 4000) V' I' O' L' K' → GG p l e room_1 s m args below meth c Q 7 D A s.heap ((cW g xa I' O' L' K' ++ [(xo, oE g f')]) ++ mW g xm V') (cells + 250) (slots + 700) 1019 [(0, .ref b), (1, .ref (xa 0)), (2, .ref (xm 0)), (3, .ref xo), (4, .int (nI (4 * n)))] []) : GG p l e room_1 s m args below meth c Q 7 D A s.heap ((cW g xa I O L K ++ [(xo, oE g f)]) ++ mW g xm V) cells slots 168 [(0, .ref b), (1, .ref (xa 0)), (2, .ref (xm 0)), (3, .ref xo), (4, .int (nI (4 * n)))] [] := by
  obtain ⟨hV, hBV, hBI, hrc, own, hR⟩ := id hB
  have hN : N ≤ 2 ^ 30 := by omega
  have hC := hV.1.1
  have hla := hV.1.lat
  have hrw := hV.1.rows
  obtain ⟨fs, hfs⟩ := cX_this g xa I O L K
  first | refine g_aload_n C dL_law_168 rfl ?_ | refine g_aload_nq C _ dL_law_168 rfl ?_
  first | refine g_aload_n C dL_law_169 rfl ?_ | refine g_aload_nq C _ dL_law_169 rfl ?_
  refine g_iload C dL_law_170 rfl ?_
  refine g_iconst C 1 dL_law_172 (by decide) ?_
  first | refine g_iadd C dL_law_173 ?_ | refine g_iaddx C dL_law_173 ?_
  refine g_sld C hX hbl hbA hLn dL_law_174 (by omega) ?_
  first | refine g_aload_n C dL_law_175 rfl ?_ | refine g_aload_nq C _ dL_law_175 rfl ?_
  refine xf_callSX C T9 (F := mW g xm V) (W1 := cW g xa I O L K ++ [(xo, oE g f)]) (k_L_look l D g _ xa xo I O L K f (xs (4 * n + 1)) (k_X2_look l hst D g _ xa I O L K hBI hN4 hN2 (hV.thrown 0) hR.thrown hrc (xs (4 * n + 1))) (fun E h => h.elim (fun z => Or.inl z.1) (fun z => Or.inr z.1)) (fun r I9 O9 L9 K9 h => by obtain ⟨_, _, _, _, _, _, h⟩ := h; exact ⟨_, h⟩)) gL_law_L_look rfl rfl rfl (n := 3) (by decide +kernel) ⟨Nat.le_of_ble_eq_true rfl, Nat.le_of_ble_eq_true rfl⟩ rfl rfl (Nat.le_of_ble_eq_true rfl) dL_law_176 ⟨show cells + 3 ≤ 601024 by omega, show slots + 21 ≤ 7293034 by omega⟩ (fun r w hq => ?_)
  obtain ⟨I1, O1, L1, K1, f1, rfl, hq⟩ := hq
  obtain ⟨k9, hk9, hr9⟩ : ∃ k9, k9 ≤ 2 ∧ r = some (.int (nI k9)) := by
    rcases hq with ⟨_, _, h, _⟩ | ⟨_, ⟨_, h⟩ | ⟨_, h⟩⟩
    · exact ⟨0, by decide, h⟩
    · exact ⟨1, by decide, h⟩
    · exact ⟨2, by decide, h⟩
  rw [hr9]
  refine g_istore C dL_law_179 (by decide) ?_
  first | refine g_aload_n C dL_law_181 rfl ?_ | refine g_aload_nq C _ dL_law_181 rfl ?_
  first | refine g_aload_n C dL_law_182 rfl ?_ | refine g_aload_nq C _ dL_law_182 rfl ?_
  refine g_iload C dL_law_183 rfl ?_
  refine g_iconst C 1 dL_law_185 (by decide) ?_
  first | refine g_iadd C dL_law_186 ?_ | refine g_iaddx C dL_law_186 ?_
  refine g_sld C hX hbl hbA hLn dL_law_187 (by omega) ?_
  refine g_comm ?_
  refine f_callV C (F := cW g xa I1 O1 L1 K1 ++ [(xo, oE g f1)]) (W1 := mW g xm V) (Cl := RX3) (ci := 3) (k_X3_look l D g _ xm V hBV hN hC (xs (4 * n + 1))) gL_law_X3_look rfl rfl rfl (n := 1) (by decide +kernel) ⟨Nat.le_of_ble_eq_true rfl, Nat.le_of_ble_eq_true rfl⟩ (List.mem_of_getElem? (i := 0) rfl) rfl rfl rfl rfl (Nat.le_of_ble_eq_true rfl) dL_law_188 ⟨show cells + 3 + 0 ≤ 601024 by omega, show slots + 21 + 0 ≤ 7293034 by omega⟩ (fun r2 w hm => ?_)
  obtain ⟨V1, rfl, hm⟩ := hm
  refine g_comm ?_
  obtain ⟨hLB, kk, aa, hkk, hrh, hrm, h25, hans⟩ := mt_look hB hN2 rfl hq hm
  have e9 : kk = k9 := (nI_eq (by omega) (by omega)).mp (Value.int.inj (Option.some.inj (hrh.symm.trans hr9)))
  subst e9
  rw [hrm]
  refine g_istore C dL_law_191 (by decide) ?_
  first | refine g_aload_n C dL_law_193 rfl ?_ | refine g_aload_nq C _ dL_law_193 rfl ?_
  refine g_comm ?_
  refine f_callV C (F := cW g xa I1 O1 L1 K1 ++ [(xo, oE g f1)]) (W1 := mW g xm V1) (Cl := RX3) (ci := 3) (k_X3_thrown l D g _ xm V1 ) gL_law_X3_thrown rfl rfl rfl (n := 0) (by decide +kernel) ⟨Nat.le_of_ble_eq_true rfl, Nat.le_of_ble_eq_true rfl⟩ (List.mem_of_getElem? (i := 0) rfl) rfl rfl rfl rfl (Nat.le_of_ble_eq_true rfl) dL_law_194 ⟨show cells + 3 + 0 + 0 ≤ 601024 by omega, show slots + 21 + 0 + 0 ≤ 7293034 by omega⟩ (fun r2 w hm => ?_)
  obtain ⟨V2, rfl, e2, hr3⟩ := hm
  refine g_comm ?_
  rw [e2, hr3, h25]
  refine g_iload C dL_law_197 rfl ?_
  refine g_icmp_eq C 204 dL_law_199 (by decide) (by omega) (by omega) (fun c199 => ?_) (fun c199 => ?_)
  · refine g_iload C dL_law_204 rfl ?_
    refine g_if_ne C 221 dL_law_206 (by decide) (by omega) (fun c206 => ?_) (fun c206 => ?_)
    · refine g_goto C 1019 dL_law_221 (by decide) ?_
      exact g_lv (lv' := [(0, .ref b), (1, .ref (xa 0)), (2, .ref (xm 0)), (3, .ref xo), (4, .int (nI (4 * n)))]) lv56 (g_widen (by omega) (by omega) (k19 _ _ _ _ _ _ hLB))
    · first | refine g_aload_n C dL_law_209 rfl ?_ | refine g_aload_nq C _ dL_law_209 rfl ?_
      refine g_iconst C 0 dL_law_210 (by decide) ?_
      refine g_laload C dL_law_211 ?_
      refine g_iload C dL_law_212 rfl ?_
      refine g_i2l C dL_law_214 rfl ?_
      have hans9 : f1 0 = aa.toInt64 := hans c206
      refine g_lcmp_eq C (hans9) dL_law_215 ?_
      refine g_if_eq C 221 dL_law_216 (by decide) (by decide) (fun c216 => ?_) (fun c216 => absurd c216 (by decide))
      refine g_goto C 1019 dL_law_221 (by decide) ?_
      exact g_lv (lv' := [(0, .ref b), (1, .ref (xa 0)), (2, .ref (xm 0)), (3, .ref xo), (4, .int (nI (4 * n)))]) lv56 (g_widen (by omega) (by omega) (k19 _ _ _ _ _ _ hLB))
  · exact absurd rfl c199
set_option maxRecDepth 100000 in
set_option maxHeartbeats 1000000 in
theorem st_put {p : Program} {l : Launch} {e : Env} {s : State} {m : MethodId} {args : Array Value} {below : List Frame} {meth : Method} {c : Code} {Q : State → Prop} {D : va_G} {A : Nat → Prop} {g : Nat → ClassId} {xa xm : Nat → Nat} {xo b Ln n N cells slots : Nat} {xs : Nat → Int32} {V I : VV} {O : OO} {L : List Nat} {K : Nat → Nat} {f : Nat → Int64}
    (C : CX p s m args meth c code 7 wsL_law RL D (tyG g) A s.heap ret) (hst : l.stackTraces = false) (T9 : XTC A s) (hX : va_X b Ln xs s s.heap) (hbl : b < s.heap.size) (hbA : ¬ A b) (hLn : Ln ≤ 2048) (h4 : 4 * n + 4 ≤ Ln) (hN2 : 20000 ≤ N) (hN4 : N + 4000 ≤ 2 ^ 30) (hB : LB N V I O L K) (hc : cells + 250 ≤ 601024) (hs : slots + 700 ≤ 7293034)
    (k19 : ∀ (V' I' : VV) (O' : OO) (L' : List Nat) (K' : Nat → Nat) (f' : Nat → Int64), LB (N + 4000) V' I' O' L' K' → GG p l e room_1 s m args below meth c Q 7 D A s.heap ((cW g xa I' O' L' K' ++ [(xo, oE g f')]) ++ mW g xm V') (cells + 250) (slots + 700) 1019 [(0, .ref b), (1, .ref (xa 0)), (2, .ref (xm 0)), (3, .ref xo), (4, .int (nI (4 * n)))] []) : GG p l e room_1 s m args below meth c Q 7 D A s.heap ((cW g xa I O L K ++ [(xo, oE g f)]) ++ mW g xm V) cells slots 224 [(0, .ref b), (1, .ref (xa 0)), (2, .ref (xm 0)), (3, .ref xo), (4, .int (nI (4 * n)))] [] := by
  obtain ⟨hV, hBV, hBI, hrc, own, hR⟩ := id hB
  have hN : N ≤ 2 ^ 30 := by omega
  have hC := hV.1.1
  have hla := hV.1.lat
  have hrw := hV.1.rows
  obtain ⟨fs, hfs⟩ := cX_this g xa I O L K
  first | refine g_aload_n C dL_law_224 rfl ?_ | refine g_aload_nq C _ dL_law_224 rfl ?_
  first | refine g_aload_n C dL_law_225 rfl ?_ | refine g_aload_nq C _ dL_law_225 rfl ?_
  refine g_iload C dL_law_226 rfl ?_
  refine g_iconst C 1 dL_law_228 (by decide) ?_
  first | refine g_iadd C dL_law_229 ?_ | refine g_iaddx C dL_law_229 ?_
  refine g_sld C hX hbl hbA hLn dL_law_230 (by omega) ?_
  first | refine g_aload_n C dL_law_231 rfl ?_ | refine g_aload_nq C _ dL_law_231 rfl ?_
  refine g_iload C dL_law_232 rfl ?_
  refine g_iconst C 2 dL_law_234 (by decide) ?_
  first | refine g_iadd C dL_law_235 ?_ | refine g_iaddx C dL_law_235 ?_
  refine g_sld C hX hbl hbA hLn dL_law_236 (by omega) ?_
  first | refine g_aload_n C dL_law_237 rfl ?_ | refine g_aload_nq C _ dL_law_237 rfl ?_
  refine g_iload C dL_law_238 rfl ?_
  refine g_iconst C 3 dL_law_240 (by decide) ?_
  first | refine g_iadd C dL_law_241 ?_ | refine g_iaddx C dL_law_241 ?_
  refine g_sld C hX hbl hbA hLn dL_law_242 (by omega) ?_
  refine g_ifx_eq C 250 dL_law_243 (by decide) (fun c243 => ?_) (fun c243 => ?_)
  · refine g_iconst C 0 dL_law_250 (by decide) ?_
    first | refine g_aload_n C dL_law_251 rfl ?_ | refine g_aload_nq C _ dL_law_251 rfl ?_
    refine xf_callSX C T9 (F := mW g xm V) (W1 := cW g xa I O L K ++ [(xo, oE g f)]) (k_L_put l D g _ xa xo I O L K f (xs (4 * n + 1)) (xs (4 * n + 2)) (nI 0) (k_X2_put l hst D g _ xa I O L K hBI hN4 hN2 (hV.thrown 0) hR.thrown hrc (xs (4 * n + 1)) (xs (4 * n + 2)) 0 (by decide)) (fun E h => h.elim (fun z => Or.inl z.1) (fun z => Or.inr z.1)) (fun r I9 O9 L9 K9 h => by obtain ⟨_, _, _, _, _, _, _, _, _, h⟩ := h; exact ⟨_, h⟩)) gL_law_L_put rfl rfl rfl (n := 5) (by decide +kernel) ⟨Nat.le_of_ble_eq_true rfl, Nat.le_of_ble_eq_true rfl⟩ rfl rfl (Nat.le_of_ble_eq_true rfl) dL_law_252 ⟨show cells + 3 ≤ 601024 by omega, show slots + 18 ≤ 7293034 by omega⟩ (fun r w hq => ?_)
    obtain ⟨I1, O1, L1, K1, f1, rfl, hq⟩ := hq
    obtain ⟨k9, hk9, hr9⟩ : ∃ k9, k9 ≤ 2 ∧ r = some (.int (nI k9)) := by
      rcases hq with ⟨_, _, h, _⟩ | ⟨_, ⟨_, h⟩ | ⟨_, h⟩⟩
      · exact ⟨0, by decide, h⟩
      · exact ⟨1, by decide, h⟩
      · exact ⟨2, by decide, h⟩
    rw [hr9]
    refine g_istore C dL_law_255 (by decide) ?_
    first | refine g_aload_n C dL_law_257 rfl ?_ | refine g_aload_nq C _ dL_law_257 rfl ?_
    first | refine g_aload_n C dL_law_258 rfl ?_ | refine g_aload_nq C _ dL_law_258 rfl ?_
    refine g_iload C dL_law_259 rfl ?_
    refine g_iconst C 1 dL_law_261 (by decide) ?_
    first | refine g_iadd C dL_law_262 ?_ | refine g_iaddx C dL_law_262 ?_
    refine g_sld C hX hbl hbA hLn dL_law_263 (by omega) ?_
    first | refine g_aload_n C dL_law_264 rfl ?_ | refine g_aload_nq C _ dL_law_264 rfl ?_
    refine g_iload C dL_law_265 rfl ?_
    refine g_iconst C 2 dL_law_267 (by decide) ?_
    first | refine g_iadd C dL_law_268 ?_ | refine g_iaddx C dL_law_268 ?_
    refine g_sld C hX hbl hbA hLn dL_law_269 (by omega) ?_
    first | refine g_aload_n C dL_law_270 rfl ?_ | refine g_aload_nq C _ dL_law_270 rfl ?_
    refine g_iload C dL_law_271 rfl ?_
    refine g_iconst C 3 dL_law_273 (by decide) ?_
    first | refine g_iadd C dL_law_274 ?_ | refine g_iaddx C dL_law_274 ?_
    refine g_sld C hX hbl hbA hLn dL_law_275 (by omega) ?_
    refine g_ifx_eq C 283 dL_law_276 (by decide) (fun c276 => ?_) (fun c276 => ?_)
    · refine g_iconst C 0 dL_law_283 (by decide) ?_
      refine g_comm ?_
      refine f_callV C (F := cW g xa I1 O1 L1 K1 ++ [(xo, oE g f1)]) (W1 := mW g xm V) (Cl := RX3) (ci := 3) (k_X3_put l D g _ xm V hBV hN hN2 hV.1 hN4 (xs (4 * n + 1)) (xs (4 * n + 2)) 0 (by decide)) gL_law_X3_put rfl rfl rfl (n := 3) (by decide +kernel) ⟨Nat.le_of_ble_eq_true rfl, Nat.le_of_ble_eq_true rfl⟩ (List.mem_of_getElem? (i := 0) rfl) rfl rfl rfl rfl (Nat.le_of_ble_eq_true rfl) dL_law_284 ⟨show cells + 3 + 0 ≤ 601024 by omega, show slots + 18 + 0 ≤ 7293034 by omega⟩ (fun r2 w hm => ?_)
      obtain ⟨V1, rfl, hm⟩ := hm
      refine g_comm ?_
      obtain ⟨hLB, kk, aa, hkk, hrh, hrm, h25, hans⟩ := mt_put (b := 0) (by decide) hB hN2 rfl hq hm
      have e9 : kk = k9 := (nI_eq (by omega) (by omega)).mp (Value.int.inj (Option.some.inj (hrh.symm.trans hr9)))
      subst e9
      rw [hrm]
      refine g_istore C dL_law_287 (by decide) ?_
      first | refine g_aload_n C dL_law_289 rfl ?_ | refine g_aload_nq C _ dL_law_289 rfl ?_
      refine g_comm ?_
      refine f_callV C (F := cW g xa I1 O1 L1 K1 ++ [(xo, oE g f1)]) (W1 := mW g xm V1) (Cl := RX3) (ci := 3) (k_X3_thrown l D g _ xm V1 ) gL_law_X3_thrown rfl rfl rfl (n := 0) (by decide +kernel) ⟨Nat.le_of_ble_eq_true rfl, Nat.le_of_ble_eq_true rfl⟩ (List.mem_of_getElem? (i := 0) rfl) rfl rfl rfl rfl (Nat.le_of_ble_eq_true rfl) dL_law_290 ⟨show cells + 3 + 0 + 0 ≤ 601024 by omega, show slots + 18 + 0 + 0 ≤ 7293034 by omega⟩ (fun r2 w hm => ?_)
      obtain ⟨V2, rfl, e2, hr3⟩ := hm
      refine g_comm ?_
      rw [e2, hr3, h25]
      refine g_iload C dL_law_293 rfl ?_
      refine g_icmp_eq C 300 dL_law_295 (by decide) (by omega) (by omega) (fun c295 => ?_) (fun c295 => ?_)
      · refine g_iload C dL_law_300 rfl ?_
        refine g_if_ne C 317 dL_law_302 (by decide) (by omega) (fun c302 => ?_) (fun c302 => ?_)
        · refine g_goto C 1019 dL_law_317 (by decide) ?_
          exact g_lv (lv' := [(0, .ref b), (1, .ref (xa 0)), (2, .ref (xm 0)), (3, .ref xo), (4, .int (nI (4 * n)))]) lv56 (g_widen (by omega) (by omega) (k19 _ _ _ _ _ _ hLB))
        · first | refine g_aload_n C dL_law_305 rfl ?_ | refine g_aload_nq C _ dL_law_305 rfl ?_
          refine g_iconst C 0 dL_law_306 (by decide) ?_
          refine g_laload C dL_law_307 ?_
          refine g_iload C dL_law_308 rfl ?_
          refine g_i2l C dL_law_310 rfl ?_
          have hans9 : f1 0 = aa.toInt64 := hans c302
          refine g_lcmp_eq C (hans9) dL_law_311 ?_
          refine g_if_eq C 317 dL_law_312 (by decide) (by decide) (fun c312 => ?_) (fun c312 => absurd c312 (by decide))
          refine g_goto C 1019 dL_law_317 (by decide) ?_
          exact g_lv (lv' := [(0, .ref b), (1, .ref (xa 0)), (2, .ref (xm 0)), (3, .ref xo), (4, .int (nI (4 * n)))]) lv56 (g_widen (by omega) (by omega) (k19 _ _ _ _ _ _ hLB))
      · exact absurd rfl c295
    · exact absurd c243 c276
  · refine g_iconst C 1 dL_law_246 (by decide) ?_
    refine g_goto C 251 dL_law_247 (by decide) ?_
    first | refine g_aload_n C dL_law_251 rfl ?_ | refine g_aload_nq C _ dL_law_251 rfl ?_
    refine xf_callSX C T9 (F := mW g xm V) (W1 := cW g xa I O L K ++ [(xo, oE g f)]) (k_L_put l D g _ xa xo I O L K f (xs (4 * n + 1)) (xs (4 * n + 2)) (nI 1) (k_X2_put l hst D g _ xa I O L K hBI hN4 hN2 (hV.thrown 0) hR.thrown hrc (xs (4 * n + 1)) (xs (4 * n + 2)) 1 (by decide)) (fun E h => h.elim (fun z => Or.inl z.1) (fun z => Or.inr z.1)) (fun r I9 O9 L9 K9 h => by obtain ⟨_, _, _, _, _, _, _, _, _, h⟩ := h; exact ⟨_, h⟩)) gL_law_L_put rfl rfl rfl (n := 5) (by decide +kernel) ⟨Nat.le_of_ble_eq_true rfl, Nat.le_of_ble_eq_true rfl⟩ rfl rfl (Nat.le_of_ble_eq_true rfl) dL_law_252 ⟨show cells + 3 ≤ 601024 by omega, show slots + 18 ≤ 7293034 by omega⟩ (fun r w hq => ?_)
    obtain ⟨I1, O1, L1, K1, f1, rfl, hq⟩ := hq
    obtain ⟨k9, hk9, hr9⟩ : ∃ k9, k9 ≤ 2 ∧ r = some (.int (nI k9)) := by
      rcases hq with ⟨_, _, h, _⟩ | ⟨_, ⟨_, h⟩ | ⟨_, h⟩⟩
      · exact ⟨0, by decide, h⟩
      · exact ⟨1, by decide, h⟩
      · exact ⟨2, by decide, h⟩
    rw [hr9]
    refine g_istore C dL_law_255 (by decide) ?_
    first | refine g_aload_n C dL_law_257 rfl ?_ | refine g_aload_nq C _ dL_law_257 rfl ?_
    first | refine g_aload_n C dL_law_258 rfl ?_ | refine g_aload_nq C _ dL_law_258 rfl ?_
    refine g_iload C dL_law_259 rfl ?_
    refine g_iconst C 1 dL_law_261 (by decide) ?_
    first | refine g_iadd C dL_law_262 ?_ | refine g_iaddx C dL_law_262 ?_
    refine g_sld C hX hbl hbA hLn dL_law_263 (by omega) ?_
    first | refine g_aload_n C dL_law_264 rfl ?_ | refine g_aload_nq C _ dL_law_264 rfl ?_
    refine g_iload C dL_law_265 rfl ?_
    refine g_iconst C 2 dL_law_267 (by decide) ?_
    first | refine g_iadd C dL_law_268 ?_ | refine g_iaddx C dL_law_268 ?_
    refine g_sld C hX hbl hbA hLn dL_law_269 (by omega) ?_
    first | refine g_aload_n C dL_law_270 rfl ?_ | refine g_aload_nq C _ dL_law_270 rfl ?_
    refine g_iload C dL_law_271 rfl ?_
    refine g_iconst C 3 dL_law_273 (by decide) ?_
    first | refine g_iadd C dL_law_274 ?_ | refine g_iaddx C dL_law_274 ?_
    refine g_sld C hX hbl hbA hLn dL_law_275 (by omega) ?_
    refine g_ifx_eq C 283 dL_law_276 (by decide) (fun c276 => ?_) (fun c276 => ?_)
    · exact absurd c276 c243
    · refine g_iconst C 1 dL_law_279 (by decide) ?_
      refine g_goto C 284 dL_law_280 (by decide) ?_
      refine g_comm ?_
      refine f_callV C (F := cW g xa I1 O1 L1 K1 ++ [(xo, oE g f1)]) (W1 := mW g xm V) (Cl := RX3) (ci := 3) (k_X3_put l D g _ xm V hBV hN hN2 hV.1 hN4 (xs (4 * n + 1)) (xs (4 * n + 2)) 1 (by decide)) gL_law_X3_put rfl rfl rfl (n := 3) (by decide +kernel) ⟨Nat.le_of_ble_eq_true rfl, Nat.le_of_ble_eq_true rfl⟩ (List.mem_of_getElem? (i := 0) rfl) rfl rfl rfl rfl (Nat.le_of_ble_eq_true rfl) dL_law_284 ⟨show cells + 3 + 0 ≤ 601024 by omega, show slots + 18 + 0 ≤ 7293034 by omega⟩ (fun r2 w hm => ?_)
      obtain ⟨V1, rfl, hm⟩ := hm
      refine g_comm ?_
      obtain ⟨hLB, kk, aa, hkk, hrh, hrm, h25, hans⟩ := mt_put (b := 1) (by decide) hB hN2 rfl hq hm
      have e9 : kk = k9 := (nI_eq (by omega) (by omega)).mp (Value.int.inj (Option.some.inj (hrh.symm.trans hr9)))
      subst e9
      rw [hrm]
      refine g_istore C dL_law_287 (by decide) ?_
      first | refine g_aload_n C dL_law_289 rfl ?_ | refine g_aload_nq C _ dL_law_289 rfl ?_
      refine g_comm ?_
      refine f_callV C (F := cW g xa I1 O1 L1 K1 ++ [(xo, oE g f1)]) (W1 := mW g xm V1) (Cl := RX3) (ci := 3) (k_X3_thrown l D g _ xm V1 ) gL_law_X3_thrown rfl rfl rfl (n := 0) (by decide +kernel) ⟨Nat.le_of_ble_eq_true rfl, Nat.le_of_ble_eq_true rfl⟩ (List.mem_of_getElem? (i := 0) rfl) rfl rfl rfl rfl (Nat.le_of_ble_eq_true rfl) dL_law_290 ⟨show cells + 3 + 0 + 0 ≤ 601024 by omega, show slots + 18 + 0 + 0 ≤ 7293034 by omega⟩ (fun r2 w hm => ?_)
      obtain ⟨V2, rfl, e2, hr3⟩ := hm
      refine g_comm ?_
      rw [e2, hr3, h25]
      refine g_iload C dL_law_293 rfl ?_
      refine g_icmp_eq C 300 dL_law_295 (by decide) (by omega) (by omega) (fun c295 => ?_) (fun c295 => ?_)
      · refine g_iload C dL_law_300 rfl ?_
        refine g_if_ne C 317 dL_law_302 (by decide) (by omega) (fun c302 => ?_) (fun c302 => ?_)
        · refine g_goto C 1019 dL_law_317 (by decide) ?_
          exact g_lv (lv' := [(0, .ref b), (1, .ref (xa 0)), (2, .ref (xm 0)), (3, .ref xo), (4, .int (nI (4 * n)))]) lv56 (g_widen (by omega) (by omega) (k19 _ _ _ _ _ _ hLB))
        · first | refine g_aload_n C dL_law_305 rfl ?_ | refine g_aload_nq C _ dL_law_305 rfl ?_
          refine g_iconst C 0 dL_law_306 (by decide) ?_
          refine g_laload C dL_law_307 ?_
          refine g_iload C dL_law_308 rfl ?_
          refine g_i2l C dL_law_310 rfl ?_
          have hans9 : f1 0 = aa.toInt64 := hans c302
          refine g_lcmp_eq C (hans9) dL_law_311 ?_
          refine g_if_eq C 317 dL_law_312 (by decide) (by decide) (fun c312 => ?_) (fun c312 => absurd c312 (by decide))
          refine g_goto C 1019 dL_law_317 (by decide) ?_
          exact g_lv (lv' := [(0, .ref b), (1, .ref (xa 0)), (2, .ref (xm 0)), (3, .ref xo), (4, .int (nI (4 * n)))]) lv56 (g_widen (by omega) (by omega) (k19 _ _ _ _ _ _ hLB))
      · exact absurd rfl c295
set_option maxRecDepth 100000 in
set_option maxHeartbeats 1000000 in
theorem st_note {p : Program} {l : Launch} {e : Env} {s : State} {m : MethodId} {args : Array Value} {below : List Frame} {meth : Method} {c : Code} {Q : State → Prop} {D : va_G} {A : Nat → Prop} {g : Nat → ClassId} {xa xm : Nat → Nat} {xo b Ln n N cells slots : Nat} {xs : Nat → Int32} {V I : VV} {O : OO} {L : List Nat} {K : Nat → Nat} {f : Nat → Int64}
    (C : CX p s m args meth c code 7 wsL_law RL D (tyG g) A s.heap ret) (hst : l.stackTraces = false) (T9 : XTC A s) (hX : va_X b Ln xs s s.heap) (hbl : b < s.heap.size) (hbA : ¬ A b) (hLn : Ln ≤ 2048) (h4 : 4 * n + 4 ≤ Ln) (hN2 : 20000 ≤ N) (hN4 : N + 4000 ≤ 2 ^ 30) (hB : LB N V I O L K) (hc : cells + 250 ≤ 601024) (hs : slots + 700 ≤ 7293034)
    (k19 : ∀ (V' I' : VV) (O' : OO) (L' : List Nat) (K' : Nat → Nat) (f' : Nat → Int64), LB (N + 4000) V' I' O' L' K' → GG p l e room_1 s m args below meth c Q 7 D A s.heap ((cW g xa I' O' L' K' ++ [(xo, oE g f')]) ++ mW g xm V') (cells + 250) (slots + 700) 1019 [(0, .ref b), (1, .ref (xa 0)), (2, .ref (xm 0)), (3, .ref xo), (4, .int (nI (4 * n)))] []) : GG p l e room_1 s m args below meth c Q 7 D A s.heap ((cW g xa I O L K ++ [(xo, oE g f)]) ++ mW g xm V) cells slots 320 [(0, .ref b), (1, .ref (xa 0)), (2, .ref (xm 0)), (3, .ref xo), (4, .int (nI (4 * n)))] [] := by
  obtain ⟨hV, hBV, hBI, hrc, own, hR⟩ := id hB
  have hN : N ≤ 2 ^ 30 := by omega
  have hC := hV.1.1
  have hla := hV.1.lat
  have hrw := hV.1.rows
  obtain ⟨fs, hfs⟩ := cX_this g xa I O L K
  first | refine g_aload_n C dL_law_320 rfl ?_ | refine g_aload_nq C _ dL_law_320 rfl ?_
  first | refine g_aload_n C dL_law_321 rfl ?_ | refine g_aload_nq C _ dL_law_321 rfl ?_
  refine g_iload C dL_law_322 rfl ?_
  refine g_iconst C 1 dL_law_324 (by decide) ?_
  first | refine g_iadd C dL_law_325 ?_ | refine g_iaddx C dL_law_325 ?_
  refine g_sld C hX hbl hbA hLn dL_law_326 (by omega) ?_
  first | refine g_aload_n C dL_law_327 rfl ?_ | refine g_aload_nq C _ dL_law_327 rfl ?_
  refine g_iload C dL_law_328 rfl ?_
  refine g_iconst C 2 dL_law_330 (by decide) ?_
  first | refine g_iadd C dL_law_331 ?_ | refine g_iaddx C dL_law_331 ?_
  refine g_sld C hX hbl hbA hLn dL_law_332 (by omega) ?_
  first | refine g_aload_n C dL_law_333 rfl ?_ | refine g_aload_nq C _ dL_law_333 rfl ?_
  refine xf_callSX C T9 (F := mW g xm V) (W1 := cW g xa I O L K ++ [(xo, oE g f)]) (k_L_note l D g _ xa xo I O L K f (xs (4 * n + 1)) (xs (4 * n + 2)) (k_X2_note l hst D g _ xa I O L K hBI hN4 hN2 (hV.thrown 0) hR.thrown hrc (xs (4 * n + 1)) (xs (4 * n + 2))) (fun E h => h.elim (fun z => Or.inl z.1) (fun z => Or.inr z.1)) (fun r I9 O9 L9 K9 h => by obtain ⟨_, _, _, _, _, _, _, _, _, h⟩ := h; exact ⟨_, h⟩)) gL_law_L_note rfl rfl rfl (n := 4) (by decide +kernel) ⟨Nat.le_of_ble_eq_true rfl, Nat.le_of_ble_eq_true rfl⟩ rfl rfl (Nat.le_of_ble_eq_true rfl) dL_law_334 ⟨show cells + 3 ≤ 601024 by omega, show slots + 18 ≤ 7293034 by omega⟩ (fun r w hq => ?_)
  obtain ⟨I1, O1, L1, K1, f1, rfl, hq⟩ := hq
  obtain ⟨k9, hk9, hr9⟩ : ∃ k9, k9 ≤ 2 ∧ r = some (.int (nI k9)) := by
    rcases hq with ⟨_, _, h, _⟩ | ⟨_, ⟨_, h⟩ | ⟨_, h⟩⟩
    · exact ⟨0, by decide, h⟩
    · exact ⟨1, by decide, h⟩
    · exact ⟨2, by decide, h⟩
  rw [hr9]
  refine g_istore C dL_law_337 (by decide) ?_
  first | refine g_aload_n C dL_law_339 rfl ?_ | refine g_aload_nq C _ dL_law_339 rfl ?_
  first | refine g_aload_n C dL_law_340 rfl ?_ | refine g_aload_nq C _ dL_law_340 rfl ?_
  refine g_iload C dL_law_341 rfl ?_
  refine g_iconst C 1 dL_law_343 (by decide) ?_
  first | refine g_iadd C dL_law_344 ?_ | refine g_iaddx C dL_law_344 ?_
  refine g_sld C hX hbl hbA hLn dL_law_345 (by omega) ?_
  first | refine g_aload_n C dL_law_346 rfl ?_ | refine g_aload_nq C _ dL_law_346 rfl ?_
  refine g_iload C dL_law_347 rfl ?_
  refine g_iconst C 2 dL_law_349 (by decide) ?_
  first | refine g_iadd C dL_law_350 ?_ | refine g_iaddx C dL_law_350 ?_
  refine g_sld C hX hbl hbA hLn dL_law_351 (by omega) ?_
  refine g_comm ?_
  refine f_callV C (F := cW g xa I1 O1 L1 K1 ++ [(xo, oE g f1)]) (W1 := mW g xm V) (Cl := RX3) (ci := 3) (k_X3_note l D g _ xm V hBV hN hC hV.1.2.2.2.2.2.2.2.2.2 (xs (4 * n + 1)) (xs (4 * n + 2))) gL_law_X3_note rfl rfl rfl (n := 2) (by decide +kernel) ⟨Nat.le_of_ble_eq_true rfl, Nat.le_of_ble_eq_true rfl⟩ (List.mem_of_getElem? (i := 0) rfl) rfl rfl rfl rfl (Nat.le_of_ble_eq_true rfl) dL_law_352 ⟨show cells + 3 + 0 ≤ 601024 by omega, show slots + 18 + 0 ≤ 7293034 by omega⟩ (fun r2 w hm => ?_)
  obtain ⟨V1, rfl, hm⟩ := hm
  refine g_comm ?_
  obtain ⟨hLB, kk, aa, hkk, hrh, hrm, h25, hans⟩ := mt_note hB hN2 rfl hq hm
  have e9 : kk = k9 := (nI_eq (by omega) (by omega)).mp (Value.int.inj (Option.some.inj (hrh.symm.trans hr9)))
  subst e9
  rw [hrm]
  refine g_istore C dL_law_355 (by decide) ?_
  first | refine g_aload_n C dL_law_357 rfl ?_ | refine g_aload_nq C _ dL_law_357 rfl ?_
  refine g_comm ?_
  refine f_callV C (F := cW g xa I1 O1 L1 K1 ++ [(xo, oE g f1)]) (W1 := mW g xm V1) (Cl := RX3) (ci := 3) (k_X3_thrown l D g _ xm V1 ) gL_law_X3_thrown rfl rfl rfl (n := 0) (by decide +kernel) ⟨Nat.le_of_ble_eq_true rfl, Nat.le_of_ble_eq_true rfl⟩ (List.mem_of_getElem? (i := 0) rfl) rfl rfl rfl rfl (Nat.le_of_ble_eq_true rfl) dL_law_358 ⟨show cells + 3 + 0 + 0 ≤ 601024 by omega, show slots + 18 + 0 + 0 ≤ 7293034 by omega⟩ (fun r2 w hm => ?_)
  obtain ⟨V2, rfl, e2, hr3⟩ := hm
  refine g_comm ?_
  rw [e2, hr3, h25]
  refine g_iload C dL_law_361 rfl ?_
  refine g_icmp_eq C 368 dL_law_363 (by decide) (by omega) (by omega) (fun c363 => ?_) (fun c363 => ?_)
  · refine g_iload C dL_law_368 rfl ?_
    refine g_if_ne C 385 dL_law_370 (by decide) (by omega) (fun c370 => ?_) (fun c370 => ?_)
    · refine g_goto C 1019 dL_law_385 (by decide) ?_
      exact g_lv (lv' := [(0, .ref b), (1, .ref (xa 0)), (2, .ref (xm 0)), (3, .ref xo), (4, .int (nI (4 * n)))]) lv56 (g_widen (by omega) (by omega) (k19 _ _ _ _ _ _ hLB))
    · first | refine g_aload_n C dL_law_373 rfl ?_ | refine g_aload_nq C _ dL_law_373 rfl ?_
      refine g_iconst C 0 dL_law_374 (by decide) ?_
      refine g_laload C dL_law_375 ?_
      refine g_iload C dL_law_376 rfl ?_
      refine g_i2l C dL_law_378 rfl ?_
      have hans9 : f1 0 = aa.toInt64 := hans c370
      refine g_lcmp_eq C (hans9) dL_law_379 ?_
      refine g_if_eq C 385 dL_law_380 (by decide) (by decide) (fun c380 => ?_) (fun c380 => absurd c380 (by decide))
      refine g_goto C 1019 dL_law_385 (by decide) ?_
      exact g_lv (lv' := [(0, .ref b), (1, .ref (xa 0)), (2, .ref (xm 0)), (3, .ref xo), (4, .int (nI (4 * n)))]) lv56 (g_widen (by omega) (by omega) (k19 _ _ _ _ _ _ hLB))
  · exact absurd rfl c363
set_option maxRecDepth 100000 in
set_option maxHeartbeats 1000000 in
theorem st_read {p : Program} {l : Launch} {e : Env} {s : State} {m : MethodId} {args : Array Value} {below : List Frame} {meth : Method} {c : Code} {Q : State → Prop} {D : va_G} {A : Nat → Prop} {g : Nat → ClassId} {xa xm : Nat → Nat} {xo b Ln n N cells slots : Nat} {xs : Nat → Int32} {V I : VV} {O : OO} {L : List Nat} {K : Nat → Nat} {f : Nat → Int64}
    (C : CX p s m args meth c code 7 wsL_law RL D (tyG g) A s.heap ret) (hst : l.stackTraces = false) (T9 : XTC A s) (hX : va_X b Ln xs s s.heap) (hbl : b < s.heap.size) (hbA : ¬ A b) (hLn : Ln ≤ 2048) (h4 : 4 * n + 4 ≤ Ln) (hN2 : 20000 ≤ N) (hN4 : N + 4000 ≤ 2 ^ 30) (hB : LB N V I O L K) (hc : cells + 250 ≤ 601024) (hs : slots + 700 ≤ 7293034)
    (k19 : ∀ (V' I' : VV) (O' : OO) (L' : List Nat) (K' : Nat → Nat) (f' : Nat → Int64), LB (N + 4000) V' I' O' L' K' → GG p l e room_1 s m args below meth c Q 7 D A s.heap ((cW g xa I' O' L' K' ++ [(xo, oE g f')]) ++ mW g xm V') (cells + 250) (slots + 700) 1019 [(0, .ref b), (1, .ref (xa 0)), (2, .ref (xm 0)), (3, .ref xo), (4, .int (nI (4 * n)))] []) : GG p l e room_1 s m args below meth c Q 7 D A s.heap ((cW g xa I O L K ++ [(xo, oE g f)]) ++ mW g xm V) cells slots 388 [(0, .ref b), (1, .ref (xa 0)), (2, .ref (xm 0)), (3, .ref xo), (4, .int (nI (4 * n)))] [] := by
  obtain ⟨hV, hBV, hBI, hrc, own, hR⟩ := id hB
  have hN : N ≤ 2 ^ 30 := by omega
  have hC := hV.1.1
  have hla := hV.1.lat
  have hrw := hV.1.rows
  obtain ⟨fs, hfs⟩ := cX_this g xa I O L K
  first | refine g_aload_n C dL_law_388 rfl ?_ | refine g_aload_nq C _ dL_law_388 rfl ?_
  first | refine g_aload_n C dL_law_389 rfl ?_ | refine g_aload_nq C _ dL_law_389 rfl ?_
  refine g_iload C dL_law_390 rfl ?_
  refine g_iconst C 1 dL_law_392 (by decide) ?_
  first | refine g_iadd C dL_law_393 ?_ | refine g_iaddx C dL_law_393 ?_
  refine g_sld C hX hbl hbA hLn dL_law_394 (by omega) ?_
  first | refine g_aload_n C dL_law_395 rfl ?_ | refine g_aload_nq C _ dL_law_395 rfl ?_
  refine g_iload C dL_law_396 rfl ?_
  refine g_iconst C 2 dL_law_398 (by decide) ?_
  first | refine g_iadd C dL_law_399 ?_ | refine g_iaddx C dL_law_399 ?_
  refine g_sld C hX hbl hbA hLn dL_law_400 (by omega) ?_
  first | refine g_aload_n C dL_law_401 rfl ?_ | refine g_aload_nq C _ dL_law_401 rfl ?_
  refine xf_callSX C T9 (F := mW g xm V) (W1 := cW g xa I O L K ++ [(xo, oE g f)]) (k_L_read l D g _ xa xo I O L K f (xs (4 * n + 1)) (xs (4 * n + 2)) (k_X2_read l hst D g _ xa I O L K hBI hN4 hN2 (hV.thrown 0) hR.thrown hrc (xs (4 * n + 1)) (xs (4 * n + 2))) (fun E h => h.elim (fun z => Or.inl z.1) (fun z => Or.inr z.1)) (fun r I9 O9 L9 K9 h => by obtain ⟨_, _, _, _, _, _, _, _, _, ⟨_, h⟩ | ⟨_, h⟩⟩ := h <;> exact ⟨_, h⟩)) gL_law_L_read rfl rfl rfl (n := 4) (by decide +kernel) ⟨Nat.le_of_ble_eq_true rfl, Nat.le_of_ble_eq_true rfl⟩ rfl rfl (Nat.le_of_ble_eq_true rfl) dL_law_402 ⟨show cells + 3 ≤ 601024 by omega, show slots + 18 ≤ 7293034 by omega⟩ (fun r w hq => ?_)
  obtain ⟨I1, O1, L1, K1, f1, rfl, hq⟩ := hq
  obtain ⟨k9, hk9, hr9⟩ : ∃ k9, k9 ≤ 2 ∧ r = some (.int (nI k9)) := by
    rcases hq with ⟨_, _, h, _⟩ | ⟨_, ⟨_, h⟩ | ⟨_, h⟩⟩
    · exact ⟨0, by decide, h⟩
    · exact ⟨1, by decide, h⟩
    · exact ⟨2, by decide, h⟩
  rw [hr9]
  refine g_istore C dL_law_405 (by decide) ?_
  first | refine g_aload_n C dL_law_407 rfl ?_ | refine g_aload_nq C _ dL_law_407 rfl ?_
  first | refine g_aload_n C dL_law_408 rfl ?_ | refine g_aload_nq C _ dL_law_408 rfl ?_
  refine g_iload C dL_law_409 rfl ?_
  refine g_iconst C 1 dL_law_411 (by decide) ?_
  first | refine g_iadd C dL_law_412 ?_ | refine g_iaddx C dL_law_412 ?_
  refine g_sld C hX hbl hbA hLn dL_law_413 (by omega) ?_
  first | refine g_aload_n C dL_law_414 rfl ?_ | refine g_aload_nq C _ dL_law_414 rfl ?_
  refine g_iload C dL_law_415 rfl ?_
  refine g_iconst C 2 dL_law_417 (by decide) ?_
  first | refine g_iadd C dL_law_418 ?_ | refine g_iaddx C dL_law_418 ?_
  refine g_sld C hX hbl hbA hLn dL_law_419 (by omega) ?_
  refine g_comm ?_
  refine f_callV C (F := cW g xa I1 O1 L1 K1 ++ [(xo, oE g f1)]) (W1 := mW g xm V) (Cl := RX3) (ci := 3) (k_X3_read l D g _ xm V hBV hN hC (by omega) (xs (4 * n + 1)) (xs (4 * n + 2))) gL_law_X3_read rfl rfl rfl (n := 2) (by decide +kernel) ⟨Nat.le_of_ble_eq_true rfl, Nat.le_of_ble_eq_true rfl⟩ (List.mem_of_getElem? (i := 0) rfl) rfl rfl rfl rfl (Nat.le_of_ble_eq_true rfl) dL_law_420 ⟨show cells + 3 + 0 ≤ 601024 by omega, show slots + 18 + 0 ≤ 7293034 by omega⟩ (fun r2 w hm => ?_)
  obtain ⟨V1, rfl, hm⟩ := hm
  refine g_comm ?_
  obtain ⟨hLB, kk, aa, hkk, hrh, hrm, h25, hans⟩ := mt_read hB hN2 rfl hq hm
  have e9 : kk = k9 := (nI_eq (by omega) (by omega)).mp (Value.int.inj (Option.some.inj (hrh.symm.trans hr9)))
  subst e9
  rw [hrm]
  refine g_istore C dL_law_423 (by decide) ?_
  first | refine g_aload_n C dL_law_425 rfl ?_ | refine g_aload_nq C _ dL_law_425 rfl ?_
  refine g_comm ?_
  refine f_callV C (F := cW g xa I1 O1 L1 K1 ++ [(xo, oE g f1)]) (W1 := mW g xm V1) (Cl := RX3) (ci := 3) (k_X3_thrown l D g _ xm V1 ) gL_law_X3_thrown rfl rfl rfl (n := 0) (by decide +kernel) ⟨Nat.le_of_ble_eq_true rfl, Nat.le_of_ble_eq_true rfl⟩ (List.mem_of_getElem? (i := 0) rfl) rfl rfl rfl rfl (Nat.le_of_ble_eq_true rfl) dL_law_426 ⟨show cells + 3 + 0 + 0 ≤ 601024 by omega, show slots + 18 + 0 + 0 ≤ 7293034 by omega⟩ (fun r2 w hm => ?_)
  obtain ⟨V2, rfl, e2, hr3⟩ := hm
  refine g_comm ?_
  rw [e2, hr3, h25]
  refine g_iload C dL_law_429 rfl ?_
  refine g_icmp_eq C 436 dL_law_431 (by decide) (by omega) (by omega) (fun c431 => ?_) (fun c431 => ?_)
  · refine g_iload C dL_law_436 rfl ?_
    refine g_if_ne C 460 dL_law_438 (by decide) (by omega) (fun c438 => ?_) (fun c438 => ?_)
    · refine g_goto C 1019 dL_law_460 (by decide) ?_
      exact g_lv (lv' := [(0, .ref b), (1, .ref (xa 0)), (2, .ref (xm 0)), (3, .ref xo), (4, .int (nI (4 * n)))]) lv56 (g_widen (by omega) (by omega) (k19 _ _ _ _ _ _ hLB))
    · first | refine g_aload_n C dL_law_441 rfl ?_ | refine g_aload_nq C _ dL_law_441 rfl ?_
      refine g_iconst C 0 dL_law_442 (by decide) ?_
      refine g_laload C dL_law_443 ?_
      refine g_iload C dL_law_444 rfl ?_
      refine g_ifx_eq C 453 dL_law_446 (by decide) (fun c446 => ?_) (fun c446 => ?_)
      · refine g_lconst C dL_law_453 rfl ?_
        have hans9 := (hans c438).trans (if_pos c446)
        refine g_lcmp_eq C (hans9) dL_law_454 ?_
        refine g_if_eq C 460 dL_law_455 (by decide) (by decide) (fun c455 => ?_) (fun c455 => absurd c455 (by decide))
        refine g_goto C 1019 dL_law_460 (by decide) ?_
        exact g_lv (lv' := [(0, .ref b), (1, .ref (xa 0)), (2, .ref (xm 0)), (3, .ref xo), (4, .int (nI (4 * n)))]) lv56 (g_widen (by omega) (by omega) (k19 _ _ _ _ _ _ hLB))
      · refine g_lconst C dL_law_449 rfl ?_
        refine g_goto C 454 dL_law_450 (by decide) ?_
        have hans9 := (hans c438).trans (if_neg c446)
        refine g_lcmp_eq C (hans9) dL_law_454 ?_
        refine g_if_eq C 460 dL_law_455 (by decide) (by decide) (fun c455 => ?_) (fun c455 => absurd c455 (by decide))
        refine g_goto C 1019 dL_law_460 (by decide) ?_
        exact g_lv (lv' := [(0, .ref b), (1, .ref (xa 0)), (2, .ref (xm 0)), (3, .ref xo), (4, .int (nI (4 * n)))]) lv56 (g_widen (by omega) (by omega) (k19 _ _ _ _ _ _ hLB))
  · exact absurd rfl c431
set_option maxRecDepth 100000 in
set_option maxHeartbeats 1000000 in
theorem st_told {p : Program} {l : Launch} {e : Env} {s : State} {m : MethodId} {args : Array Value} {below : List Frame} {meth : Method} {c : Code} {Q : State → Prop} {D : va_G} {A : Nat → Prop} {g : Nat → ClassId} {xa xm : Nat → Nat} {xo b Ln n N cells slots : Nat} {xs : Nat → Int32} {V I : VV} {O : OO} {L : List Nat} {K : Nat → Nat} {f : Nat → Int64}
    (C : CX p s m args meth c code 7 wsL_law RL D (tyG g) A s.heap ret) (hst : l.stackTraces = false) (T9 : XTC A s) (hX : va_X b Ln xs s s.heap) (hbl : b < s.heap.size) (hbA : ¬ A b) (hLn : Ln ≤ 2048) (h4 : 4 * n + 4 ≤ Ln) (hN2 : 20000 ≤ N) (hN4 : N + 4000 ≤ 2 ^ 30) (hB : LB N V I O L K) (hc : cells + 250 ≤ 601024) (hs : slots + 700 ≤ 7293034)
    (k19 : ∀ (V' I' : VV) (O' : OO) (L' : List Nat) (K' : Nat → Nat) (f' : Nat → Int64), LB (N + 4000) V' I' O' L' K' → GG p l e room_1 s m args below meth c Q 7 D A s.heap ((cW g xa I' O' L' K' ++ [(xo, oE g f')]) ++ mW g xm V') (cells + 250) (slots + 700) 1019 [(0, .ref b), (1, .ref (xa 0)), (2, .ref (xm 0)), (3, .ref xo), (4, .int (nI (4 * n)))] []) : GG p l e room_1 s m args below meth c Q 7 D A s.heap ((cW g xa I O L K ++ [(xo, oE g f)]) ++ mW g xm V) cells slots 463 [(0, .ref b), (1, .ref (xa 0)), (2, .ref (xm 0)), (3, .ref xo), (4, .int (nI (4 * n)))] [] := by
  obtain ⟨hV, hBV, hBI, hrc, own, hR⟩ := id hB
  have hN : N ≤ 2 ^ 30 := by omega
  have hC := hV.1.1
  have hla := hV.1.lat
  have hrw := hV.1.rows
  obtain ⟨fs, hfs⟩ := cX_this g xa I O L K
  first | refine g_aload_n C dL_law_463 rfl ?_ | refine g_aload_nq C _ dL_law_463 rfl ?_
  first | refine g_aload_n C dL_law_464 rfl ?_ | refine g_aload_nq C _ dL_law_464 rfl ?_
  refine g_iload C dL_law_465 rfl ?_
  refine g_iconst C 1 dL_law_467 (by decide) ?_
  first | refine g_iadd C dL_law_468 ?_ | refine g_iaddx C dL_law_468 ?_
  refine g_sld C hX hbl hbA hLn dL_law_469 (by omega) ?_
  first | refine g_aload_n C dL_law_470 rfl ?_ | refine g_aload_nq C _ dL_law_470 rfl ?_
  refine g_iload C dL_law_471 rfl ?_
  refine g_iconst C 2 dL_law_473 (by decide) ?_
  first | refine g_iadd C dL_law_474 ?_ | refine g_iaddx C dL_law_474 ?_
  refine g_sld C hX hbl hbA hLn dL_law_475 (by omega) ?_
  first | refine g_aload_n C dL_law_476 rfl ?_ | refine g_aload_nq C _ dL_law_476 rfl ?_
  refine xf_callSX C T9 (F := mW g xm V) (W1 := cW g xa I O L K ++ [(xo, oE g f)]) (k_L_told l D g _ xa xo I O L K f (xs (4 * n + 1)) (xs (4 * n + 2)) (k_X2_told l hst D g _ xa I O L K hBI hN4 hN2 (hV.thrown 0) hR.thrown hrc (xs (4 * n + 1)) (xs (4 * n + 2))) (fun E h => h.1) (fun r I9 O9 L9 K9 h => by obtain ⟨_, _, _, _, _, _, _, _, ⟨_, h⟩ | ⟨_, h⟩⟩ := h <;> exact ⟨_, h⟩)) gL_law_L_told rfl rfl rfl (n := 4) (by decide +kernel) ⟨Nat.le_of_ble_eq_true rfl, Nat.le_of_ble_eq_true rfl⟩ rfl rfl (Nat.le_of_ble_eq_true rfl) dL_law_477 ⟨show cells + 2 ≤ 601024 by omega, show slots + 12 ≤ 7293034 by omega⟩ (fun r w hq => ?_)
  obtain ⟨I1, O1, L1, K1, f1, rfl, hq⟩ := hq
  obtain ⟨k9, hk9, hr9⟩ : ∃ k9, k9 ≤ 2 ∧ r = some (.int (nI k9)) := by
    rcases hq with ⟨_, _, h, _⟩ | ⟨_, _, h⟩
    · exact ⟨0, by decide, h⟩
    · exact ⟨1, by decide, h⟩
  rw [hr9]
  refine g_istore C dL_law_480 (by decide) ?_
  first | refine g_aload_n C dL_law_482 rfl ?_ | refine g_aload_nq C _ dL_law_482 rfl ?_
  first | refine g_aload_n C dL_law_483 rfl ?_ | refine g_aload_nq C _ dL_law_483 rfl ?_
  refine g_iload C dL_law_484 rfl ?_
  refine g_iconst C 1 dL_law_486 (by decide) ?_
  first | refine g_iadd C dL_law_487 ?_ | refine g_iaddx C dL_law_487 ?_
  refine g_sld C hX hbl hbA hLn dL_law_488 (by omega) ?_
  first | refine g_aload_n C dL_law_489 rfl ?_ | refine g_aload_nq C _ dL_law_489 rfl ?_
  refine g_iload C dL_law_490 rfl ?_
  refine g_iconst C 2 dL_law_492 (by decide) ?_
  first | refine g_iadd C dL_law_493 ?_ | refine g_iaddx C dL_law_493 ?_
  refine g_sld C hX hbl hbA hLn dL_law_494 (by omega) ?_
  refine g_comm ?_
  refine f_callV C (F := cW g xa I1 O1 L1 K1 ++ [(xo, oE g f1)]) (W1 := mW g xm V) (Cl := RX3) (ci := 3) (k_X3_told l D g _ xm V hBV hN hC (by omega) (xs (4 * n + 1)) (xs (4 * n + 2))) gL_law_X3_told rfl rfl rfl (n := 2) (by decide +kernel) ⟨Nat.le_of_ble_eq_true rfl, Nat.le_of_ble_eq_true rfl⟩ (List.mem_of_getElem? (i := 0) rfl) rfl rfl rfl rfl (Nat.le_of_ble_eq_true rfl) dL_law_495 ⟨show cells + 2 + 0 ≤ 601024 by omega, show slots + 12 + 0 ≤ 7293034 by omega⟩ (fun r2 w hm => ?_)
  obtain ⟨V1, rfl, hm⟩ := hm
  refine g_comm ?_
  obtain ⟨hLB, kk, aa, hkk, hrh, hrm, h25, hans⟩ := mt_told hB hN2 rfl hq hm
  have e9 : kk = k9 := (nI_eq (by omega) (by omega)).mp (Value.int.inj (Option.some.inj (hrh.symm.trans hr9)))
  subst e9
  rw [hrm]
  refine g_istore C dL_law_498 (by decide) ?_
  first | refine g_aload_n C dL_law_500 rfl ?_ | refine g_aload_nq C _ dL_law_500 rfl ?_
  refine g_comm ?_
  refine f_callV C (F := cW g xa I1 O1 L1 K1 ++ [(xo, oE g f1)]) (W1 := mW g xm V1) (Cl := RX3) (ci := 3) (k_X3_thrown l D g _ xm V1 ) gL_law_X3_thrown rfl rfl rfl (n := 0) (by decide +kernel) ⟨Nat.le_of_ble_eq_true rfl, Nat.le_of_ble_eq_true rfl⟩ (List.mem_of_getElem? (i := 0) rfl) rfl rfl rfl rfl (Nat.le_of_ble_eq_true rfl) dL_law_501 ⟨show cells + 2 + 0 + 0 ≤ 601024 by omega, show slots + 12 + 0 + 0 ≤ 7293034 by omega⟩ (fun r2 w hm => ?_)
  obtain ⟨V2, rfl, e2, hr3⟩ := hm
  refine g_comm ?_
  rw [e2, hr3, h25]
  refine g_iload C dL_law_504 rfl ?_
  refine g_icmp_eq C 511 dL_law_506 (by decide) (by omega) (by omega) (fun c506 => ?_) (fun c506 => ?_)
  · refine g_iload C dL_law_511 rfl ?_
    refine g_if_ne C 535 dL_law_513 (by decide) (by omega) (fun c513 => ?_) (fun c513 => ?_)
    · refine g_goto C 1019 dL_law_535 (by decide) ?_
      exact g_lv (lv' := [(0, .ref b), (1, .ref (xa 0)), (2, .ref (xm 0)), (3, .ref xo), (4, .int (nI (4 * n)))]) lv56 (g_widen (by omega) (by omega) (k19 _ _ _ _ _ _ hLB))
    · first | refine g_aload_n C dL_law_516 rfl ?_ | refine g_aload_nq C _ dL_law_516 rfl ?_
      refine g_iconst C 0 dL_law_517 (by decide) ?_
      refine g_laload C dL_law_518 ?_
      refine g_iload C dL_law_519 rfl ?_
      refine g_ifx_eq C 528 dL_law_521 (by decide) (fun c521 => ?_) (fun c521 => ?_)
      · refine g_lconst C dL_law_528 rfl ?_
        have hans9 := (hans c513).trans (if_pos c521)
        refine g_lcmp_eq C (hans9) dL_law_529 ?_
        refine g_if_eq C 535 dL_law_530 (by decide) (by decide) (fun c530 => ?_) (fun c530 => absurd c530 (by decide))
        refine g_goto C 1019 dL_law_535 (by decide) ?_
        exact g_lv (lv' := [(0, .ref b), (1, .ref (xa 0)), (2, .ref (xm 0)), (3, .ref xo), (4, .int (nI (4 * n)))]) lv56 (g_widen (by omega) (by omega) (k19 _ _ _ _ _ _ hLB))
      · refine g_lconst C dL_law_524 rfl ?_
        refine g_goto C 529 dL_law_525 (by decide) ?_
        have hans9 := (hans c513).trans (if_neg c521)
        refine g_lcmp_eq C (hans9) dL_law_529 ?_
        refine g_if_eq C 535 dL_law_530 (by decide) (by decide) (fun c530 => ?_) (fun c530 => absurd c530 (by decide))
        refine g_goto C 1019 dL_law_535 (by decide) ?_
        exact g_lv (lv' := [(0, .ref b), (1, .ref (xa 0)), (2, .ref (xm 0)), (3, .ref xo), (4, .int (nI (4 * n)))]) lv56 (g_widen (by omega) (by omega) (k19 _ _ _ _ _ _ hLB))
  · exact absurd rfl c506
set_option maxRecDepth 100000 in
set_option maxHeartbeats 1000000 in
theorem st_commit {p : Program} {l : Launch} {e : Env} {s : State} {m : MethodId} {args : Array Value} {below : List Frame} {meth : Method} {c : Code} {Q : State → Prop} {D : va_G} {A : Nat → Prop} {g : Nat → ClassId} {xa xm : Nat → Nat} {xo b Ln n N cells slots : Nat} {xs : Nat → Int32} {V I : VV} {O : OO} {L : List Nat} {K : Nat → Nat} {f : Nat → Int64}
    (C : CX p s m args meth c code 7 wsL_law RL D (tyG g) A s.heap ret) (hst : l.stackTraces = false) (T9 : XTC A s) (hX : va_X b Ln xs s s.heap) (hbl : b < s.heap.size) (hbA : ¬ A b) (hLn : Ln ≤ 2048) (h4 : 4 * n + 4 ≤ Ln) (hN2 : 20000 ≤ N) (hN4 : N + 4000 ≤ 2 ^ 30) (hB : LB N V I O L K) (hc : cells + 250 ≤ 601024) (hs : slots + 700 ≤ 7293034)
    (k19 : ∀ (V' I' : VV) (O' : OO) (L' : List Nat) (K' : Nat → Nat) (f' : Nat → Int64), LB (N + 4000) V' I' O' L' K' → GG p l e room_1 s m args below meth c Q 7 D A s.heap ((cW g xa I' O' L' K' ++ [(xo, oE g f')]) ++ mW g xm V') (cells + 250) (slots + 700) 1019 [(0, .ref b), (1, .ref (xa 0)), (2, .ref (xm 0)), (3, .ref xo), (4, .int (nI (4 * n)))] []) : GG p l e room_1 s m args below meth c Q 7 D A s.heap ((cW g xa I O L K ++ [(xo, oE g f)]) ++ mW g xm V) cells slots 538 [(0, .ref b), (1, .ref (xa 0)), (2, .ref (xm 0)), (3, .ref xo), (4, .int (nI (4 * n)))] [] := by
  obtain ⟨hV, hBV, hBI, hrc, own, hR⟩ := id hB
  have hN : N ≤ 2 ^ 30 := by omega
  have hC := hV.1.1
  have hla := hV.1.lat
  have hrw := hV.1.rows
  obtain ⟨fs, hfs⟩ := cX_this g xa I O L K
  first | refine g_aload_n C dL_law_538 rfl ?_ | refine g_aload_nq C _ dL_law_538 rfl ?_
  first | refine g_aload_n C dL_law_539 rfl ?_ | refine g_aload_nq C _ dL_law_539 rfl ?_
  refine g_iload C dL_law_540 rfl ?_
  refine g_iconst C 1 dL_law_542 (by decide) ?_
  first | refine g_iadd C dL_law_543 ?_ | refine g_iaddx C dL_law_543 ?_
  refine g_sld C hX hbl hbA hLn dL_law_544 (by omega) ?_
  first | refine g_aload_n C dL_law_545 rfl ?_ | refine g_aload_nq C _ dL_law_545 rfl ?_
  refine xf_callSX C T9 (F := mW g xm V) (W1 := cW g xa I O L K ++ [(xo, oE g f)]) (k_L_commit l D g _ xa xo I O L K f (xs (4 * n + 1)) (k_X2_commit l hst D g _ xa I O L K hBI hN4 hN2 (hV.thrown 0) hR.thrown hrc (xs (4 * n + 1))) (fun E h => h.elim (fun z => Or.inl z.1) (fun z => Or.inr z.1)) (fun r I9 O9 L9 K9 h => by obtain ⟨_, _, _, _, _, ⟨_, _, h⟩ | ⟨_, _, h⟩⟩ := h <;> exact ⟨_, h⟩)) gL_law_L_commit rfl rfl rfl (n := 3) (by decide +kernel) ⟨Nat.le_of_ble_eq_true rfl, Nat.le_of_ble_eq_true rfl⟩ rfl rfl (Nat.le_of_ble_eq_true rfl) dL_law_546 ⟨show cells + 203 ≤ 601024 by omega, show slots + 618 ≤ 7293034 by omega⟩ (fun r w hq => ?_)
  obtain ⟨I1, O1, L1, K1, f1, rfl, hq⟩ := hq
  obtain ⟨k9, hk9, hr9⟩ : ∃ k9, k9 ≤ 2 ∧ r = some (.int (nI k9)) := by
    rcases hq with ⟨_, _, h, _⟩ | ⟨_, ⟨_, h⟩ | ⟨_, h⟩⟩
    · exact ⟨0, by decide, h⟩
    · exact ⟨1, by decide, h⟩
    · exact ⟨2, by decide, h⟩
  rw [hr9]
  refine g_istore C dL_law_549 (by decide) ?_
  first | refine g_aload_n C dL_law_551 rfl ?_ | refine g_aload_nq C _ dL_law_551 rfl ?_
  first | refine g_aload_n C dL_law_552 rfl ?_ | refine g_aload_nq C _ dL_law_552 rfl ?_
  refine g_iload C dL_law_553 rfl ?_
  refine g_iconst C 1 dL_law_555 (by decide) ?_
  first | refine g_iadd C dL_law_556 ?_ | refine g_iaddx C dL_law_556 ?_
  refine g_sld C hX hbl hbA hLn dL_law_557 (by omega) ?_
  refine g_comm ?_
  refine f_callV C (F := cW g xa I1 O1 L1 K1 ++ [(xo, oE g f1)]) (W1 := mW g xm V) (Cl := RX3) (ci := 3) (k_X3_commit l D g _ xm V hBV hN hN2 hV.1 hN4 hV.2.2.2.1.1 (xs (4 * n + 1))) gL_law_X3_commit rfl rfl rfl (n := 1) (by decide +kernel) ⟨Nat.le_of_ble_eq_true rfl, Nat.le_of_ble_eq_true rfl⟩ (List.mem_of_getElem? (i := 0) rfl) rfl rfl rfl rfl (Nat.le_of_ble_eq_true rfl) dL_law_558 ⟨show cells + 203 + 0 ≤ 601024 by omega, show slots + 618 + 0 ≤ 7293034 by omega⟩ (fun r2 w hm => ?_)
  obtain ⟨V1, rfl, hm⟩ := hm
  refine g_comm ?_
  obtain ⟨hLB, kk, aa, hkk, hrh, hrm, h25, hans⟩ := mt_commit hB hN2 rfl hq hm
  have e9 : kk = k9 := (nI_eq (by omega) (by omega)).mp (Value.int.inj (Option.some.inj (hrh.symm.trans hr9)))
  subst e9
  rw [hrm]
  refine g_istore C dL_law_561 (by decide) ?_
  first | refine g_aload_n C dL_law_563 rfl ?_ | refine g_aload_nq C _ dL_law_563 rfl ?_
  refine g_comm ?_
  refine f_callV C (F := cW g xa I1 O1 L1 K1 ++ [(xo, oE g f1)]) (W1 := mW g xm V1) (Cl := RX3) (ci := 3) (k_X3_thrown l D g _ xm V1 ) gL_law_X3_thrown rfl rfl rfl (n := 0) (by decide +kernel) ⟨Nat.le_of_ble_eq_true rfl, Nat.le_of_ble_eq_true rfl⟩ (List.mem_of_getElem? (i := 0) rfl) rfl rfl rfl rfl (Nat.le_of_ble_eq_true rfl) dL_law_564 ⟨show cells + 203 + 0 + 0 ≤ 601024 by omega, show slots + 618 + 0 + 0 ≤ 7293034 by omega⟩ (fun r2 w hm => ?_)
  obtain ⟨V2, rfl, e2, hr3⟩ := hm
  refine g_comm ?_
  rw [e2, hr3, h25]
  refine g_iload C dL_law_567 rfl ?_
  refine g_icmp_eq C 574 dL_law_569 (by decide) (by omega) (by omega) (fun c569 => ?_) (fun c569 => ?_)
  · refine g_iload C dL_law_574 rfl ?_
    refine g_if_ne C 591 dL_law_576 (by decide) (by omega) (fun c576 => ?_) (fun c576 => ?_)
    · refine g_goto C 1019 dL_law_591 (by decide) ?_
      exact g_lv (lv' := [(0, .ref b), (1, .ref (xa 0)), (2, .ref (xm 0)), (3, .ref xo), (4, .int (nI (4 * n)))]) lv56 (g_widen (by omega) (by omega) (k19 _ _ _ _ _ _ hLB))
    · first | refine g_aload_n C dL_law_579 rfl ?_ | refine g_aload_nq C _ dL_law_579 rfl ?_
      refine g_iconst C 0 dL_law_580 (by decide) ?_
      refine g_laload C dL_law_581 ?_
      refine g_iload C dL_law_582 rfl ?_
      refine g_i2l C dL_law_584 rfl ?_
      have hans9 : f1 0 = aa.toInt64 := hans c576
      refine g_lcmp_eq C (hans9) dL_law_585 ?_
      refine g_if_eq C 591 dL_law_586 (by decide) (by decide) (fun c586 => ?_) (fun c586 => absurd c586 (by decide))
      refine g_goto C 1019 dL_law_591 (by decide) ?_
      exact g_lv (lv' := [(0, .ref b), (1, .ref (xa 0)), (2, .ref (xm 0)), (3, .ref xo), (4, .int (nI (4 * n)))]) lv56 (g_widen (by omega) (by omega) (k19 _ _ _ _ _ _ hLB))
  · exact absurd rfl c569
set_option maxRecDepth 100000 in
set_option maxHeartbeats 1000000 in
theorem st_abort {p : Program} {l : Launch} {e : Env} {s : State} {m : MethodId} {args : Array Value} {below : List Frame} {meth : Method} {c : Code} {Q : State → Prop} {D : va_G} {A : Nat → Prop} {g : Nat → ClassId} {xa xm : Nat → Nat} {xo b Ln n N cells slots : Nat} {xs : Nat → Int32} {V I : VV} {O : OO} {L : List Nat} {K : Nat → Nat} {f : Nat → Int64}
    (C : CX p s m args meth c code 7 wsL_law RL D (tyG g) A s.heap ret) (hst : l.stackTraces = false) (T9 : XTC A s) (hX : va_X b Ln xs s s.heap) (hbl : b < s.heap.size) (hbA : ¬ A b) (hLn : Ln ≤ 2048) (h4 : 4 * n + 4 ≤ Ln) (hN2 : 20000 ≤ N) (hN4 : N + 4000 ≤ 2 ^ 30) (hB : LB N V I O L K) (hc : cells + 250 ≤ 601024) (hs : slots + 700 ≤ 7293034)
    (k19 : ∀ (V' I' : VV) (O' : OO) (L' : List Nat) (K' : Nat → Nat) (f' : Nat → Int64), LB (N + 4000) V' I' O' L' K' → GG p l e room_1 s m args below meth c Q 7 D A s.heap ((cW g xa I' O' L' K' ++ [(xo, oE g f')]) ++ mW g xm V') (cells + 250) (slots + 700) 1019 [(0, .ref b), (1, .ref (xa 0)), (2, .ref (xm 0)), (3, .ref xo), (4, .int (nI (4 * n)))] []) : GG p l e room_1 s m args below meth c Q 7 D A s.heap ((cW g xa I O L K ++ [(xo, oE g f)]) ++ mW g xm V) cells slots 594 [(0, .ref b), (1, .ref (xa 0)), (2, .ref (xm 0)), (3, .ref xo), (4, .int (nI (4 * n)))] [] := by
  obtain ⟨hV, hBV, hBI, hrc, own, hR⟩ := id hB
  have hN : N ≤ 2 ^ 30 := by omega
  have hC := hV.1.1
  have hla := hV.1.lat
  have hrw := hV.1.rows
  obtain ⟨fs, hfs⟩ := cX_this g xa I O L K
  first | refine g_aload_n C dL_law_594 rfl ?_ | refine g_aload_nq C _ dL_law_594 rfl ?_
  first | refine g_aload_n C dL_law_595 rfl ?_ | refine g_aload_nq C _ dL_law_595 rfl ?_
  refine g_iload C dL_law_596 rfl ?_
  refine g_iconst C 1 dL_law_598 (by decide) ?_
  first | refine g_iadd C dL_law_599 ?_ | refine g_iaddx C dL_law_599 ?_
  refine g_sld C hX hbl hbA hLn dL_law_600 (by omega) ?_
  first | refine g_aload_n C dL_law_601 rfl ?_ | refine g_aload_nq C _ dL_law_601 rfl ?_
  refine xf_callSX C T9 (F := mW g xm V) (W1 := cW g xa I O L K ++ [(xo, oE g f)]) (k_L_abort l D g _ xa xo I O L K f (xs (4 * n + 1)) (k_X2_abort l hst D g _ xa I O L K hBI hN4 hN2 (hV.thrown 0) hR.thrown hrc (xs (4 * n + 1))) (fun E h => h.elim (fun z => Or.inl z.1) (fun z => Or.inr z.1)) (fun r I9 O9 L9 K9 h => by obtain ⟨_, _, _, _, _, _, h⟩ := h; exact ⟨_, h⟩)) gL_law_L_abort rfl rfl rfl (n := 3) (by decide +kernel) ⟨Nat.le_of_ble_eq_true rfl, Nat.le_of_ble_eq_true rfl⟩ rfl rfl (Nat.le_of_ble_eq_true rfl) dL_law_602 ⟨show cells + 2 ≤ 601024 by omega, show slots + 12 ≤ 7293034 by omega⟩ (fun r w hq => ?_)
  obtain ⟨I1, O1, L1, K1, f1, rfl, hq⟩ := hq
  obtain ⟨k9, hk9, hr9⟩ : ∃ k9, k9 ≤ 2 ∧ r = some (.int (nI k9)) := by
    rcases hq with ⟨_, _, h, _⟩ | ⟨_, ⟨_, h⟩ | ⟨_, h⟩⟩
    · exact ⟨0, by decide, h⟩
    · exact ⟨1, by decide, h⟩
    · exact ⟨2, by decide, h⟩
  rw [hr9]
  refine g_istore C dL_law_605 (by decide) ?_
  first | refine g_aload_n C dL_law_607 rfl ?_ | refine g_aload_nq C _ dL_law_607 rfl ?_
  first | refine g_aload_n C dL_law_608 rfl ?_ | refine g_aload_nq C _ dL_law_608 rfl ?_
  refine g_iload C dL_law_609 rfl ?_
  refine g_iconst C 1 dL_law_611 (by decide) ?_
  first | refine g_iadd C dL_law_612 ?_ | refine g_iaddx C dL_law_612 ?_
  refine g_sld C hX hbl hbA hLn dL_law_613 (by omega) ?_
  refine g_comm ?_
  refine f_callV C (F := cW g xa I1 O1 L1 K1 ++ [(xo, oE g f1)]) (W1 := mW g xm V) (Cl := RX3) (ci := 3) (k_X3_abort l D g _ xm V hBV hN hN2 hV.1 hN4 (xs (4 * n + 1))) gL_law_X3_abort rfl rfl rfl (n := 1) (by decide +kernel) ⟨Nat.le_of_ble_eq_true rfl, Nat.le_of_ble_eq_true rfl⟩ (List.mem_of_getElem? (i := 0) rfl) rfl rfl rfl rfl (Nat.le_of_ble_eq_true rfl) dL_law_614 ⟨show cells + 2 + 0 ≤ 601024 by omega, show slots + 12 + 0 ≤ 7293034 by omega⟩ (fun r2 w hm => ?_)
  obtain ⟨V1, rfl, hm⟩ := hm
  refine g_comm ?_
  obtain ⟨hLB, kk, aa, hkk, hrh, hrm, h25, hans⟩ := mt_abort hB hN2 rfl hq hm
  have e9 : kk = k9 := (nI_eq (by omega) (by omega)).mp (Value.int.inj (Option.some.inj (hrh.symm.trans hr9)))
  subst e9
  rw [hrm]
  refine g_istore C dL_law_617 (by decide) ?_
  first | refine g_aload_n C dL_law_619 rfl ?_ | refine g_aload_nq C _ dL_law_619 rfl ?_
  refine g_comm ?_
  refine f_callV C (F := cW g xa I1 O1 L1 K1 ++ [(xo, oE g f1)]) (W1 := mW g xm V1) (Cl := RX3) (ci := 3) (k_X3_thrown l D g _ xm V1 ) gL_law_X3_thrown rfl rfl rfl (n := 0) (by decide +kernel) ⟨Nat.le_of_ble_eq_true rfl, Nat.le_of_ble_eq_true rfl⟩ (List.mem_of_getElem? (i := 0) rfl) rfl rfl rfl rfl (Nat.le_of_ble_eq_true rfl) dL_law_620 ⟨show cells + 2 + 0 + 0 ≤ 601024 by omega, show slots + 12 + 0 + 0 ≤ 7293034 by omega⟩ (fun r2 w hm => ?_)
  obtain ⟨V2, rfl, e2, hr3⟩ := hm
  refine g_comm ?_
  rw [e2, hr3, h25]
  refine g_iload C dL_law_623 rfl ?_
  refine g_icmp_eq C 630 dL_law_625 (by decide) (by omega) (by omega) (fun c625 => ?_) (fun c625 => ?_)
  · refine g_iload C dL_law_630 rfl ?_
    refine g_if_ne C 647 dL_law_632 (by decide) (by omega) (fun c632 => ?_) (fun c632 => ?_)
    · refine g_goto C 1019 dL_law_647 (by decide) ?_
      exact g_lv (lv' := [(0, .ref b), (1, .ref (xa 0)), (2, .ref (xm 0)), (3, .ref xo), (4, .int (nI (4 * n)))]) lv56 (g_widen (by omega) (by omega) (k19 _ _ _ _ _ _ hLB))
    · first | refine g_aload_n C dL_law_635 rfl ?_ | refine g_aload_nq C _ dL_law_635 rfl ?_
      refine g_iconst C 0 dL_law_636 (by decide) ?_
      refine g_laload C dL_law_637 ?_
      refine g_iload C dL_law_638 rfl ?_
      refine g_i2l C dL_law_640 rfl ?_
      have hans9 : f1 0 = aa.toInt64 := hans c632
      refine g_lcmp_eq C (hans9) dL_law_641 ?_
      refine g_if_eq C 647 dL_law_642 (by decide) (by decide) (fun c642 => ?_) (fun c642 => absurd c642 (by decide))
      refine g_goto C 1019 dL_law_647 (by decide) ?_
      exact g_lv (lv' := [(0, .ref b), (1, .ref (xa 0)), (2, .ref (xm 0)), (3, .ref xo), (4, .int (nI (4 * n)))]) lv56 (g_widen (by omega) (by omega) (k19 _ _ _ _ _ _ hLB))
  · exact absurd rfl c625
set_option maxRecDepth 100000 in
set_option maxHeartbeats 1000000 in
theorem st_pin {p : Program} {l : Launch} {e : Env} {s : State} {m : MethodId} {args : Array Value} {below : List Frame} {meth : Method} {c : Code} {Q : State → Prop} {D : va_G} {A : Nat → Prop} {g : Nat → ClassId} {xa xm : Nat → Nat} {xo b Ln n N cells slots : Nat} {xs : Nat → Int32} {V I : VV} {O : OO} {L : List Nat} {K : Nat → Nat} {f : Nat → Int64}
    (C : CX p s m args meth c code 7 wsL_law RL D (tyG g) A s.heap ret) (hst : l.stackTraces = false) (T9 : XTC A s) (hX : va_X b Ln xs s s.heap) (hbl : b < s.heap.size) (hbA : ¬ A b) (hLn : Ln ≤ 2048) (h4 : 4 * n + 4 ≤ Ln) (hN2 : 20000 ≤ N) (hN4 : N + 4000 ≤ 2 ^ 30) (hB : LB N V I O L K) (hc : cells + 250 ≤ 601024) (hs : slots + 700 ≤ 7293034)
    (k19 : ∀ (V' I' : VV) (O' : OO) (L' : List Nat) (K' : Nat → Nat) (f' : Nat → Int64), LB (N + 4000) V' I' O' L' K' → GG p l e room_1 s m args below meth c Q 7 D A s.heap ((cW g xa I' O' L' K' ++ [(xo, oE g f')]) ++ mW g xm V') (cells + 250) (slots + 700) 1019 [(0, .ref b), (1, .ref (xa 0)), (2, .ref (xm 0)), (3, .ref xo), (4, .int (nI (4 * n)))] []) : GG p l e room_1 s m args below meth c Q 7 D A s.heap ((cW g xa I O L K ++ [(xo, oE g f)]) ++ mW g xm V) cells slots 650 [(0, .ref b), (1, .ref (xa 0)), (2, .ref (xm 0)), (3, .ref xo), (4, .int (nI (4 * n)))] [] := by
  obtain ⟨hV, hBV, hBI, hrc, own, hR⟩ := id hB
  have hN : N ≤ 2 ^ 30 := by omega
  have hC := hV.1.1
  have hla := hV.1.lat
  have hrw := hV.1.rows
  obtain ⟨fs, hfs⟩ := cX_this g xa I O L K
  first | refine g_aload_n C dL_law_650 rfl ?_ | refine g_aload_nq C _ dL_law_650 rfl ?_
  first | refine g_aload_n C dL_law_651 rfl ?_ | refine g_aload_nq C _ dL_law_651 rfl ?_
  refine g_iload C dL_law_652 rfl ?_
  refine g_iconst C 1 dL_law_654 (by decide) ?_
  first | refine g_iadd C dL_law_655 ?_ | refine g_iaddx C dL_law_655 ?_
  refine g_sld C hX hbl hbA hLn dL_law_656 (by omega) ?_
  first | refine g_aload_n C dL_law_657 rfl ?_ | refine g_aload_nq C _ dL_law_657 rfl ?_
  refine xf_callSX C T9 (F := mW g xm V) (W1 := cW g xa I O L K ++ [(xo, oE g f)]) (k_L_pin l D g _ xa xo I O L K f (xs (4 * n + 1)) (k_X2_pin l hst D g _ xa I O L K hBI hN4 hN2 (hV.thrown 0) hR.thrown hrc (xs (4 * n + 1))) (fun E h => h.1) (fun r I9 O9 L9 K9 h => by obtain ⟨_, _, _, _, _, h⟩ := h; exact ⟨_, h⟩)) gL_law_L_pin rfl rfl rfl (n := 3) (by decide +kernel) ⟨Nat.le_of_ble_eq_true rfl, Nat.le_of_ble_eq_true rfl⟩ rfl rfl (Nat.le_of_ble_eq_true rfl) dL_law_658 ⟨show cells + 1 ≤ 601024 by omega, show slots + 6 ≤ 7293034 by omega⟩ (fun r w hq => ?_)
  obtain ⟨I1, O1, L1, K1, f1, rfl, hq⟩ := hq
  obtain ⟨k9, hk9, hr9⟩ : ∃ k9, k9 ≤ 2 ∧ r = some (.int (nI k9)) := by
    rcases hq with ⟨_, _, h, _⟩ | ⟨_, _, h⟩
    · exact ⟨0, by decide, h⟩
    · exact ⟨1, by decide, h⟩
  rw [hr9]
  refine g_istore C dL_law_661 (by decide) ?_
  first | refine g_aload_n C dL_law_663 rfl ?_ | refine g_aload_nq C _ dL_law_663 rfl ?_
  first | refine g_aload_n C dL_law_664 rfl ?_ | refine g_aload_nq C _ dL_law_664 rfl ?_
  refine g_iload C dL_law_665 rfl ?_
  refine g_iconst C 1 dL_law_667 (by decide) ?_
  first | refine g_iadd C dL_law_668 ?_ | refine g_iaddx C dL_law_668 ?_
  refine g_sld C hX hbl hbA hLn dL_law_669 (by omega) ?_
  refine g_comm ?_
  refine f_callV C (F := cW g xa I1 O1 L1 K1 ++ [(xo, oE g f1)]) (W1 := mW g xm V) (Cl := RX3) (ci := 3) (k_X3_pin l D g _ xm V hBV hN hC hla (xs (4 * n + 1))) gL_law_X3_pin rfl rfl rfl (n := 1) (by decide +kernel) ⟨Nat.le_of_ble_eq_true rfl, Nat.le_of_ble_eq_true rfl⟩ (List.mem_of_getElem? (i := 0) rfl) rfl rfl rfl rfl (Nat.le_of_ble_eq_true rfl) dL_law_670 ⟨show cells + 1 + 0 ≤ 601024 by omega, show slots + 6 + 0 ≤ 7293034 by omega⟩ (fun r2 w hm => ?_)
  obtain ⟨V1, rfl, hm⟩ := hm
  refine g_comm ?_
  obtain ⟨hLB, kk, aa, hkk, hrh, hrm, h25, hans⟩ := mt_pin hB hN2 rfl hq hm
  have e9 : kk = k9 := (nI_eq (by omega) (by omega)).mp (Value.int.inj (Option.some.inj (hrh.symm.trans hr9)))
  subst e9
  rw [hrm]
  refine g_istore C dL_law_673 (by decide) ?_
  first | refine g_aload_n C dL_law_675 rfl ?_ | refine g_aload_nq C _ dL_law_675 rfl ?_
  refine g_comm ?_
  refine f_callV C (F := cW g xa I1 O1 L1 K1 ++ [(xo, oE g f1)]) (W1 := mW g xm V1) (Cl := RX3) (ci := 3) (k_X3_thrown l D g _ xm V1 ) gL_law_X3_thrown rfl rfl rfl (n := 0) (by decide +kernel) ⟨Nat.le_of_ble_eq_true rfl, Nat.le_of_ble_eq_true rfl⟩ (List.mem_of_getElem? (i := 0) rfl) rfl rfl rfl rfl (Nat.le_of_ble_eq_true rfl) dL_law_676 ⟨show cells + 1 + 0 + 0 ≤ 601024 by omega, show slots + 6 + 0 + 0 ≤ 7293034 by omega⟩ (fun r2 w hm => ?_)
  obtain ⟨V2, rfl, e2, hr3⟩ := hm
  refine g_comm ?_
  rw [e2, hr3, h25]
  refine g_iload C dL_law_679 rfl ?_
  refine g_icmp_eq C 686 dL_law_681 (by decide) (by omega) (by omega) (fun c681 => ?_) (fun c681 => ?_)
  · refine g_iload C dL_law_686 rfl ?_
    refine g_if_ne C 703 dL_law_688 (by decide) (by omega) (fun c688 => ?_) (fun c688 => ?_)
    · refine g_goto C 1019 dL_law_703 (by decide) ?_
      exact g_lv (lv' := [(0, .ref b), (1, .ref (xa 0)), (2, .ref (xm 0)), (3, .ref xo), (4, .int (nI (4 * n)))]) lv56 (g_widen (by omega) (by omega) (k19 _ _ _ _ _ _ hLB))
    · first | refine g_aload_n C dL_law_691 rfl ?_ | refine g_aload_nq C _ dL_law_691 rfl ?_
      refine g_iconst C 0 dL_law_692 (by decide) ?_
      refine g_laload C dL_law_693 ?_
      refine g_iload C dL_law_694 rfl ?_
      refine g_i2l C dL_law_696 rfl ?_
      have hans9 : f1 0 = aa.toInt64 := hans c688
      refine g_lcmp_eq C (hans9) dL_law_697 ?_
      refine g_if_eq C 703 dL_law_698 (by decide) (by decide) (fun c698 => ?_) (fun c698 => absurd c698 (by decide))
      refine g_goto C 1019 dL_law_703 (by decide) ?_
      exact g_lv (lv' := [(0, .ref b), (1, .ref (xa 0)), (2, .ref (xm 0)), (3, .ref xo), (4, .int (nI (4 * n)))]) lv56 (g_widen (by omega) (by omega) (k19 _ _ _ _ _ _ hLB))
  · exact absurd rfl c681
set_option maxRecDepth 100000 in
set_option maxHeartbeats 1000000 in
theorem st_unpin {p : Program} {l : Launch} {e : Env} {s : State} {m : MethodId} {args : Array Value} {below : List Frame} {meth : Method} {c : Code} {Q : State → Prop} {D : va_G} {A : Nat → Prop} {g : Nat → ClassId} {xa xm : Nat → Nat} {xo b Ln n N cells slots : Nat} {xs : Nat → Int32} {V I : VV} {O : OO} {L : List Nat} {K : Nat → Nat} {f : Nat → Int64}
    (C : CX p s m args meth c code 7 wsL_law RL D (tyG g) A s.heap ret) (hst : l.stackTraces = false) (T9 : XTC A s) (hX : va_X b Ln xs s s.heap) (hbl : b < s.heap.size) (hbA : ¬ A b) (hLn : Ln ≤ 2048) (h4 : 4 * n + 4 ≤ Ln) (hN2 : 20000 ≤ N) (hN4 : N + 4000 ≤ 2 ^ 30) (hB : LB N V I O L K) (hc : cells + 250 ≤ 601024) (hs : slots + 700 ≤ 7293034)
    (k19 : ∀ (V' I' : VV) (O' : OO) (L' : List Nat) (K' : Nat → Nat) (f' : Nat → Int64), LB (N + 4000) V' I' O' L' K' → GG p l e room_1 s m args below meth c Q 7 D A s.heap ((cW g xa I' O' L' K' ++ [(xo, oE g f')]) ++ mW g xm V') (cells + 250) (slots + 700) 1019 [(0, .ref b), (1, .ref (xa 0)), (2, .ref (xm 0)), (3, .ref xo), (4, .int (nI (4 * n)))] []) : GG p l e room_1 s m args below meth c Q 7 D A s.heap ((cW g xa I O L K ++ [(xo, oE g f)]) ++ mW g xm V) cells slots 706 [(0, .ref b), (1, .ref (xa 0)), (2, .ref (xm 0)), (3, .ref xo), (4, .int (nI (4 * n)))] [] := by
  obtain ⟨hV, hBV, hBI, hrc, own, hR⟩ := id hB
  have hN : N ≤ 2 ^ 30 := by omega
  have hC := hV.1.1
  have hla := hV.1.lat
  have hrw := hV.1.rows
  obtain ⟨fs, hfs⟩ := cX_this g xa I O L K
  first | refine g_aload_n C dL_law_706 rfl ?_ | refine g_aload_nq C _ dL_law_706 rfl ?_
  first | refine g_aload_n C dL_law_707 rfl ?_ | refine g_aload_nq C _ dL_law_707 rfl ?_
  refine g_iload C dL_law_708 rfl ?_
  refine g_iconst C 1 dL_law_710 (by decide) ?_
  first | refine g_iadd C dL_law_711 ?_ | refine g_iaddx C dL_law_711 ?_
  refine g_sld C hX hbl hbA hLn dL_law_712 (by omega) ?_
  first | refine g_aload_n C dL_law_713 rfl ?_ | refine g_aload_nq C _ dL_law_713 rfl ?_
  refine xf_callSX C T9 (F := mW g xm V) (W1 := cW g xa I O L K ++ [(xo, oE g f)]) (k_L_unpin l D g _ xa xo I O L K f (xs (4 * n + 1)) (k_X2_unpin l hst D g _ xa I O L K hBI hN4 hN2 (hV.thrown 0) hR.thrown hrc (xs (4 * n + 1))) (fun E h => h.1) (fun r I9 O9 L9 K9 h => by obtain ⟨_, _, _, _, _, h⟩ := h; exact ⟨_, h⟩)) gL_law_L_unpin rfl rfl rfl (n := 3) (by decide +kernel) ⟨Nat.le_of_ble_eq_true rfl, Nat.le_of_ble_eq_true rfl⟩ rfl rfl (Nat.le_of_ble_eq_true rfl) dL_law_714 ⟨show cells + 1 ≤ 601024 by omega, show slots + 6 ≤ 7293034 by omega⟩ (fun r w hq => ?_)
  obtain ⟨I1, O1, L1, K1, f1, rfl, hq⟩ := hq
  obtain ⟨k9, hk9, hr9⟩ : ∃ k9, k9 ≤ 2 ∧ r = some (.int (nI k9)) := by
    rcases hq with ⟨_, _, h, _⟩ | ⟨_, _, h⟩
    · exact ⟨0, by decide, h⟩
    · exact ⟨1, by decide, h⟩
  rw [hr9]
  refine g_istore C dL_law_717 (by decide) ?_
  first | refine g_aload_n C dL_law_719 rfl ?_ | refine g_aload_nq C _ dL_law_719 rfl ?_
  first | refine g_aload_n C dL_law_720 rfl ?_ | refine g_aload_nq C _ dL_law_720 rfl ?_
  refine g_iload C dL_law_721 rfl ?_
  refine g_iconst C 1 dL_law_723 (by decide) ?_
  first | refine g_iadd C dL_law_724 ?_ | refine g_iaddx C dL_law_724 ?_
  refine g_sld C hX hbl hbA hLn dL_law_725 (by omega) ?_
  refine g_comm ?_
  refine f_callV C (F := cW g xa I1 O1 L1 K1 ++ [(xo, oE g f1)]) (W1 := mW g xm V) (Cl := RX3) (ci := 3) (k_X3_unpin l D g _ xm V hBV hN (xs (4 * n + 1))) gL_law_X3_unpin rfl rfl rfl (n := 1) (by decide +kernel) ⟨Nat.le_of_ble_eq_true rfl, Nat.le_of_ble_eq_true rfl⟩ (List.mem_of_getElem? (i := 0) rfl) rfl rfl rfl rfl (Nat.le_of_ble_eq_true rfl) dL_law_726 ⟨show cells + 1 + 0 ≤ 601024 by omega, show slots + 6 + 0 ≤ 7293034 by omega⟩ (fun r2 w hm => ?_)
  obtain ⟨V1, rfl, hm⟩ := hm
  refine g_comm ?_
  obtain ⟨hLB, kk, aa, hkk, hrh, hrm, h25, hans⟩ := mt_unpin hB hN2 rfl hq hm
  have e9 : kk = k9 := (nI_eq (by omega) (by omega)).mp (Value.int.inj (Option.some.inj (hrh.symm.trans hr9)))
  subst e9
  rw [hrm]
  refine g_istore C dL_law_729 (by decide) ?_
  first | refine g_aload_n C dL_law_731 rfl ?_ | refine g_aload_nq C _ dL_law_731 rfl ?_
  refine g_comm ?_
  refine f_callV C (F := cW g xa I1 O1 L1 K1 ++ [(xo, oE g f1)]) (W1 := mW g xm V1) (Cl := RX3) (ci := 3) (k_X3_thrown l D g _ xm V1 ) gL_law_X3_thrown rfl rfl rfl (n := 0) (by decide +kernel) ⟨Nat.le_of_ble_eq_true rfl, Nat.le_of_ble_eq_true rfl⟩ (List.mem_of_getElem? (i := 0) rfl) rfl rfl rfl rfl (Nat.le_of_ble_eq_true rfl) dL_law_732 ⟨show cells + 1 + 0 + 0 ≤ 601024 by omega, show slots + 6 + 0 + 0 ≤ 7293034 by omega⟩ (fun r2 w hm => ?_)
  obtain ⟨V2, rfl, e2, hr3⟩ := hm
  refine g_comm ?_
  rw [e2, hr3, h25]
  refine g_iload C dL_law_735 rfl ?_
  refine g_icmp_eq C 742 dL_law_737 (by decide) (by omega) (by omega) (fun c737 => ?_) (fun c737 => ?_)
  · refine g_iload C dL_law_742 rfl ?_
    refine g_if_ne C 759 dL_law_744 (by decide) (by omega) (fun c744 => ?_) (fun c744 => ?_)
    · refine g_goto C 1019 dL_law_759 (by decide) ?_
      exact g_lv (lv' := [(0, .ref b), (1, .ref (xa 0)), (2, .ref (xm 0)), (3, .ref xo), (4, .int (nI (4 * n)))]) lv56 (g_widen (by omega) (by omega) (k19 _ _ _ _ _ _ hLB))
    · first | refine g_aload_n C dL_law_747 rfl ?_ | refine g_aload_nq C _ dL_law_747 rfl ?_
      refine g_iconst C 0 dL_law_748 (by decide) ?_
      refine g_laload C dL_law_749 ?_
      refine g_iload C dL_law_750 rfl ?_
      refine g_i2l C dL_law_752 rfl ?_
      have hans9 : f1 0 = aa.toInt64 := hans c744
      refine g_lcmp_eq C (hans9) dL_law_753 ?_
      refine g_if_eq C 759 dL_law_754 (by decide) (by decide) (fun c754 => ?_) (fun c754 => absurd c754 (by decide))
      refine g_goto C 1019 dL_law_759 (by decide) ?_
      exact g_lv (lv' := [(0, .ref b), (1, .ref (xa 0)), (2, .ref (xm 0)), (3, .ref xo), (4, .int (nI (4 * n)))]) lv56 (g_widen (by omega) (by omega) (k19 _ _ _ _ _ _ hLB))
  · exact absurd rfl c737
set_option maxRecDepth 100000 in
set_option maxHeartbeats 1000000 in
theorem st_state {p : Program} {l : Launch} {e : Env} {s : State} {m : MethodId} {args : Array Value} {below : List Frame} {meth : Method} {c : Code} {Q : State → Prop} {D : va_G} {A : Nat → Prop} {g : Nat → ClassId} {xa xm : Nat → Nat} {xo b Ln n N cells slots : Nat} {xs : Nat → Int32} {V I : VV} {O : OO} {L : List Nat} {K : Nat → Nat} {f : Nat → Int64}
    (C : CX p s m args meth c code 7 wsL_law RL D (tyG g) A s.heap ret) (hst : l.stackTraces = false) (T9 : XTC A s) (hX : va_X b Ln xs s s.heap) (hbl : b < s.heap.size) (hbA : ¬ A b) (hLn : Ln ≤ 2048) (h4 : 4 * n + 4 ≤ Ln) (hN2 : 20000 ≤ N) (hN4 : N + 4000 ≤ 2 ^ 30) (hB : LB N V I O L K) (hc : cells + 250 ≤ 601024) (hs : slots + 700 ≤ 7293034)
    (k19 : ∀ (V' I' : VV) (O' : OO) (L' : List Nat) (K' : Nat → Nat) (f' : Nat → Int64), LB (N + 4000) V' I' O' L' K' → GG p l e room_1 s m args below meth c Q 7 D A s.heap ((cW g xa I' O' L' K' ++ [(xo, oE g f')]) ++ mW g xm V') (cells + 250) (slots + 700) 1019 [(0, .ref b), (1, .ref (xa 0)), (2, .ref (xm 0)), (3, .ref xo), (4, .int (nI (4 * n)))] []) : GG p l e room_1 s m args below meth c Q 7 D A s.heap ((cW g xa I O L K ++ [(xo, oE g f)]) ++ mW g xm V) cells slots 814 [(0, .ref b), (1, .ref (xa 0)), (2, .ref (xm 0)), (3, .ref xo), (4, .int (nI (4 * n)))] [] := by
  obtain ⟨hV, hBV, hBI, hrc, own, hR⟩ := id hB
  have hN : N ≤ 2 ^ 30 := by omega
  have hC := hV.1.1
  have hla := hV.1.lat
  have hrw := hV.1.rows
  obtain ⟨fs, hfs⟩ := cX_this g xa I O L K
  first | refine g_aload_n C dL_law_814 rfl ?_ | refine g_aload_nq C _ dL_law_814 rfl ?_
  first | refine g_aload_n C dL_law_815 rfl ?_ | refine g_aload_nq C _ dL_law_815 rfl ?_
  refine g_iload C dL_law_816 rfl ?_
  refine g_iconst C 1 dL_law_818 (by decide) ?_
  first | refine g_iadd C dL_law_819 ?_ | refine g_iaddx C dL_law_819 ?_
  refine g_sld C hX hbl hbA hLn dL_law_820 (by omega) ?_
  first | refine g_aload_n C dL_law_821 rfl ?_ | refine g_aload_nq C _ dL_law_821 rfl ?_
  refine xf_callSX C T9 (F := mW g xm V) (W1 := cW g xa I O L K ++ [(xo, oE g f)]) (k_L_state l D g _ xa xo I O L K f (xs (4 * n + 1)) (k_X2_state l hst D g _ xa I O L K hBI hN4 hN2 (hV.thrown 0) hR.thrown hrc (xs (4 * n + 1))) (fun E h => h.1) (fun r I9 O9 L9 K9 h => by obtain ⟨_, _, _, _, _, h⟩ := h; exact ⟨_, h⟩)) gL_law_L_state rfl rfl rfl (n := 3) (by decide +kernel) ⟨Nat.le_of_ble_eq_true rfl, Nat.le_of_ble_eq_true rfl⟩ rfl rfl (Nat.le_of_ble_eq_true rfl) dL_law_822 ⟨show cells + 1 ≤ 601024 by omega, show slots + 6 ≤ 7293034 by omega⟩ (fun r w hq => ?_)
  obtain ⟨I1, O1, L1, K1, f1, rfl, hq⟩ := hq
  obtain ⟨k9, hk9, hr9⟩ : ∃ k9, k9 ≤ 2 ∧ r = some (.int (nI k9)) := by
    rcases hq with ⟨_, _, h, _⟩ | ⟨_, _, h⟩
    · exact ⟨0, by decide, h⟩
    · exact ⟨1, by decide, h⟩
  rw [hr9]
  refine g_istore C dL_law_825 (by decide) ?_
  first | refine g_aload_n C dL_law_827 rfl ?_ | refine g_aload_nq C _ dL_law_827 rfl ?_
  first | refine g_aload_n C dL_law_828 rfl ?_ | refine g_aload_nq C _ dL_law_828 rfl ?_
  refine g_iload C dL_law_829 rfl ?_
  refine g_iconst C 1 dL_law_831 (by decide) ?_
  first | refine g_iadd C dL_law_832 ?_ | refine g_iaddx C dL_law_832 ?_
  refine g_sld C hX hbl hbA hLn dL_law_833 (by omega) ?_
  refine g_comm ?_
  refine f_callV C (F := cW g xa I1 O1 L1 K1 ++ [(xo, oE g f1)]) (W1 := mW g xm V) (Cl := RX3) (ci := 3) (k_X3_state l D g _ xm V hBV hN hC (xs (4 * n + 1))) gL_law_X3_state rfl rfl rfl (n := 1) (by decide +kernel) ⟨Nat.le_of_ble_eq_true rfl, Nat.le_of_ble_eq_true rfl⟩ (List.mem_of_getElem? (i := 0) rfl) rfl rfl rfl rfl (Nat.le_of_ble_eq_true rfl) dL_law_834 ⟨show cells + 1 + 0 ≤ 601024 by omega, show slots + 6 + 0 ≤ 7293034 by omega⟩ (fun r2 w hm => ?_)
  obtain ⟨V1, rfl, hm⟩ := hm
  refine g_comm ?_
  obtain ⟨hLB, kk, aa, hkk, hrh, hrm, h25, hans⟩ := mt_state hB hN2 rfl hq hm
  have e9 : kk = k9 := (nI_eq (by omega) (by omega)).mp (Value.int.inj (Option.some.inj (hrh.symm.trans hr9)))
  subst e9
  rw [hrm]
  refine g_istore C dL_law_837 (by decide) ?_
  first | refine g_aload_n C dL_law_839 rfl ?_ | refine g_aload_nq C _ dL_law_839 rfl ?_
  refine g_comm ?_
  refine f_callV C (F := cW g xa I1 O1 L1 K1 ++ [(xo, oE g f1)]) (W1 := mW g xm V1) (Cl := RX3) (ci := 3) (k_X3_thrown l D g _ xm V1 ) gL_law_X3_thrown rfl rfl rfl (n := 0) (by decide +kernel) ⟨Nat.le_of_ble_eq_true rfl, Nat.le_of_ble_eq_true rfl⟩ (List.mem_of_getElem? (i := 0) rfl) rfl rfl rfl rfl (Nat.le_of_ble_eq_true rfl) dL_law_840 ⟨show cells + 1 + 0 + 0 ≤ 601024 by omega, show slots + 6 + 0 + 0 ≤ 7293034 by omega⟩ (fun r2 w hm => ?_)
  obtain ⟨V2, rfl, e2, hr3⟩ := hm
  refine g_comm ?_
  rw [e2, hr3, h25]
  refine g_iload C dL_law_843 rfl ?_
  refine g_icmp_eq C 850 dL_law_845 (by decide) (by omega) (by omega) (fun c845 => ?_) (fun c845 => ?_)
  · refine g_iload C dL_law_850 rfl ?_
    refine g_if_ne C 867 dL_law_852 (by decide) (by omega) (fun c852 => ?_) (fun c852 => ?_)
    · refine g_goto C 1019 dL_law_867 (by decide) ?_
      exact g_lv (lv' := [(0, .ref b), (1, .ref (xa 0)), (2, .ref (xm 0)), (3, .ref xo), (4, .int (nI (4 * n)))]) lv56 (g_widen (by omega) (by omega) (k19 _ _ _ _ _ _ hLB))
    · first | refine g_aload_n C dL_law_855 rfl ?_ | refine g_aload_nq C _ dL_law_855 rfl ?_
      refine g_iconst C 0 dL_law_856 (by decide) ?_
      refine g_laload C dL_law_857 ?_
      refine g_iload C dL_law_858 rfl ?_
      refine g_i2l C dL_law_860 rfl ?_
      have hans9 : f1 0 = aa.toInt64 := hans c852
      refine g_lcmp_eq C (hans9) dL_law_861 ?_
      refine g_if_eq C 867 dL_law_862 (by decide) (by decide) (fun c862 => ?_) (fun c862 => absurd c862 (by decide))
      refine g_goto C 1019 dL_law_867 (by decide) ?_
      exact g_lv (lv' := [(0, .ref b), (1, .ref (xa 0)), (2, .ref (xm 0)), (3, .ref xo), (4, .int (nI (4 * n)))]) lv56 (g_widen (by omega) (by omega) (k19 _ _ _ _ _ _ hLB))
  · exact absurd rfl c845
set_option maxRecDepth 100000 in
set_option maxHeartbeats 1000000 in
theorem st_waits {p : Program} {l : Launch} {e : Env} {s : State} {m : MethodId} {args : Array Value} {below : List Frame} {meth : Method} {c : Code} {Q : State → Prop} {D : va_G} {A : Nat → Prop} {g : Nat → ClassId} {xa xm : Nat → Nat} {xo b Ln n N cells slots : Nat} {xs : Nat → Int32} {V I : VV} {O : OO} {L : List Nat} {K : Nat → Nat} {f : Nat → Int64}
    (C : CX p s m args meth c code 7 wsL_law RL D (tyG g) A s.heap ret) (hst : l.stackTraces = false) (T9 : XTC A s) (hX : va_X b Ln xs s s.heap) (hbl : b < s.heap.size) (hbA : ¬ A b) (hLn : Ln ≤ 2048) (h4 : 4 * n + 4 ≤ Ln) (hN2 : 20000 ≤ N) (hN4 : N + 4000 ≤ 2 ^ 30) (hB : LB N V I O L K) (hc : cells + 250 ≤ 601024) (hs : slots + 700 ≤ 7293034)
    (k19 : ∀ (V' I' : VV) (O' : OO) (L' : List Nat) (K' : Nat → Nat) (f' : Nat → Int64), LB (N + 4000) V' I' O' L' K' → GG p l e room_1 s m args below meth c Q 7 D A s.heap ((cW g xa I' O' L' K' ++ [(xo, oE g f')]) ++ mW g xm V') (cells + 250) (slots + 700) 1019 [(0, .ref b), (1, .ref (xa 0)), (2, .ref (xm 0)), (3, .ref xo), (4, .int (nI (4 * n)))] []) : GG p l e room_1 s m args below meth c Q 7 D A s.heap ((cW g xa I O L K ++ [(xo, oE g f)]) ++ mW g xm V) cells slots 870 [(0, .ref b), (1, .ref (xa 0)), (2, .ref (xm 0)), (3, .ref xo), (4, .int (nI (4 * n)))] [] := by
  obtain ⟨hV, hBV, hBI, hrc, own, hR⟩ := id hB
  have hN : N ≤ 2 ^ 30 := by omega
  have hC := hV.1.1
  have hla := hV.1.lat
  have hrw := hV.1.rows
  obtain ⟨fs, hfs⟩ := cX_this g xa I O L K
  first | refine g_aload_n C dL_law_870 rfl ?_ | refine g_aload_nq C _ dL_law_870 rfl ?_
  first | refine g_aload_n C dL_law_871 rfl ?_ | refine g_aload_nq C _ dL_law_871 rfl ?_
  refine g_iload C dL_law_872 rfl ?_
  refine g_iconst C 1 dL_law_874 (by decide) ?_
  first | refine g_iadd C dL_law_875 ?_ | refine g_iaddx C dL_law_875 ?_
  refine g_sld C hX hbl hbA hLn dL_law_876 (by omega) ?_
  first | refine g_aload_n C dL_law_877 rfl ?_ | refine g_aload_nq C _ dL_law_877 rfl ?_
  refine xf_callSX C T9 (F := mW g xm V) (W1 := cW g xa I O L K ++ [(xo, oE g f)]) (k_L_waits l D g _ xa xo I O L K f (xs (4 * n + 1)) (k_X2_waits l hst D g _ xa I O L K hBI hN4 hN2 (hV.thrown 0) hR.thrown hrc (xs (4 * n + 1))) (fun E h => h.1) (fun r I9 O9 L9 K9 h => by obtain ⟨_, _, _, _, _, h⟩ := h; exact ⟨_, h⟩)) gL_law_L_waits rfl rfl rfl (n := 3) (by decide +kernel) ⟨Nat.le_of_ble_eq_true rfl, Nat.le_of_ble_eq_true rfl⟩ rfl rfl (Nat.le_of_ble_eq_true rfl) dL_law_878 ⟨show cells + 1 ≤ 601024 by omega, show slots + 6 ≤ 7293034 by omega⟩ (fun r w hq => ?_)
  obtain ⟨I1, O1, L1, K1, f1, rfl, hq⟩ := hq
  obtain ⟨k9, hk9, hr9⟩ : ∃ k9, k9 ≤ 2 ∧ r = some (.int (nI k9)) := by
    rcases hq with ⟨_, _, h, _⟩ | ⟨_, _, h⟩
    · exact ⟨0, by decide, h⟩
    · exact ⟨1, by decide, h⟩
  rw [hr9]
  refine g_istore C dL_law_881 (by decide) ?_
  first | refine g_aload_n C dL_law_883 rfl ?_ | refine g_aload_nq C _ dL_law_883 rfl ?_
  first | refine g_aload_n C dL_law_884 rfl ?_ | refine g_aload_nq C _ dL_law_884 rfl ?_
  refine g_iload C dL_law_885 rfl ?_
  refine g_iconst C 1 dL_law_887 (by decide) ?_
  first | refine g_iadd C dL_law_888 ?_ | refine g_iaddx C dL_law_888 ?_
  refine g_sld C hX hbl hbA hLn dL_law_889 (by omega) ?_
  refine g_comm ?_
  refine f_callV C (F := cW g xa I1 O1 L1 K1 ++ [(xo, oE g f1)]) (W1 := mW g xm V) (Cl := RX3) (ci := 3) (k_X3_waits l D g _ xm V hBV hN hC (xs (4 * n + 1))) gL_law_X3_waits rfl rfl rfl (n := 1) (by decide +kernel) ⟨Nat.le_of_ble_eq_true rfl, Nat.le_of_ble_eq_true rfl⟩ (List.mem_of_getElem? (i := 0) rfl) rfl rfl rfl rfl (Nat.le_of_ble_eq_true rfl) dL_law_890 ⟨show cells + 1 + 0 ≤ 601024 by omega, show slots + 6 + 0 ≤ 7293034 by omega⟩ (fun r2 w hm => ?_)
  obtain ⟨V1, rfl, hm⟩ := hm
  refine g_comm ?_
  obtain ⟨hLB, kk, aa, hkk, hrh, hrm, h25, hans⟩ := mt_waits hB hN2 rfl hq hm
  have e9 : kk = k9 := (nI_eq (by omega) (by omega)).mp (Value.int.inj (Option.some.inj (hrh.symm.trans hr9)))
  subst e9
  rw [hrm]
  refine g_istore C dL_law_893 (by decide) ?_
  first | refine g_aload_n C dL_law_895 rfl ?_ | refine g_aload_nq C _ dL_law_895 rfl ?_
  refine g_comm ?_
  refine f_callV C (F := cW g xa I1 O1 L1 K1 ++ [(xo, oE g f1)]) (W1 := mW g xm V1) (Cl := RX3) (ci := 3) (k_X3_thrown l D g _ xm V1 ) gL_law_X3_thrown rfl rfl rfl (n := 0) (by decide +kernel) ⟨Nat.le_of_ble_eq_true rfl, Nat.le_of_ble_eq_true rfl⟩ (List.mem_of_getElem? (i := 0) rfl) rfl rfl rfl rfl (Nat.le_of_ble_eq_true rfl) dL_law_896 ⟨show cells + 1 + 0 + 0 ≤ 601024 by omega, show slots + 6 + 0 + 0 ≤ 7293034 by omega⟩ (fun r2 w hm => ?_)
  obtain ⟨V2, rfl, e2, hr3⟩ := hm
  refine g_comm ?_
  rw [e2, hr3, h25]
  refine g_iload C dL_law_899 rfl ?_
  refine g_icmp_eq C 906 dL_law_901 (by decide) (by omega) (by omega) (fun c901 => ?_) (fun c901 => ?_)
  · refine g_iload C dL_law_906 rfl ?_
    refine g_if_ne C 923 dL_law_908 (by decide) (by omega) (fun c908 => ?_) (fun c908 => ?_)
    · refine g_goto C 1019 dL_law_923 (by decide) ?_
      exact g_lv (lv' := [(0, .ref b), (1, .ref (xa 0)), (2, .ref (xm 0)), (3, .ref xo), (4, .int (nI (4 * n)))]) lv56 (g_widen (by omega) (by omega) (k19 _ _ _ _ _ _ hLB))
    · first | refine g_aload_n C dL_law_911 rfl ?_ | refine g_aload_nq C _ dL_law_911 rfl ?_
      refine g_iconst C 0 dL_law_912 (by decide) ?_
      refine g_laload C dL_law_913 ?_
      refine g_iload C dL_law_914 rfl ?_
      refine g_i2l C dL_law_916 rfl ?_
      have hans9 : f1 0 = aa.toInt64 := hans c908
      refine g_lcmp_eq C (hans9) dL_law_917 ?_
      refine g_if_eq C 923 dL_law_918 (by decide) (by decide) (fun c918 => ?_) (fun c918 => absurd c918 (by decide))
      refine g_goto C 1019 dL_law_923 (by decide) ?_
      exact g_lv (lv' := [(0, .ref b), (1, .ref (xa 0)), (2, .ref (xm 0)), (3, .ref xo), (4, .int (nI (4 * n)))]) lv56 (g_widen (by omega) (by omega) (k19 _ _ _ _ _ _ hLB))
  · exact absurd rfl c901
set_option maxRecDepth 100000 in
set_option maxHeartbeats 1000000 in
theorem st_conflicts {p : Program} {l : Launch} {e : Env} {s : State} {m : MethodId} {args : Array Value} {below : List Frame} {meth : Method} {c : Code} {Q : State → Prop} {D : va_G} {A : Nat → Prop} {g : Nat → ClassId} {xa xm : Nat → Nat} {xo b Ln n N cells slots : Nat} {xs : Nat → Int32} {V I : VV} {O : OO} {L : List Nat} {K : Nat → Nat} {f : Nat → Int64}
    (C : CX p s m args meth c code 7 wsL_law RL D (tyG g) A s.heap ret) (hst : l.stackTraces = false) (T9 : XTC A s) (hX : va_X b Ln xs s s.heap) (hbl : b < s.heap.size) (hbA : ¬ A b) (hLn : Ln ≤ 2048) (h4 : 4 * n + 4 ≤ Ln) (hN2 : 20000 ≤ N) (hN4 : N + 4000 ≤ 2 ^ 30) (hB : LB N V I O L K) (hc : cells + 250 ≤ 601024) (hs : slots + 700 ≤ 7293034)
    (k19 : ∀ (V' I' : VV) (O' : OO) (L' : List Nat) (K' : Nat → Nat) (f' : Nat → Int64), LB (N + 4000) V' I' O' L' K' → GG p l e room_1 s m args below meth c Q 7 D A s.heap ((cW g xa I' O' L' K' ++ [(xo, oE g f')]) ++ mW g xm V') (cells + 250) (slots + 700) 1019 [(0, .ref b), (1, .ref (xa 0)), (2, .ref (xm 0)), (3, .ref xo), (4, .int (nI (4 * n)))] []) : GG p l e room_1 s m args below meth c Q 7 D A s.heap ((cW g xa I O L K ++ [(xo, oE g f)]) ++ mW g xm V) cells slots 951 [(0, .ref b), (1, .ref (xa 0)), (2, .ref (xm 0)), (3, .ref xo), (4, .int (nI (4 * n)))] [] := by
  obtain ⟨hV, hBV, hBI, hrc, own, hR⟩ := id hB
  have hN : N ≤ 2 ^ 30 := by omega
  have hC := hV.1.1
  have hla := hV.1.lat
  have hrw := hV.1.rows
  obtain ⟨fs, hfs⟩ := cX_this g xa I O L K
  first | refine g_aload_n C dL_law_951 rfl ?_ | refine g_aload_nq C _ dL_law_951 rfl ?_
  first | refine g_aload_n C dL_law_952 rfl ?_ | refine g_aload_nq C _ dL_law_952 rfl ?_
  refine g_iload C dL_law_953 rfl ?_
  refine g_iconst C 1 dL_law_955 (by decide) ?_
  first | refine g_iadd C dL_law_956 ?_ | refine g_iaddx C dL_law_956 ?_
  refine g_sld C hX hbl hbA hLn dL_law_957 (by omega) ?_
  first | refine g_aload_n C dL_law_958 rfl ?_ | refine g_aload_nq C _ dL_law_958 rfl ?_
  refine g_iload C dL_law_959 rfl ?_
  refine g_iconst C 2 dL_law_961 (by decide) ?_
  first | refine g_iadd C dL_law_962 ?_ | refine g_iaddx C dL_law_962 ?_
  refine g_sld C hX hbl hbA hLn dL_law_963 (by omega) ?_
  first | refine g_aload_n C dL_law_964 rfl ?_ | refine g_aload_nq C _ dL_law_964 rfl ?_
  refine xf_callSX C T9 (F := mW g xm V) (W1 := cW g xa I O L K ++ [(xo, oE g f)]) (k_L_conflicts l D g _ xa xo I O L K f (xs (4 * n + 1)) (xs (4 * n + 2)) (k_X2_conflicts l hst D g _ xa I O L K hBI hN4 hN2 (hV.thrown 0) hR.thrown hrc (xs (4 * n + 1)) (xs (4 * n + 2))) (fun E h => h.1) (fun r I9 O9 L9 K9 h => by obtain ⟨_, ⟨_, _, _, _, h⟩ | ⟨_, _, _, _, h⟩⟩ := h <;> exact ⟨_, h⟩)) gL_law_L_conflicts rfl rfl rfl (n := 4) (by decide +kernel) ⟨Nat.le_of_ble_eq_true rfl, Nat.le_of_ble_eq_true rfl⟩ rfl rfl (Nat.le_of_ble_eq_true rfl) dL_law_965 ⟨show cells + 2 ≤ 601024 by omega, show slots + 12 ≤ 7293034 by omega⟩ (fun r w hq => ?_)
  obtain ⟨I1, O1, L1, K1, f1, rfl, hq⟩ := hq
  obtain ⟨k9, hk9, hr9⟩ : ∃ k9, k9 ≤ 2 ∧ r = some (.int (nI k9)) := by
    rcases hq with ⟨_, _, h, _⟩ | ⟨_, _, h⟩
    · exact ⟨0, by decide, h⟩
    · exact ⟨1, by decide, h⟩
  rw [hr9]
  refine g_istore C dL_law_968 (by decide) ?_
  first | refine g_aload_n C dL_law_970 rfl ?_ | refine g_aload_nq C _ dL_law_970 rfl ?_
  first | refine g_aload_n C dL_law_971 rfl ?_ | refine g_aload_nq C _ dL_law_971 rfl ?_
  refine g_iload C dL_law_972 rfl ?_
  refine g_iconst C 1 dL_law_974 (by decide) ?_
  first | refine g_iadd C dL_law_975 ?_ | refine g_iaddx C dL_law_975 ?_
  refine g_sld C hX hbl hbA hLn dL_law_976 (by omega) ?_
  first | refine g_aload_n C dL_law_977 rfl ?_ | refine g_aload_nq C _ dL_law_977 rfl ?_
  refine g_iload C dL_law_978 rfl ?_
  refine g_iconst C 2 dL_law_980 (by decide) ?_
  first | refine g_iadd C dL_law_981 ?_ | refine g_iaddx C dL_law_981 ?_
  refine g_sld C hX hbl hbA hLn dL_law_982 (by omega) ?_
  refine g_comm ?_
  refine f_callV C (F := cW g xa I1 O1 L1 K1 ++ [(xo, oE g f1)]) (W1 := mW g xm V) (Cl := RX3) (ci := 3) (k_X3_conflicts l D g _ xm V hBV hN (xs (4 * n + 1)) (xs (4 * n + 2))) gL_law_X3_conflicts rfl rfl rfl (n := 2) (by decide +kernel) ⟨Nat.le_of_ble_eq_true rfl, Nat.le_of_ble_eq_true rfl⟩ (List.mem_of_getElem? (i := 0) rfl) rfl rfl rfl rfl (Nat.le_of_ble_eq_true rfl) dL_law_983 ⟨show cells + 2 + 0 ≤ 601024 by omega, show slots + 12 + 0 ≤ 7293034 by omega⟩ (fun r2 w hm => ?_)
  obtain ⟨V1, rfl, hm⟩ := hm
  refine g_comm ?_
  obtain ⟨hLB, kk, aa, hkk, hrh, hrm, h25, hans⟩ := mt_conflicts hB hN2 rfl hq hm
  have e9 : kk = k9 := (nI_eq (by omega) (by omega)).mp (Value.int.inj (Option.some.inj (hrh.symm.trans hr9)))
  subst e9
  rw [hrm]
  refine g_istore C dL_law_986 (by decide) ?_
  first | refine g_aload_n C dL_law_988 rfl ?_ | refine g_aload_nq C _ dL_law_988 rfl ?_
  refine g_comm ?_
  refine f_callV C (F := cW g xa I1 O1 L1 K1 ++ [(xo, oE g f1)]) (W1 := mW g xm V1) (Cl := RX3) (ci := 3) (k_X3_thrown l D g _ xm V1 ) gL_law_X3_thrown rfl rfl rfl (n := 0) (by decide +kernel) ⟨Nat.le_of_ble_eq_true rfl, Nat.le_of_ble_eq_true rfl⟩ (List.mem_of_getElem? (i := 0) rfl) rfl rfl rfl rfl (Nat.le_of_ble_eq_true rfl) dL_law_989 ⟨show cells + 2 + 0 + 0 ≤ 601024 by omega, show slots + 12 + 0 + 0 ≤ 7293034 by omega⟩ (fun r2 w hm => ?_)
  obtain ⟨V2, rfl, e2, hr3⟩ := hm
  refine g_comm ?_
  rw [e2, hr3, h25]
  refine g_iload C dL_law_992 rfl ?_
  refine g_icmp_eq C 999 dL_law_994 (by decide) (by omega) (by omega) (fun c994 => ?_) (fun c994 => ?_)
  · refine g_iload C dL_law_999 rfl ?_
    refine g_if_ne C 1016 dL_law_1001 (by decide) (by omega) (fun c1001 => ?_) (fun c1001 => ?_)
    · refine g_goto C 1019 dL_law_1016 (by decide) ?_
      exact g_lv (lv' := [(0, .ref b), (1, .ref (xa 0)), (2, .ref (xm 0)), (3, .ref xo), (4, .int (nI (4 * n)))]) lv56 (g_widen (by omega) (by omega) (k19 _ _ _ _ _ _ hLB))
    · first | refine g_aload_n C dL_law_1004 rfl ?_ | refine g_aload_nq C _ dL_law_1004 rfl ?_
      refine g_iconst C 0 dL_law_1005 (by decide) ?_
      refine g_laload C dL_law_1006 ?_
      refine g_iload C dL_law_1007 rfl ?_
      refine g_i2l C dL_law_1009 rfl ?_
      have hans9 : f1 0 = aa.toInt64 := hans c1001
      refine g_lcmp_eq C (hans9) dL_law_1010 ?_
      refine g_if_eq C 1016 dL_law_1011 (by decide) (by decide) (fun c1011 => ?_) (fun c1011 => absurd c1011 (by decide))
      refine g_goto C 1019 dL_law_1016 (by decide) ?_
      exact g_lv (lv' := [(0, .ref b), (1, .ref (xa 0)), (2, .ref (xm 0)), (3, .ref xo), (4, .int (nI (4 * n)))]) lv56 (g_widen (by omega) (by omega) (k19 _ _ _ _ _ _ hLB))
  · exact absurd rfl c994
set_option maxRecDepth 100000 in
set_option maxHeartbeats 1000000 in
theorem st_rows {p : Program} {l : Launch} {e : Env} {s : State} {m : MethodId} {args : Array Value} {below : List Frame} {meth : Method} {c : Code} {Q : State → Prop} {D : va_G} {A : Nat → Prop} {g : Nat → ClassId} {xa xm : Nat → Nat} {xo b Ln n N cells slots : Nat} {xs : Nat → Int32} {V I : VV} {O : OO} {L : List Nat} {K : Nat → Nat} {f : Nat → Int64}
    (C : CX p s m args meth c code 7 wsL_law RL D (tyG g) A s.heap ret) (hst : l.stackTraces = false) (T9 : XTC A s) (hX : va_X b Ln xs s s.heap) (hbl : b < s.heap.size) (hbA : ¬ A b) (hLn : Ln ≤ 2048) (h4 : 4 * n + 4 ≤ Ln) (hN2 : 20000 ≤ N) (hN4 : N + 4000 ≤ 2 ^ 30) (hB : LB N V I O L K) (hc : cells + 250 ≤ 601024) (hs : slots + 700 ≤ 7293034)
    (k19 : ∀ (V' I' : VV) (O' : OO) (L' : List Nat) (K' : Nat → Nat) (f' : Nat → Int64), LB (N + 4000) V' I' O' L' K' → GG p l e room_1 s m args below meth c Q 7 D A s.heap ((cW g xa I' O' L' K' ++ [(xo, oE g f')]) ++ mW g xm V') (cells + 250) (slots + 700) 1019 [(0, .ref b), (1, .ref (xa 0)), (2, .ref (xm 0)), (3, .ref xo), (4, .int (nI (4 * n)))] []) : GG p l e room_1 s m args below meth c Q 7 D A s.heap ((cW g xa I O L K ++ [(xo, oE g f)]) ++ mW g xm V) cells slots 775 [(0, .ref b), (1, .ref (xa 0)), (2, .ref (xm 0)), (3, .ref xo), (4, .int (nI (4 * n)))] [] := by
  obtain ⟨hV, hBV, hBI, hrc, own, hR⟩ := id hB
  have hN : N ≤ 2 ^ 30 := by omega
  have hC := hV.1.1
  have hla := hV.1.lat
  have hrw := hV.1.rows
  obtain ⟨fs, hfs⟩ := cX_this g xa I O L K
  first | refine g_aload_n C dL_law_775 rfl ?_ | refine g_aload_nq C _ dL_law_775 rfl ?_
  refine g_ws (List.append_assoc _ _ _) ?_
  refine f_callV C (F := [(xo, oE g f)] ++ mW g xm V) (W1 := cW g xa I O L K) (Cl := RX2) (ci := 2) (k_X2_rows l D g _ xa I O L K hrc) gL_law_X2_rows rfl rfl rfl (n := 0) (by decide +kernel) ⟨Nat.le_of_ble_eq_true rfl, Nat.le_of_ble_eq_true rfl⟩ hfs rfl rfl rfl rfl (Nat.le_of_ble_eq_true rfl) dL_law_776 ⟨show cells + 0 ≤ 601024 by omega, show slots + 0 ≤ 7293034 by omega⟩ (fun r w hq => ?_)
  obtain ⟨I1, O1, L1, K1, rfl, hq⟩ := hq
  refine g_ws (List.append_assoc _ _ _).symm ?_
  obtain ⟨⟨e1, e2, e3, e4⟩, hr⟩ := hq
  rw [e1, e2, e3, e4, hr]
  first | refine g_aload_n C dL_law_779 rfl ?_ | refine g_aload_nq C _ dL_law_779 rfl ?_
  refine g_comm ?_
  refine f_callV C (F := cW g xa I O L K ++ [(xo, oE g f)]) (W1 := mW g xm V) (Cl := RX3) (ci := 3) (k_X3_rows l D g _ xm V ) gL_law_X3_rows rfl rfl rfl (n := 0) (by decide +kernel) ⟨Nat.le_of_ble_eq_true rfl, Nat.le_of_ble_eq_true rfl⟩ (List.mem_of_getElem? (i := 0) rfl) rfl rfl rfl rfl (Nat.le_of_ble_eq_true rfl) dL_law_780 ⟨show cells + 0 + 0 ≤ 601024 by omega, show slots + 0 + 0 ≤ 7293034 by omega⟩ (fun r2 w hm => ?_)
  obtain ⟨V1, rfl, e9, hr2⟩ := hm
  refine g_comm ?_
  rw [e9, hr2]
  refine g_icmpx_eq C 1019 dL_law_783 (by decide) (fun c783 => ?_) (fun c783 => ?_)
  · exact g_lv (lv' := [(0, .ref b), (1, .ref (xa 0)), (2, .ref (xm 0)), (3, .ref xo), (4, .int (nI (4 * n)))]) (fun q hq => hq) (g_widen (by omega) (by omega) (k19 _ _ _ _ _ _ ((hB.thrown (by omega)).mono (by omega))))
  · exact absurd rfl c783
set_option maxRecDepth 100000 in
set_option maxHeartbeats 1000000 in
theorem st_latest {p : Program} {l : Launch} {e : Env} {s : State} {m : MethodId} {args : Array Value} {below : List Frame} {meth : Method} {c : Code} {Q : State → Prop} {D : va_G} {A : Nat → Prop} {g : Nat → ClassId} {xa xm : Nat → Nat} {xo b Ln n N cells slots : Nat} {xs : Nat → Int32} {V I : VV} {O : OO} {L : List Nat} {K : Nat → Nat} {f : Nat → Int64}
    (C : CX p s m args meth c code 7 wsL_law RL D (tyG g) A s.heap ret) (hst : l.stackTraces = false) (T9 : XTC A s) (hX : va_X b Ln xs s s.heap) (hbl : b < s.heap.size) (hbA : ¬ A b) (hLn : Ln ≤ 2048) (h4 : 4 * n + 4 ≤ Ln) (hN2 : 20000 ≤ N) (hN4 : N + 4000 ≤ 2 ^ 30) (hB : LB N V I O L K) (hc : cells + 250 ≤ 601024) (hs : slots + 700 ≤ 7293034)
    (k19 : ∀ (V' I' : VV) (O' : OO) (L' : List Nat) (K' : Nat → Nat) (f' : Nat → Int64), LB (N + 4000) V' I' O' L' K' → GG p l e room_1 s m args below meth c Q 7 D A s.heap ((cW g xa I' O' L' K' ++ [(xo, oE g f')]) ++ mW g xm V') (cells + 250) (slots + 700) 1019 [(0, .ref b), (1, .ref (xa 0)), (2, .ref (xm 0)), (3, .ref xo), (4, .int (nI (4 * n)))] []) : GG p l e room_1 s m args below meth c Q 7 D A s.heap ((cW g xa I O L K ++ [(xo, oE g f)]) ++ mW g xm V) cells slots 788 [(0, .ref b), (1, .ref (xa 0)), (2, .ref (xm 0)), (3, .ref xo), (4, .int (nI (4 * n)))] [] := by
  obtain ⟨hV, hBV, hBI, hrc, own, hR⟩ := id hB
  have hN : N ≤ 2 ^ 30 := by omega
  have hC := hV.1.1
  have hla := hV.1.lat
  have hrw := hV.1.rows
  obtain ⟨fs, hfs⟩ := cX_this g xa I O L K
  first | refine g_aload_n C dL_law_788 rfl ?_ | refine g_aload_nq C _ dL_law_788 rfl ?_
  refine g_ws (List.append_assoc _ _ _) ?_
  refine f_callV C (F := [(xo, oE g f)] ++ mW g xm V) (W1 := cW g xa I O L K) (Cl := RX2) (ci := 2) (k_X2_latest l D g _ xa I O L K hR.1) gL_law_X2_latest rfl rfl rfl (n := 0) (by decide +kernel) ⟨Nat.le_of_ble_eq_true rfl, Nat.le_of_ble_eq_true rfl⟩ hfs rfl rfl rfl rfl (Nat.le_of_ble_eq_true rfl) dL_law_789 ⟨show cells + 0 ≤ 601024 by omega, show slots + 0 ≤ 7293034 by omega⟩ (fun r w hq => ?_)
  obtain ⟨I1, O1, L1, K1, rfl, hq⟩ := hq
  refine g_ws (List.append_assoc _ _ _).symm ?_
  obtain ⟨⟨e1, e2, e3, e4⟩, hr⟩ := hq
  rw [e1, e2, e3, e4, hr]
  first | refine g_aload_n C dL_law_792 rfl ?_ | refine g_aload_nq C _ dL_law_792 rfl ?_
  refine g_comm ?_
  refine f_callV C (F := cW g xa I O L K ++ [(xo, oE g f)]) (W1 := mW g xm V) (Cl := RX3) (ci := 3) (k_X3_latest l D g _ xm V ) gL_law_X3_latest rfl rfl rfl (n := 0) (by decide +kernel) ⟨Nat.le_of_ble_eq_true rfl, Nat.le_of_ble_eq_true rfl⟩ (List.mem_of_getElem? (i := 0) rfl) rfl rfl rfl rfl (Nat.le_of_ble_eq_true rfl) dL_law_793 ⟨show cells + 0 + 0 ≤ 601024 by omega, show slots + 0 + 0 ≤ 7293034 by omega⟩ (fun r2 w hm => ?_)
  obtain ⟨V1, rfl, e9, hr2⟩ := hm
  refine g_comm ?_
  rw [e9, hr2]
  refine g_icmpx_eq C 1019 dL_law_796 (by decide) (fun c796 => ?_) (fun c796 => ?_)
  · exact g_lv (lv' := [(0, .ref b), (1, .ref (xa 0)), (2, .ref (xm 0)), (3, .ref xo), (4, .int (nI (4 * n)))]) (fun q hq => hq) (g_widen (by omega) (by omega) (k19 _ _ _ _ _ _ ((hB.thrown (by omega)).mono (by omega))))
  · exact absurd rfl c796
set_option maxRecDepth 100000 in
set_option maxHeartbeats 1000000 in
theorem st_least {p : Program} {l : Launch} {e : Env} {s : State} {m : MethodId} {args : Array Value} {below : List Frame} {meth : Method} {c : Code} {Q : State → Prop} {D : va_G} {A : Nat → Prop} {g : Nat → ClassId} {xa xm : Nat → Nat} {xo b Ln n N cells slots : Nat} {xs : Nat → Int32} {V I : VV} {O : OO} {L : List Nat} {K : Nat → Nat} {f : Nat → Int64}
    (C : CX p s m args meth c code 7 wsL_law RL D (tyG g) A s.heap ret) (hst : l.stackTraces = false) (T9 : XTC A s) (hX : va_X b Ln xs s s.heap) (hbl : b < s.heap.size) (hbA : ¬ A b) (hLn : Ln ≤ 2048) (h4 : 4 * n + 4 ≤ Ln) (hN2 : 20000 ≤ N) (hN4 : N + 4000 ≤ 2 ^ 30) (hB : LB N V I O L K) (hc : cells + 250 ≤ 601024) (hs : slots + 700 ≤ 7293034)
    (k19 : ∀ (V' I' : VV) (O' : OO) (L' : List Nat) (K' : Nat → Nat) (f' : Nat → Int64), LB (N + 4000) V' I' O' L' K' → GG p l e room_1 s m args below meth c Q 7 D A s.heap ((cW g xa I' O' L' K' ++ [(xo, oE g f')]) ++ mW g xm V') (cells + 250) (slots + 700) 1019 [(0, .ref b), (1, .ref (xa 0)), (2, .ref (xm 0)), (3, .ref xo), (4, .int (nI (4 * n)))] []) : GG p l e room_1 s m args below meth c Q 7 D A s.heap ((cW g xa I O L K ++ [(xo, oE g f)]) ++ mW g xm V) cells slots 801 [(0, .ref b), (1, .ref (xa 0)), (2, .ref (xm 0)), (3, .ref xo), (4, .int (nI (4 * n)))] [] := by
  obtain ⟨hV, hBV, hBI, hrc, own, hR⟩ := id hB
  have hN : N ≤ 2 ^ 30 := by omega
  have hC := hV.1.1
  have hla := hV.1.lat
  have hrw := hV.1.rows
  obtain ⟨fs, hfs⟩ := cX_this g xa I O L K
  first | refine g_aload_n C dL_law_801 rfl ?_ | refine g_aload_nq C _ dL_law_801 rfl ?_
  refine g_ws (List.append_assoc _ _ _) ?_
  refine f_callV C (F := [(xo, oE g f)] ++ mW g xm V) (W1 := cW g xa I O L K) (Cl := RX2) (ci := 2) (k_X2_least l D g _ xa I O L K hBI hN hR.1 hR.2.1 hC hla (fun i _ => hV.2.2.1.2.2.1 i)) gL_law_X2_least rfl rfl rfl (n := 0) (by decide +kernel) ⟨Nat.le_of_ble_eq_true rfl, Nat.le_of_ble_eq_true rfl⟩ hfs rfl rfl rfl rfl (Nat.le_of_ble_eq_true rfl) dL_law_802 ⟨show cells + 0 ≤ 601024 by omega, show slots + 0 ≤ 7293034 by omega⟩ (fun r w hq => ?_)
  obtain ⟨I1, O1, L1, K1, rfl, hq⟩ := hq
  refine g_ws (List.append_assoc _ _ _).symm ?_
  obtain ⟨⟨e1, e2, e3, e4⟩, hr⟩ := hq
  rw [e1, e2, e3, e4, hr]
  first | refine g_aload_n C dL_law_805 rfl ?_ | refine g_aload_nq C _ dL_law_805 rfl ?_
  refine g_comm ?_
  refine f_callV C (F := cW g xa I O L K ++ [(xo, oE g f)]) (W1 := mW g xm V) (Cl := RX3) (ci := 3) (k_X3_least l D g _ xm V hBV hN hC) gL_law_X3_least rfl rfl rfl (n := 0) (by decide +kernel) ⟨Nat.le_of_ble_eq_true rfl, Nat.le_of_ble_eq_true rfl⟩ (List.mem_of_getElem? (i := 0) rfl) rfl rfl rfl rfl (Nat.le_of_ble_eq_true rfl) dL_law_806 ⟨show cells + 0 + 0 ≤ 601024 by omega, show slots + 0 + 0 ≤ 7293034 by omega⟩ (fun r2 w hm => ?_)
  obtain ⟨V1, rfl, e9, hr2⟩ := hm
  refine g_comm ?_
  rw [e9, hr2]
  refine g_icmpx_eq C 1019 dL_law_809 (by decide) (fun c809 => ?_) (fun c809 => ?_)
  · exact g_lv (lv' := [(0, .ref b), (1, .ref (xa 0)), (2, .ref (xm 0)), (3, .ref xo), (4, .int (nI (4 * n)))]) (fun q hq => hq) (g_widen (by omega) (by omega) (k19 _ _ _ _ _ _ ((hB.thrown (by omega)).mono (by omega))))
  · exact absurd rfl c809
set_option maxRecDepth 100000 in
set_option maxHeartbeats 1000000 in
theorem st_ring {p : Program} {l : Launch} {e : Env} {s : State} {m : MethodId} {args : Array Value} {below : List Frame} {meth : Method} {c : Code} {Q : State → Prop} {D : va_G} {A : Nat → Prop} {g : Nat → ClassId} {xa xm : Nat → Nat} {xo b Ln n N cells slots : Nat} {xs : Nat → Int32} {V I : VV} {O : OO} {L : List Nat} {K : Nat → Nat} {f : Nat → Int64}
    (C : CX p s m args meth c code 7 wsL_law RL D (tyG g) A s.heap ret) (hst : l.stackTraces = false) (T9 : XTC A s) (hX : va_X b Ln xs s s.heap) (hbl : b < s.heap.size) (hbA : ¬ A b) (hLn : Ln ≤ 2048) (h4 : 4 * n + 4 ≤ Ln) (hN2 : 20000 ≤ N) (hN4 : N + 4000 ≤ 2 ^ 30) (hB : LB N V I O L K) (hc : cells + 250 ≤ 601024) (hs : slots + 700 ≤ 7293034)
    (k19 : ∀ (V' I' : VV) (O' : OO) (L' : List Nat) (K' : Nat → Nat) (f' : Nat → Int64), LB (N + 4000) V' I' O' L' K' → GG p l e room_1 s m args below meth c Q 7 D A s.heap ((cW g xa I' O' L' K' ++ [(xo, oE g f')]) ++ mW g xm V') (cells + 250) (slots + 700) 1019 [(0, .ref b), (1, .ref (xa 0)), (2, .ref (xm 0)), (3, .ref xo), (4, .int (nI (4 * n)))] []) : GG p l e room_1 s m args below meth c Q 7 D A s.heap ((cW g xa I O L K ++ [(xo, oE g f)]) ++ mW g xm V) cells slots 926 [(0, .ref b), (1, .ref (xa 0)), (2, .ref (xm 0)), (3, .ref xo), (4, .int (nI (4 * n)))] [] := by
  obtain ⟨hV, hBV, hBI, hrc, own, hR⟩ := id hB
  have hN : N ≤ 2 ^ 30 := by omega
  have hC := hV.1.1
  have hla := hV.1.lat
  have hrw := hV.1.rows
  obtain ⟨fs, hfs⟩ := cX_this g xa I O L K
  first | refine g_aload_n C dL_law_926 rfl ?_ | refine g_aload_nq C _ dL_law_926 rfl ?_
  first | refine g_aload_n C dL_law_927 rfl ?_ | refine g_aload_nq C _ dL_law_927 rfl ?_
  refine g_iload C dL_law_928 rfl ?_
  refine g_iconst C 1 dL_law_930 (by decide) ?_
  first | refine g_iadd C dL_law_931 ?_ | refine g_iaddx C dL_law_931 ?_
  refine g_sld C hX hbl hbA hLn dL_law_932 (by omega) ?_
  refine g_ws (List.append_assoc _ _ _) ?_
  refine f_callV C (F := [(xo, oE g f)] ++ mW g xm V) (W1 := cW g xa I O L K) (Cl := RX2) (ci := 2) (k_X2_ring l D g _ xa I O L K hBI hN hR.1 hV.1.2.2.2.2.2.2.1 (xs (4 * n + 1))) gL_law_X2_ring rfl rfl rfl (n := 1) (by decide +kernel) ⟨Nat.le_of_ble_eq_true rfl, Nat.le_of_ble_eq_true rfl⟩ hfs rfl rfl rfl rfl (Nat.le_of_ble_eq_true rfl) dL_law_933 ⟨show cells + 0 ≤ 601024 by omega, show slots + 0 ≤ 7293034 by omega⟩ (fun r w hq => ?_)
  obtain ⟨I1, O1, L1, K1, rfl, hq⟩ := hq
  refine g_ws (List.append_assoc _ _ _).symm ?_
  obtain ⟨⟨e1, e2, e3, e4⟩, hr⟩ := hq
  rw [e1, e2, e3, e4, hr]
  first | refine g_aload_n C dL_law_936 rfl ?_ | refine g_aload_nq C _ dL_law_936 rfl ?_
  first | refine g_aload_n C dL_law_937 rfl ?_ | refine g_aload_nq C _ dL_law_937 rfl ?_
  refine g_iload C dL_law_938 rfl ?_
  refine g_iconst C 1 dL_law_940 (by decide) ?_
  first | refine g_iadd C dL_law_941 ?_ | refine g_iaddx C dL_law_941 ?_
  refine g_sld C hX hbl hbA hLn dL_law_942 (by omega) ?_
  refine g_comm ?_
  refine f_callV C (F := cW g xa I O L K ++ [(xo, oE g f)]) (W1 := mW g xm V) (Cl := RX3) (ci := 3) (k_X3_ring l D g _ xm V hBV hN hV.1.2.2.2.2.2.2.1 (xs (4 * n + 1))) gL_law_X3_ring rfl rfl rfl (n := 1) (by decide +kernel) ⟨Nat.le_of_ble_eq_true rfl, Nat.le_of_ble_eq_true rfl⟩ (List.mem_of_getElem? (i := 0) rfl) rfl rfl rfl rfl (Nat.le_of_ble_eq_true rfl) dL_law_943 ⟨show cells + 0 + 0 ≤ 601024 by omega, show slots + 0 + 0 ≤ 7293034 by omega⟩ (fun r2 w hm => ?_)
  obtain ⟨V1, rfl, e9, hr2⟩ := hm
  refine g_comm ?_
  rw [e9, hr2]
  refine g_icmpx_eq C 1019 dL_law_946 (by decide) (fun c946 => ?_) (fun c946 => ?_)
  · exact g_lv (lv' := [(0, .ref b), (1, .ref (xa 0)), (2, .ref (xm 0)), (3, .ref xo), (4, .int (nI (4 * n)))]) (fun q hq => hq) (g_widen (by omega) (by omega) (k19 _ _ _ _ _ _ ((hB.thrown (by omega)).mono (by omega))))
  · exact absurd rfl c946
set_option maxRecDepth 100000 in
set_option maxHeartbeats 1000000 in
theorem st_free {p : Program} {l : Launch} {e : Env} {s : State} {m : MethodId} {args : Array Value} {below : List Frame} {meth : Method} {c : Code} {Q : State → Prop} {D : va_G} {A : Nat → Prop} {g : Nat → ClassId} {xa xm : Nat → Nat} {xo b Ln n N cells slots : Nat} {xs : Nat → Int32} {V I : VV} {O : OO} {L : List Nat} {K : Nat → Nat} {f : Nat → Int64}
    (C : CX p s m args meth c code 7 wsL_law RL D (tyG g) A s.heap ret) (hst : l.stackTraces = false) (T9 : XTC A s) (hX : va_X b Ln xs s s.heap) (hbl : b < s.heap.size) (hbA : ¬ A b) (hLn : Ln ≤ 2048) (h4 : 4 * n + 4 ≤ Ln) (hN2 : 20000 ≤ N) (hN4 : N + 4000 ≤ 2 ^ 30) (hB : LB N V I O L K) (hc : cells + 250 ≤ 601024) (hs : slots + 700 ≤ 7293034)
    (k19 : ∀ (V' I' : VV) (O' : OO) (L' : List Nat) (K' : Nat → Nat) (f' : Nat → Int64), LB (N + 4000) V' I' O' L' K' → GG p l e room_1 s m args below meth c Q 7 D A s.heap ((cW g xa I' O' L' K' ++ [(xo, oE g f')]) ++ mW g xm V') (cells + 250) (slots + 700) 1019 [(0, .ref b), (1, .ref (xa 0)), (2, .ref (xm 0)), (3, .ref xo), (4, .int (nI (4 * n)))] []) : GG p l e room_1 s m args below meth c Q 7 D A s.heap ((cW g xa I O L K ++ [(xo, oE g f)]) ++ mW g xm V) cells slots 762 [(0, .ref b), (1, .ref (xa 0)), (2, .ref (xm 0)), (3, .ref xo), (4, .int (nI (4 * n)))] [] := by
  obtain ⟨hV, hBV, hBI, hrc, own, hR⟩ := id hB
  have hN : N ≤ 2 ^ 30 := by omega
  have hC := hV.1.1
  have hla := hV.1.lat
  have hrw := hV.1.rows
  obtain ⟨fs, hfs⟩ := cX_this g xa I O L K
  have hIV := hV.thrown 0
  have hRV := hR.thrown (c := 0)
  have hBV0 : BdN (u2 V 25 0 0) N := hBV.up (by omega)
  have w3 : u2 V 25 0 0 3 0 = V 3 0 := rfl
  have w25 : u2 V 25 0 0 25 0 = 0 := u2_same _ _ _ _
  obtain ⟨W, hW⟩ : ∃ W, W = u2 V 25 0 0 := ⟨_, rfl⟩
  rw [← hW] at hIV hRV hBV0 w3 w25
  have hf3 : vFree W 3 0 = vFk (vBs W (vLK W) 200) (V 3 0) := by
    rw [← w3]
    unfold vFree
    rw [u2_same]
  have hFB : BdN (vFree W) (N + 4000) := by
    have h1 := ((hBV0.bs (v := vLK W) (by omega) 200).fs (W 3 0)).up (k := 3) (i := 0) (v := vFk (vBs W (vLK W) 200) (W 3 0)) (by have := vFk_le (vBs W (vLK W) 200) (W 3 0); have := hBV0 3 0; omega)
    exact BdN.mono (show BdN (vFree W) (N + 1) from h1) (by omega)
  have hIF := hIV.freeV
  have hTt : ∀ k, k < V 3 0 → V 0 k < 200 ∧ V 2 k ≤ 1 := fun k hk => ⟨(hV.2.1.1 k hk).1, (hV.2.1.1 k hk).2.1⟩
  first | refine g_aload_n C dL_law_762 rfl ?_ | refine g_aload_nq C _ dL_law_762 rfl ?_
  refine g_ws (List.append_assoc _ _ _) ?_
  refine f_callV C (F := [(xo, oE g f)] ++ mW g xm V) (W1 := cW g xa I O L K) (Cl := RX2) (ci := 2) (k_X2_free l D g _ xa I O L K hBI hN hIV.1 hRV (by rw [w3]; exact hrc) hIV.2.1 (fun i _ => hIV.2.2.1.2.2.1 i)) gL_law_X2_free rfl rfl rfl (n := 0) (by decide +kernel) ⟨Nat.le_of_ble_eq_true rfl, Nat.le_of_ble_eq_true rfl⟩ hfs rfl rfl rfl rfl (Nat.le_of_ble_eq_true rfl) dL_law_763 ⟨show cells + 0 ≤ 601024 by omega, show slots + 0 ≤ 7293034 by omega⟩ (fun r w hq => ?_)
  obtain ⟨I1, O1, L1, K1, rfl, hq⟩ := hq
  refine g_ws (List.append_assoc _ _ _).symm ?_
  obtain ⟨e3, e4, eO, hB1, hrc1, hR1, hr⟩ := hq
  rw [e3, e4, hr, hf3, w3]
  first | refine g_aload_n C dL_law_766 rfl ?_ | refine g_aload_nq C _ dL_law_766 rfl ?_
  refine g_comm ?_
  refine f_callV C (F := cW g xa I1 O1 L K ++ [(xo, oE g f)]) (W1 := mW g xm V) (Cl := RX3) (ci := 3) (k_X3_free l D g _ xm V hBV hN hN2 hV.1 hN4 hTt) gL_law_X3_free rfl rfl rfl (n := 0) (by decide +kernel) ⟨Nat.le_of_ble_eq_true rfl, Nat.le_of_ble_eq_true rfl⟩ (List.mem_of_getElem? (i := 0) rfl) rfl rfl rfl rfl (Nat.le_of_ble_eq_true rfl) dL_law_767 ⟨show cells + 0 + 0 ≤ 601024 by omega, show slots + 0 + 0 ≤ 7293034 by omega⟩ (fun r2 w hm => ?_)
  obtain ⟨V1, rfl, e9, hr2⟩ := hm
  refine g_comm ?_
  rw [← hW] at e9 hr2
  rw [e9, hr2]
  refine g_icmpx_eq C 1019 dL_law_770 (by decide) (fun c770 => ?_) (fun c770 => ?_)
  · exact g_lv (lv' := [(0, .ref b), (1, .ref (xa 0)), (2, .ref (xm 0)), (3, .ref xo), (4, .int (nI (4 * n)))]) (fun q hq => hq) (g_widen (by omega) (by omega) (k19 _ _ _ _ _ _ ⟨hIF, hFB, hB1.mono (by omega), hrc1, own, hR1⟩))
  · exact absurd rfl c770
