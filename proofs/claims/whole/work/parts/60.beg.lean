/-! the law's loop, and its beginning -/
theorem str_at {args : Array Value} {s : State} {own : String} {k : Nat} (h : (Cond.exactly (.string own k) "java/lang/String").before args s = true) : ∃ a : Nat, (Term.string own k).eval args s none [] s = some (.ref a) := by
  obtain ⟨a, _, _, _, h1, _⟩ := Cond.exactly_spec h
  exact ⟨a, h1⟩
section BEG
variable {p : Program} {l : Launch} {e : Env} {R : Room} {s : State} {m : MethodId} {args : Array Value} {below : List Frame} {meth : Method} {c : Code} {Q : State → Prop} {cc : ByteArray} {nL : Nat} {Ts : List Cond} {own : String} {D : va_G} {A : Nat → Prop} {H0 : Heap} {ret : Option FieldType} {ws F W1 : va_W} {cells slots pc : Nat} {lv : List (Nat × Value)} {st : List Value} {g : Nat → ClassId}
theorem g_swap {a b d : va_W} (k : GG p l e R s m args below meth c Q nL D A H0 ((a ++ d) ++ b) cells slots pc lv st) : GG p l e R s m args below meth c Q nL D A H0 ((a ++ b) ++ d) cells slots pc lv st := fun H locs ls hP hD hS hl => k H locs ls hP.swap hD.swap hS hl
theorem g_new2 (C : CX p s m args meth c cc nL Ts own D (tyG g) A H0 ret) {idx : Nat} (hin : ∀ w ∈ wsX20, w ∈ Ts) (hcl : Cond.classLink own idx RX2 ∈ Ts) (hinst : Cond.instantiable RX2 15 ∈ Ts) (hini : Cond.initialized RX2 ∈ Ts) (hd : decode cc pc = .ok (.new idx, 3)) (hc : cells + 1 ≤ R.cells) (hs : slots + 15 ≤ R.slots)
    (kk : ∀ q : Nat, GG p l e R s m args below meth c Q nL D A H0 (ws ++ [(q, .inr (2, [.null, .int 0, .null, .int 0, .int 0, .null, .null, .null, .null, .null, .null, .int 0, .null, .null, .int 0]))]) (cells + 1) (slots + 15) (pc + 3) lv (.ref q :: st)) : GG p l e R s m args below meth c Q nL D A H0 ws cells slots pc lv st := fun H locs ls hP hD hS hl => by
  have ht := C.1.2.2.2.2
  exact va_new (ci := 2) (fs := [.null, .int 0, .null, .int 0, .int 0, .null, .null, .null, .null, .null, .null, .int 0, .null, .null, .int 0]) (C := RX2) (T := TX2) (N := 15) C.1.1 C.1.2.1 ht hin tyX2 tyX2_ok C.1.2.2.2.1 (ht _ hcl) (ht _ hinst) (ht _ hini) C.2.1 hP hD hS C.2.2.1 rfl (by decide +kernel) hc hs hd (fun q H1 hP1 hD1 hS1 => kk q H1 locs ls hP1 hD1 hS1 hl)
theorem g_new3 (C : CX p s m args meth c cc nL Ts own D (tyG g) A H0 ret) {idx : Nat} (hin : ∀ w ∈ wsX30, w ∈ Ts) (hcl : Cond.classLink own idx RX3 ∈ Ts) (hinst : Cond.instantiable RX3 27 ∈ Ts) (hini : Cond.initialized RX3 ∈ Ts) (hd : decode cc pc = .ok (.new idx, 3)) (hc : cells + 1 ≤ R.cells) (hs : slots + 27 ≤ R.slots)
    (kk : ∀ q : Nat, GG p l e R s m args below meth c Q nL D A H0 (ws ++ [(q, .inr (3, [.null, .null, .null, .int 0, .int 0, .null, .null, .null, .null, .null, .null, .null, .null, .null, .null, .int 0, .int 0, .null, .null, .int 0, .int 0, .null, .int 0, .null, .null, .int 0, .null]))]) (cells + 1) (slots + 27) (pc + 3) lv (.ref q :: st)) : GG p l e R s m args below meth c Q nL D A H0 ws cells slots pc lv st := fun H locs ls hP hD hS hl => by
  have ht := C.1.2.2.2.2
  exact va_new (ci := 3) (fs := [.null, .null, .null, .int 0, .int 0, .null, .null, .null, .null, .null, .null, .null, .null, .null, .null, .int 0, .int 0, .null, .null, .int 0, .int 0, .null, .int 0, .null, .null, .int 0, .null]) (C := RX3) (T := TX3) (N := 27) C.1.1 C.1.2.1 ht hin tyX3 tyX3_ok C.1.2.2.2.1 (ht _ hcl) (ht _ hinst) (ht _ hini) C.2.1 hP hD hS C.2.2.1 rfl (by decide +kernel) hc hs hd (fun q H1 hP1 hD1 hS1 => kk q H1 locs ls hP1 hD1 hS1 hl)
theorem f_callI (C : CX p s m args meth c cc nL Ts own D (tyG g) A H0 ret) {Pc : Array Value → State → Prop} {y : MethodName} {wy wy' : List Cond} {rm : Room} {mc ms maxL index n : Nat} {bytes : ByteArray} {b : Nat} {As rest : List Value} {Qy : Option Value → va_W → Prop}
    (hM : Met l y wy rm Pc (kPost D (tyG g) (fA A F) Qy) mc ms (fA A F)) (hbl : FrameBlind Pc) (hpre : ∀ U : State, s.WarmedH U.vm → kPre D (tyG g) (fA A F) (Value.ref b :: As) W1 (Value.ref b :: As).toArray U → Pc (Value.ref b :: As).toArray U) (hG : GoodIn Ts wy) (hw : wy = Cond.code y bytes maxL none :: wy') (hrc : rm.cells = mc) (hrs : rm.slots = ms)
    (hini : Cond.initialized y.cls ∈ Ts) (hlk : Cond.methodLink own index y ∈ Ts) (hinst : Cond.instanceMethod y ∈ Ts) (hyn : y.name = "<init>")
    (hdy : y.cls ≠ "java/lang/invoke/MethodHandle" ∧ y.cls ≠ "java/lang/invoke/VarHandle" ∧ (parseMethodDescriptor y.desc).map (fun d => d.parameters.length) = some n) (hR : rm.frames + 1 ≤ R.frames ∧ 8 + (maxL + 11) + rm.locals ≤ R.locals)
    (hn : As.length = n) (hst : st = As.reverse ++ .ref b :: rest) (hcat : (rest.map fun v => v.category).sum ≤ 8) (hd : decode cc pc = .ok (.invokespecial index, 3)) (hf : cells + mc ≤ R.cells ∧ slots + ms ≤ R.slots)
    (kk : ∀ (r : Option Value) (w : va_W), Qy r w → GG p l e R s m args below meth c Q nL D A H0 (w ++ F) (cells + mc) (slots + ms) (pc + 3) lv (r.toList ++ rest)) : GG p l e R s m args below meth c Q nL D A H0 (W1 ++ F) cells slots pc lv st := by
  refine g_ofRun C (a := (Value.ref b :: As).toArray) (fun H locs ls hP hD hS hl => runM_frm hP hD ?_) (fun r w hq => by obtain ⟨w1, rfl, hq⟩ := hq; exact kk r w1 hq)
  exact va_runI (n := n) C.1 hM ⟨callB_of n C.1.2.2.2.2 hG hw hrc hrs (C.1.2.2.2.2 _ hini) (C.1.2.2.2.2 _ hlk) hdy hR, hyn, C.1.2.2.2.2 _ hinst⟩ ⟨hbl, fun U hU hW => hpre U hW ⟨rfl, by rw [hU]; exact fA_hi hP.r (fun q hq => C.2.2.1 q (Nat.le_trans hS.1 hq)), by rw [hU]; exact hP.l, va_K.moved hW.alike C.2.1, hD.l⟩⟩ rfl hn hl.1.1 hst (lv_room hcat) hd hf
end BEG
/-- at the beginning both are alike -/
theorem LB_0 : LB 20000 (vI 200) I0 O0 [] (fun _ => 0) := by
  have hk : ∀ k i, k ≠ 11 → k ≠ 17 → k ≠ 26 → vI 200 k i = 0 := fun k i h1 h2 h3 => by
    unfold vI V0
    rw [if_neg (fun z => h2 z.1), if_neg (fun z => by omega)]
  have h17 : ∀ k, k < 200 → vI 200 17 k = 0 := fun k h => by
    unfold vI
    rw [if_pos ⟨rfl, h⟩]
  have h16 : vI 200 16 0 = 0 := hk 16 0 (by decide) (by decide) (by decide)
  refine ⟨⟨?_, ⟨fun r hr => ?_, fun r s _ hs => ?_⟩, ⟨fun i k hi => ?_, fun j => ?_, fun i => ?_, fun i k _ _ => ?_⟩, ⟨fun i hi => ?_, fun v _ => ?_, fun i _ => ?_⟩, ?_⟩, fun k i => ?_, fun _ _ => (show (0 : Nat) < 20000 by decide), ?_, fun _ => 0, ?_, fun i hi => ?_, ⟨fun i hi => ?_, fun i j hi => ?_⟩, fun k hk9 => ?_, fun k hk9 => ?_, ?_⟩
  · unfold Iv
    rw [h16]
    refine ⟨by decide, fun i hi => absurd hi (Nat.not_lt_zero _), fun k hk9 => by rw [h17 k hk9]; exact Nat.le_refl _, fun j h1 h2 => ?_, ?_, ?_, ?_, ?_, ?_, fun j => ?_⟩
    · rw [hk 20 0 (by decide) (by decide) (by decide)] at h2; omega
    · rw [hk 19 0 (by decide) (by decide) (by decide)]; omega
    · rw [hk 20 0 (by decide) (by decide) (by decide)]; omega
    · rw [hk 22 0 (by decide) (by decide) (by decide)]; omega
    · rw [hk 3 0 (by decide) (by decide) (by decide)]; omega
    · rw [hk 4 0 (by decide) (by decide) (by decide)]; omega
    · rw [hk 9 j (by decide) (by decide) (by decide)]; decide
  · rw [hk 3 0 (by decide) (by decide) (by decide)] at hr; omega
  · rw [hk 3 0 (by decide) (by decide) (by decide)] at hs; omega
  · rw [h16] at hi; omega
  · rw [hk 10 j (by decide) (by decide) (by decide)]; decide
  · rw [hk 8 i (by decide) (by decide) (by decide)]; decide
  · exact hk 10 _ (by decide) (by decide) (by decide)
  · rw [h16] at hi; omega
  · exact hk 5 v (by decide) (by decide) (by decide)
  · exact hk 9 i (by decide) (by decide) (by decide)
  · rw [hk 19 0 (by decide) (by decide) (by decide), hk 20 0 (by decide) (by decide) (by decide)]
  · unfold vI V0
    split
    · decide
    · split <;> decide
  · exact (hk 3 0 (by decide) (by decide) (by decide)).symm
  · exact ⟨h16.symm, (hk 4 0 (by decide) (by decide) (by decide)).symm, (hk 22 0 (by decide) (by decide) (by decide)).symm, (hk 15 0 (by decide) (by decide) (by decide)).symm, fun v _ => (hk 5 v (by decide) (by decide) (by decide)).symm, fun k _ => (hk 23 k (by decide) (by decide) (by decide)).symm, fun k _ => (hk 24 k (by decide) (by decide) (by decide)).symm, fun k _ => (hk 21 k (by decide) (by decide) (by decide)).symm⟩
  · rw [h16] at hi; omega
  · rw [h16] at hi; omega
  · rw [h16] at hi; omega
  · rw [h17 k hk9]
    exact ⟨rfl, fun z => by omega⟩
  · rw [hk 3 0 (by decide) (by decide) (by decide)]
    rfl
  · exact ⟨fun _ => ⟨rfl, rfl⟩, fun z => by rw [hk 19 0 (by decide) (by decide) (by decide), hk 20 0 (by decide) (by decide) (by decide)] at z; omega⟩
set_option maxRecDepth 100000 in
set_option maxHeartbeats 2000000 in
theorem law_loop {p : Program} {l : Launch} {e : Env} {s : State} {m : MethodId} {below : List Frame} {meth : Method} {c : Code} {D : va_G} {g : Nat → ClassId} {xa xm : Nat → Nat} {xo b Ln : Nat} {xs : Nat → Int32}
    (C : CX p s m #[Value.ref b] meth c code 7 wsL_law RL D (tyG g) (fun q : Nat => s.heap.size ≤ q) s.heap ret) (hst : l.stackTraces = false) (T9 : XTC (fun q : Nat => s.heap.size ≤ q) s) (hX : va_X b Ln xs s s.heap) (hbl : b < s.heap.size) (hLn : Ln ≤ 2048) :
    ∀ (d n : Nat), Ln - 4 * n = d → n ≤ 512 → ∀ (V I : VV) (O : OO) (L : List Nat) (K : Nat → Nat) (f : Nat → Int64), LB (20000 + 4000 * n) V I O L K → GG p l e room_1 s m #[Value.ref b] below meth c (lw_Z below #[Value.ref b] s) 7 D (fun q : Nat => s.heap.size ≤ q) s.heap ((cW g xa I O L K ++ [(xo, oE g f)]) ++ mW g xm V) (40 + 250 * n) (60000 + 700 * n) 23 [(0, .ref b), (1, .ref (xa 0)), (2, .ref (xm 0)), (3, .ref xo), (4, .int (nI (4 * n)))] [] := by
  intro d
  induction d using Nat.strongRecOn with
  | _ d ih =>
    intro n hd hn V I O L K f hB
    have hbA : ¬ (fun q : Nat => s.heap.size ≤ q) b := Nat.not_le.mpr hbl
    refine g_iload C dL_law_23 rfl ?_
    first | refine g_aload_n C dL_law_25 rfl ?_ | refine g_aload_nq C _ dL_law_25 rfl ?_
    refine g_slen C hX hbl hbA dL_law_26 ?_
    refine g_iconst C 4 dL_law_27 (by decide) ?_
    refine g_isubx C dL_law_28 ?_
    refine g_icmpx_gt C 1025 dL_law_29 (by decide) (fun c29 => ?_) (fun c29 => ?_)
    · refine g_iconst C 1 dL_law_1025 (by decide) ?_
      intro H locs ls hP hD hS hl
      refine va_forget (fun q hq => hS.2.2 q hq) ?_
      refine W.widen (k := 601024) (n := 7293034) (by omega) (by omega) ?_
      exact lw_ret C.1.1 C.1.2.1 C.2.2.2.2 C.2.2.2.1 dL_law_1026
    · have h4 : 4 * n + 4 ≤ Ln := by
        rcases Nat.lt_or_ge Ln (4 * n + 4) with z | z
        · exact absurd ((len_gt (by omega) hLn).mpr (by omega)) c29
        · exact z
      have k19 : ∀ (V' I' : VV) (O' : OO) (L' : List Nat) (K' : Nat → Nat) (f' : Nat → Int64), LB (20000 + 4000 * n + 4000) V' I' O' L' K' → GG p l e room_1 s m #[Value.ref b] below meth c (lw_Z below #[Value.ref b] s) 7 D (fun q : Nat => s.heap.size ≤ q) s.heap ((cW g xa I' O' L' K' ++ [(xo, oE g f')]) ++ mW g xm V') (40 + 250 * n + 250) (60000 + 700 * n + 700) 1019 [(0, .ref b), (1, .ref (xa 0)), (2, .ref (xm 0)), (3, .ref xo), (4, .int (nI (4 * n)))] [] := by
        intro V' I' O' L' K' f' hB'
        refine g_iincx C dL_law_1019 rfl (nI_p4 _) (by decide) ?_
        refine g_goto C 23 dL_law_1022 (by decide) ?_
        have ih9 := ih _ (show Ln - 4 * (n + 1) < d by omega) (n + 1) rfl (by omega) V' I' O' L' K' f' (by rw [show 20000 + 4000 * (n + 1) = 20000 + 4000 * n + 4000 by omega]; exact hB')
        rw [show 4 * (n + 1) = 4 * n + 4 by omega, show 40 + 250 * (n + 1) = 40 + 250 * n + 250 by omega, show 60000 + 700 * (n + 1) = 60000 + 700 * n + 700 by omega] at ih9
        exact ih9
      first | refine g_aload_n C dL_law_32 rfl ?_ | refine g_aload_nq C _ dL_law_32 rfl ?_
      refine g_iload C dL_law_33 rfl ?_
      refine g_sld C hX hbl hbA hLn dL_law_35 (by omega) ?_
      refine g_bipush C 31 dL_law_36 (by decide) ?_
      refine g_iand C dL_law_38 ?_
      generalize hx9 : xs (4 * n) &&& nI 31 = x9
      by_cases z0 : x9.toInt = 0
      · exact g_tableIn C 124 dL_law_39 (by omega) (by omega) (show _ = some (85) by rw [z0]; rfl) (by decide) (st_begin C hst T9 hX hbl hbA hLn h4 (by omega) (by omega) hB (by omega) (by omega) k19)
      by_cases z1 : x9.toInt = 1
      · exact g_tableIn C 168 dL_law_39 (by omega) (by omega) (show _ = some (129) by rw [z1]; rfl) (by decide) (st_look C hst T9 hX hbl hbA hLn h4 (by omega) (by omega) hB (by omega) (by omega) k19)
      by_cases z2 : x9.toInt = 2
      · exact g_tableIn C 224 dL_law_39 (by omega) (by omega) (show _ = some (185) by rw [z2]; rfl) (by decide) (st_put C hst T9 hX hbl hbA hLn h4 (by omega) (by omega) hB (by omega) (by omega) k19)
      by_cases z3 : x9.toInt = 3
      · exact g_tableIn C 320 dL_law_39 (by omega) (by omega) (show _ = some (281) by rw [z3]; rfl) (by decide) (st_note C hst T9 hX hbl hbA hLn h4 (by omega) (by omega) hB (by omega) (by omega) k19)
      by_cases z4 : x9.toInt = 4
      · exact g_tableIn C 388 dL_law_39 (by omega) (by omega) (show _ = some (349) by rw [z4]; rfl) (by decide) (st_read C hst T9 hX hbl hbA hLn h4 (by omega) (by omega) hB (by omega) (by omega) k19)
      by_cases z5 : x9.toInt = 5
      · exact g_tableIn C 463 dL_law_39 (by omega) (by omega) (show _ = some (424) by rw [z5]; rfl) (by decide) (st_told C hst T9 hX hbl hbA hLn h4 (by omega) (by omega) hB (by omega) (by omega) k19)
      by_cases z6 : x9.toInt = 6
      · exact g_tableIn C 538 dL_law_39 (by omega) (by omega) (show _ = some (499) by rw [z6]; rfl) (by decide) (st_commit C hst T9 hX hbl hbA hLn h4 (by omega) (by omega) hB (by omega) (by omega) k19)
      by_cases z7 : x9.toInt = 7
      · exact g_tableIn C 594 dL_law_39 (by omega) (by omega) (show _ = some (555) by rw [z7]; rfl) (by decide) (st_abort C hst T9 hX hbl hbA hLn h4 (by omega) (by omega) hB (by omega) (by omega) k19)
      by_cases z8 : x9.toInt = 8
      · exact g_tableIn C 650 dL_law_39 (by omega) (by omega) (show _ = some (611) by rw [z8]; rfl) (by decide) (st_pin C hst T9 hX hbl hbA hLn h4 (by omega) (by omega) hB (by omega) (by omega) k19)
      by_cases z9 : x9.toInt = 9
      · exact g_tableIn C 706 dL_law_39 (by omega) (by omega) (show _ = some (667) by rw [z9]; rfl) (by decide) (st_unpin C hst T9 hX hbl hbA hLn h4 (by omega) (by omega) hB (by omega) (by omega) k19)
      by_cases z10 : x9.toInt = 10
      · exact g_tableIn C 762 dL_law_39 (by omega) (by omega) (show _ = some (723) by rw [z10]; rfl) (by decide) (st_free C hst T9 hX hbl hbA hLn h4 (by omega) (by omega) hB (by omega) (by omega) k19)
      by_cases z11 : x9.toInt = 11
      · exact g_tableIn C 775 dL_law_39 (by omega) (by omega) (show _ = some (736) by rw [z11]; rfl) (by decide) (st_rows C hst T9 hX hbl hbA hLn h4 (by omega) (by omega) hB (by omega) (by omega) k19)
      by_cases z12 : x9.toInt = 12
      · exact g_tableIn C 788 dL_law_39 (by omega) (by omega) (show _ = some (749) by rw [z12]; rfl) (by decide) (st_latest C hst T9 hX hbl hbA hLn h4 (by omega) (by omega) hB (by omega) (by omega) k19)
      by_cases z13 : x9.toInt = 13
      · exact g_tableIn C 801 dL_law_39 (by omega) (by omega) (show _ = some (762) by rw [z13]; rfl) (by decide) (st_least C hst T9 hX hbl hbA hLn h4 (by omega) (by omega) hB (by omega) (by omega) k19)
      by_cases z14 : x9.toInt = 14
      · exact g_tableIn C 814 dL_law_39 (by omega) (by omega) (show _ = some (775) by rw [z14]; rfl) (by decide) (st_state C hst T9 hX hbl hbA hLn h4 (by omega) (by omega) hB (by omega) (by omega) k19)
      by_cases z15 : x9.toInt = 15
      · exact g_tableIn C 870 dL_law_39 (by omega) (by omega) (show _ = some (831) by rw [z15]; rfl) (by decide) (st_waits C hst T9 hX hbl hbA hLn h4 (by omega) (by omega) hB (by omega) (by omega) k19)
      by_cases z16 : x9.toInt = 16
      · exact g_tableIn C 926 dL_law_39 (by omega) (by omega) (show _ = some (887) by rw [z16]; rfl) (by decide) (st_ring C hst T9 hX hbl hbA hLn h4 (by omega) (by omega) hB (by omega) (by omega) k19)
      by_cases z17 : x9.toInt = 17
      · exact g_tableIn C 951 dL_law_39 (by omega) (by omega) (show _ = some (912) by rw [z17]; rfl) (by decide) (st_conflicts C hst T9 hX hbl hbA hLn h4 (by omega) (by omega) hB (by omega) (by omega) k19)
      refine g_tableOut C 1019 dL_law_39 (show _ by omega) (by decide) ?_
      exact g_widen (by omega) (by omega) (k19 _ _ _ _ _ _ (hB.mono (by omega)))
/-- YOUR PART: from the entry, for every script of at most 2048 ints, the law comes to its end with true -/
theorem whole_start {p : Program} {e : Env} {s : State} {m : MethodId} {below : List Frame} {meth : Method} {c : Code} (l : Launch) (hst : l.stackTraces = false) {b L : Nat} {xs : Nat → Int32} (hL : L ≤ 2048) (C0 : lw_At p s m meth c b L xs) : W p l e room_1 s m #[Value.ref b] below meth c s.heap [] 0 0 (lw_Z below #[Value.ref b] s) (entryFrame m ([Value.ref b] : List Value).toArray 7) := by
  obtain ⟨hx, hb, hr, hml, hown, hts, hX, hbl, hlocks, hgv⟩ := id C0
  have hfl := flat_of_before _ hgv
  have hA : ∀ q : Nat, s.heap.size ≤ q → (fun q : Nat => s.heap.size ≤ q) q := fun _ h => h
  have hnA : ∀ a : Nat, a < s.heap.size → ¬ (fun q : Nat => s.heap.size ≤ q) a := fun a h => Nat.not_le.mpr h
  have htl : ∀ w ∈ wsL_law, w.before #[Value.ref b] s = true := fun w hw => hts w (wsL_law_in w hw)
  obtain ⟨c0, iS0, hKn0⟩ := u_known (C := RX0) (T := TX0) (N := 3) (n := 3) hts wl_wsX00 (hts (.instantiable RX0 3) (by decide +kernel))
  obtain ⟨c1, iS1, hKn1⟩ := u_known (C := RX1) (T := TX1) (N := 11) (n := 11) hts wl_wsX10 (hts (.instantiable RX1 11) (by decide +kernel))
  obtain ⟨c2, iS2, hKn2⟩ := u_known (C := RX2) (T := TX2) (N := 15) (n := 15) hts wl_wsX20 (hts (.instantiable RX2 15) (by decide +kernel))
  obtain ⟨c3, iS3, hKn3⟩ := u_known (C := RX3) (T := TX3) (N := 27) (n := 27) hts wl_wsX30 (hts (.instantiable RX3 27) (by decide +kernel))
  obtain ⟨dC, dI, hKc⟩ : ∃ (dC : Nat → ClassId) (dI : Nat → Nat → Nat), ∀ (k : Nat) (q : vw_C), vwCl[k]? = some q → u_Kn s q.1 q.2.1 q.2.2 (dC k) (dI k) := by
    refine ⟨fun k => if k = 0 then c0 else if k = 1 then c1 else if k = 2 then c2 else c3, fun k => if k = 0 then iS0 else if k = 1 then iS1 else if k = 2 then iS2 else iS3, ?_⟩
    intro k q hq
    match k, hq with
    | 0, hq => cases hq; exact hKn0
    | 1, hq => cases hq; exact hKn1
    | 2, hq => cases hq; exact hKn2
    | 3, hq => cases hq; exact hKn3
    | k + 4, hq => simp [vwCl] at hq
  obtain ⟨g0, k0, m0, f01, f02, f03⟩ := Cond.arrayClass_spec (hts (.arrayClass .int) (by decide +kernel))
  obtain ⟨g1, k1, m1, f11, f12, f13⟩ := Cond.arrayClass_spec (hts (.arrayClass .boolean) (by decide +kernel))
  obtain ⟨g4, k4, m4, f41, f42, f43⟩ := Cond.arrayClass_spec (hts (.arrayClass .long) (by decide +kernel))
  have hao1 : va_AO RX1 s := va_AO.of (hts (.arrayOver (.object RX1)) (by decide +kernel))
  have hao0 : va_AO RX0 s := va_AO.of (hts (.arrayOver (.object RX0)) (by decide +kernel))
  obtain ⟨m3, g3, k3, f31, -, f32, f33, f34⟩ := Cond.arrayOver_spec (n := RX1) hao1
  obtain ⟨m2, g2, k2, f21, -, f22, f23, f24⟩ := Cond.arrayOver_spec (n := RX0) hao0
  obtain ⟨g, hg0, hg1, hg2, hg3, hg4⟩ : ∃ g : Nat → ClassId, g 0 = g0 ∧ g 1 = g1 ∧ g 2 = g2 ∧ g 3 = g3 ∧ g 4 = g4 := ⟨fun k => if k = 0 then g0 else if k = 1 then g1 else if k = 2 then g2 else if k = 3 then g3 else g4, rfl, rfl, rfl, rfl, rfl⟩
  subst hg0 hg1 hg2 hg3 hg4
  have hK : va_K (dC, dI) vwCl (tyG g) s := by
    refine ⟨hKc, fun k q hq => ?_⟩
    match k, hq with
    | 0, hq => cases hq; exact ⟨fun N z => ⟨fun k h => (by cases h), k0, f02, m0, f03⟩, f01⟩
    | 1, hq => cases hq; exact ⟨fun N z => ⟨fun k h => (by cases h), k1, f12, m1, f13⟩, f11⟩
    | 2, hq => cases hq; exact ⟨fun N z => ⟨fun k h => (by cases h), k2, f22, m2, f23⟩, k2, m2, f22, f23, f21, f24⟩
    | 3, hq => cases hq; exact ⟨fun N z => ⟨fun k h => (by cases h), k3, f32, m3, f33⟩, k3, m3, f32, f33, f31, f34⟩
    | 4, hq => cases hq; exact ⟨fun N z => ⟨fun k h => (by cases h), k4, f42, m4, f43⟩, f41⟩
    | k + 5, hq => simp [tyG] at hq
  have C : CX p s m #[Value.ref b] meth c code 7 wsL_law RL (dC, dI) (tyG g) (fun q : Nat => s.heap.size ≤ q) s.heap ret := ⟨⟨hx, hb, hml, hown, htl⟩, hK, hA, hlocks, hr⟩
  have T9 : XTC (fun q : Nat => s.heap.size ≤ q) s := by
    refine ⟨vx_Zqof (hts _ (by decide +kernel)) (hts _ (by decide +kernel)) (hfl _ (by decide +kernel)) hnA, vx_Zqof (hts _ (by decide +kernel)) (hts _ (by decide +kernel)) (hfl _ (by decide +kernel)) hnA, fun w hw => ?_, fun q hq => ?_, va_Nc.of (hfl _ (by decide +kernel)), va_Nc.of (hfl _ (by decide +kernel))⟩
    · have h1 : ∀ w ∈ xBad, w ∈ lw_tbl ∧ w.onTables = true := by decide +kernel
      exact va_tabs (h1 w hw).2 rfl (hts w (h1 w hw).1)
    · have h1 : ∀ q ∈ xStr, Cond.stringRef RX2 q.1 q.2 ∈ lw_tbl := by decide +kernel
      have h2 : ∀ q ∈ xStr, (Cond.exactly (.string RX2 q.1) "java/lang/String").before #[Value.ref b] s = true := by
        unfold xStr
        simp only [List.forall_mem_cons]
        exact ⟨hfl _ (by decide +kernel), hfl _ (by decide +kernel), hfl _ (by decide +kernel), hfl _ (by decide +kernel), hfl _ (by decide +kernel), hfl _ (by decide +kernel), hfl _ (by decide +kernel), hfl _ (by decide +kernel), hfl _ (by decide +kernel), hfl _ (by decide +kernel), fun _ h => absurd h List.not_mem_nil⟩
      obtain ⟨sa, hsa⟩ := str_at (h2 q hq)
      exact ⟨sa, vk_R.of (hts _ (h1 q hq)) hsa⟩
  rw [lg_entry_eq]
  have start : GG p l e room_1 s m #[Value.ref b] below meth c (lw_Z below #[Value.ref b] s) 7 (dC, dI) (fun q : Nat => s.heap.size ≤ q) s.heap [] 0 0 0 [(0, .ref b)] [] := by
    refine g_new2 C inlX2 (by decide +kernel) (by decide +kernel) (by decide +kernel) dL_law_0 (Nat.le_of_ble_eq_true rfl) (Nat.le_of_ble_eq_true rfl) (fun q2 => ?_)
    refine g_dup C dL_law_3 rfl ?_
    refine g_ws (ws' := [(q2, .inr (2, [.null, .int 0, .null, .int 0, .int 0, .null, .null, .null, .null, .null, .null, .int 0, .null, .null, .int 0]))] ++ []) rfl ?_
    refine f_callI C (F := []) (W1 := [(q2, .inr (2, [.null, .int 0, .null, .int 0, .int 0, .null, .null, .null, .null, .null, .null, .int 0, .null, .null, .int 0]))]) (k_X2_init l (dC, dI) g _ q2) (fun a U g9 mk q => ⟨kPre_blind a U g9 mk q.1, q.2.1, q.2.2⟩) (fun U hW h => ⟨h, va_AO.moved hW.alike hao1, va_AO.moved hW.alike hao0⟩) gL_law_X2_init rfl rfl rfl (by decide +kernel) (by decide +kernel) (by decide +kernel) rfl (n := 0) (by decide +kernel) ⟨Nat.le_of_ble_eq_true rfl, Nat.le_of_ble_eq_true rfl⟩ rfl rfl (Nat.le_of_ble_eq_true rfl) dL_law_4 ⟨Nat.le_of_ble_eq_true rfl, Nat.le_of_ble_eq_true rfl⟩ (fun r w hq => ?_)
    obtain ⟨rfl, xa, rfl, rfl⟩ := hq
    refine g_ws (List.append_nil _) ?_
    refine g_astore_n C dL_law_7 (by decide) ?_
    refine g_new3 C inlX3 (by decide +kernel) (by decide +kernel) (by decide +kernel) dL_law_8 (Nat.le_of_ble_eq_true rfl) (Nat.le_of_ble_eq_true rfl) (fun q3 => ?_)
    refine g_dup C dL_law_11 rfl ?_
    refine g_comm ?_
    refine f_callI C (F := cW g xa I0 O0 [] (fun _ => 0)) (W1 := [(q3, .inr (3, [.null, .null, .null, .int 0, .int 0, .null, .null, .null, .null, .null, .null, .null, .null, .null, .null, .int 0, .int 0, .null, .null, .int 0, .int 0, .null, .int 0, .null, .null, .int 0, .null]))]) (k_X3_init l (dC, dI) g _ q3) kPre_blind (fun U hW h => h) gL_law_X3_init rfl rfl rfl (by decide +kernel) (by decide +kernel) (by decide +kernel) rfl (n := 0) (by decide +kernel) ⟨Nat.le_of_ble_eq_true rfl, Nat.le_of_ble_eq_true rfl⟩ rfl rfl (Nat.le_of_ble_eq_true rfl) dL_law_12 ⟨Nat.le_of_ble_eq_true rfl, Nat.le_of_ble_eq_true rfl⟩ (fun r w hq => ?_)
    obtain ⟨rfl, xm, rfl, rfl⟩ := hq
    refine g_comm ?_
    refine g_astore_n C dL_law_15 (by decide) ?_
    refine g_iconst C 1 dL_law_16 (by decide) ?_
    refine g_newA C (atype := .long) (ty := .long) (k := 4) (cK := g 4) (N' := 1) (1, .inr (.inl (fun _ => 0))) rfl (fun _ _ h => h) (by decide +kernel) rfl (fun cA => rfl) (by decide) (by decide) (Nat.le_of_ble_eq_true rfl) (Nat.le_of_ble_eq_true rfl) dL_law_17 (fun xo => ?_)
    refine g_swap ?_
    refine g_astore_n C dL_law_19 (by decide) ?_
    refine g_iconst C 0 dL_law_20 (by decide) ?_
    refine g_istore C dL_law_21 (by decide) ?_
    exact g_widen (k := 40 + 250 * 0) (n := 60000 + 700 * 0) (Nat.le_of_ble_eq_true rfl) (Nat.le_of_ble_eq_true rfl) (law_loop (xo := xo) C hst T9 hX hbl hL _ 0 rfl (by decide) _ _ _ _ _ _ LB_0)
  exact start s.heap [] _ (fun k q h => by simp at h) ⟨fun i j p q h => by simp at h, fun k q h => by simp at h⟩ va_S.rf (lvh_entry [.ref b] (Nat.le_of_ble_eq_true rfl) (by simp [Value.category, lv_args]))
