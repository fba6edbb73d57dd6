/-! throwing: what a method that throws needs of the state, and the rules -/
abbrev xIA : String := "java/lang/IllegalArgumentException"
abbrev xIS : String := "java/lang/IllegalStateException"
abbrev xNm : List String := ["java/lang/RuntimeException", "java/lang/Exception"]
def xBad : List Cond := [.castable xIA xIA, .castable xIS xIS, .declares ⟨"java/lang/RuntimeException", "<init>", "(Ljava/lang/String;)V"⟩, .declares ⟨"java/lang/Exception", "<init>", "(Ljava/lang/String;)V"⟩, .declares ⟨"java/lang/Throwable", "<init>", "(Ljava/lang/String;)V"⟩]
def xStr : List (Nat × String) := [(181, "no room for one more transaction"), (160, "no such version, or one below the least kept"), (149, "no such transaction"), (154, "no such triple"), (179, "not an open writer"), (156, "no such graph"), (170, "the transaction has ended"), (173, "the transaction waits"), (162, "no such pinned version"), (158, "no such kind of conflict")]
def XTC (A : Nat → Prop) (U : State) : Prop := vx_Zq Bundle.tN "UNASSIGNED_STACK" Bundle.steD A U U.heap ∧ vx_Zq Bundle.tN "SUPPRESSED_SENTINEL" Bundle.listD A U U.heap ∧ (∀ w ∈ xBad, va_Nw w U) ∧ (∀ q ∈ xStr, ∃ sa, vk_R RX2 q.1 q.2 sa U) ∧ va_Nc xIA xIS U ∧ va_Nc xIS xIA U
theorem xBad_warm {s U : State} (hW : s.WarmedH U.vm) (h : ∀ w ∈ xBad, va_Nw w s) : ∀ w ∈ xBad, va_Nw w U := by
  have hd : ∀ x : MethodName, va_Nw (.declares x) s → va_Nw (.declares x) U := fun x hZ => va_tabs rfl (rfl : (s.setVm U.vm).vm = U.vm) (by rw [Cond.declares_setVm hW.alike]; exact hZ)
  obtain ⟨h1, h⟩ := List.forall_mem_cons.mp h
  obtain ⟨h2, h⟩ := List.forall_mem_cons.mp h
  obtain ⟨h3, h⟩ := List.forall_mem_cons.mp h
  obtain ⟨h4, h⟩ := List.forall_mem_cons.mp h
  obtain ⟨h5, h⟩ := List.forall_mem_cons.mp h
  exact List.forall_mem_cons.mpr ⟨va_Nw.warmC hW h1, List.forall_mem_cons.mpr ⟨va_Nw.warmC hW h2, List.forall_mem_cons.mpr ⟨hd _ h3, List.forall_mem_cons.mpr ⟨hd _ h4, List.forall_mem_cons.mpr ⟨hd _ h5, fun _ h => absurd h List.not_mem_nil⟩⟩⟩⟩⟩
theorem XTC.go {A : Nat → Prop} {s U : State} {H : Heap} (h : XTC A s) (hq : ∀ a : Nat, a < s.heap.size → ¬ A a → H[a]? = s.heap[a]?) (hU : U.heap = H) (hW : s.WarmedH U.vm) : XTC A U := by
  obtain ⟨h1, h2, h3, h4, h5, h6⟩ := h
  refine ⟨?_, ?_, xBad_warm hW h3, fun q hq => ?_, va_Nc.moved hW.alike h5, va_Nc.moved hW.alike h6⟩
  · rw [hU]; exact vx_Zq.moved hW.alike (h1.kept hq)
  · rw [hU]; exact vx_Zq.moved hW.alike (h2.kept hq)
  · obtain ⟨sa, h⟩ := h4 q hq
    exact ⟨sa, vk_R.warm hW h⟩
theorem XTC.narrow {A B : Nat → Prop} {s : State} (h : XTC A s) (hAB : ∀ q, B q → A q) : XTC B s := ⟨h.1.narrow hAB, h.2.1.narrow hAB, h.2.2⟩
def xPre (D : va_G) (tys : List (ClassId × FieldType)) (A : Nat → Prop) (av : List Value) (W0 : va_W) : Array Value → State → Prop := fun a U => kPre D tys A av W0 a U ∧ XTC A U
def kX (D : va_G) (tys : List (ClassId × FieldType)) (A : Nat → Prop) (Qx : String → va_W → Prop) : String → State → State → Prop := fun E st t => ∃ w : va_W, Qx E w ∧ va_P D vwCl w t.heap ∧ va_K D vwCl tys t ∧ va_D A w ∧ va_F A st t
theorem xPre_blind {D : va_G} {tys : List (ClassId × FieldType)} {A : Nat → Prop} {av : List Value} {W0 : va_W} : FrameBlind (xPre D tys A av W0) := fun a U g mk q => ⟨kPre_blind a U g mk q.1, q.2.go (H := U.heap) (U := U.calling g mk a) (fun _ _ _ => rfl) rfl (State.WarmedH.refl U)⟩
def GX (p : Program) (l : Launch) (e : Env) (R : Room) (s : State) (m : MethodId) (args : Array Value) (below : List Frame) (meth : Method) (c : Code) (Q : State → Prop) (nL : Nat) (D : va_G) (A : Nat → Prop) (H0 : Heap) (ws : va_W) (cells slots pc : Nat) (lv : List (Nat × Value)) (st : List Value) (E : String) : Prop :=
  ∀ (H : Heap) (locs : List Loc) (ls : Array Slot) (q : Addr) (ce : Cell), va_P D vwCl ws H → va_D A ws → va_S A H0 H locs → LVh ls nL lv → H[q]? = some ce → ce.vm = .none → s.vm.findClass E = some ce.cls → vx_W p l e R s m args below meth c H locs cells slots Q (F0 m pc ls st) q
section GXR
variable {p : Program} {l : Launch} {e : Env} {R : Room} {s : State} {m : MethodId} {args : Array Value} {below : List Frame} {meth : Method} {c : Code} {Q : State → Prop} {cc : ByteArray} {nL : Nat} {Ts : List Cond} {own : String} {D : va_G} {tys : List (ClassId × FieldType)} {A : Nat → Prop} {H0 : Heap} {ret : Option FieldType} {ws : va_W} {cells slots pc : Nat} {lv : List (Nat × Value)} {st : List Value}
theorem x_ret {Qc : Array Value → State → Outcome → State → Prop} {XC : String → State → State → Prop} {mc ms : Nat} (k : GG p l e R s m args below meth c (MQ below Qc args s mc ms A) nL D A H0 ws cells slots pc lv st) : GG p l e R s m args below meth c (vx_MQ below Qc XC args s mc ms A) nL D A H0 ws cells slots pc lv st := fun H locs ls hP hD hS hl => vx_ret (k H locs ls hP hD hS hl)
theorem x_out (C : CX p s m args meth c cc nL Ts own D tys A s.heap ret) (hx : ∀ x ∈ c.exceptionTable.toList, False) {Qc : Array Value → State → Outcome → State → Prop} {Qx : String → va_W → Prop} {mc ms : Nat} {E : String} (hq : Qx E ws) (hc : cells ≤ mc) (hs : slots ≤ ms) : GX p l e R s m args below meth c (vx_MQ below Qc (kX D tys A Qx) args s mc ms A) nL D A s.heap ws cells slots pc lv st E := fun H locs ls q ce hP hD hS hl hce hv hcl =>
  vx_out (fun x h => (hx x h).elim) C.2.2.2.1 hce hv hcl (fun t ht hA => ⟨ws, hq, by rw [ht]; exact hP, va_K.moved hA C.2.1, hD, hS.F ht⟩) hS.2.2 hc hs
theorem x_throw (C : CX p s m args meth c cc nL Ts RX2 D tys A s.heap ret) (hst : l.stackTraces = false) (T : XTC A s) (hx : ∀ x ∈ c.exceptionTable.toList, False) {cls : String} {ik ix ic : Nat} (text : String) {Qc : Array Value → State → Outcome → State → Prop} {Qx : String → va_W → Prop} {mc ms : Nat} (hcl : cls = xIA ∧ ik = 147 ∧ ic = 151 ∨ cls = xIS ∧ ik = 168 ∧ ic = 172)
    (hlk : Cond.classLink RX2 ik cls ∈ Ts) (hini : Cond.initialized cls ∈ Ts) (hin : ∀ w ∈ (vx_atS RX2 ic cls xNm).filter goodWord, w ∈ Ts) (hstr : (ix, text) ∈ xStr)
    (d0 : decode cc pc = .ok (.new ik, 3)) (d3 : decode cc (pc + 3) = .ok (.dup, 1)) (d4 : decode cc (pc + 4) = .ok (.ldc ix, 2)) (d6 : decode cc (pc + 6) = .ok (.invokespecial ic, 3)) (d9 : decode cc (pc + 9) = .ok (.athrow, 1))
    (hF : 5 < R.frames) (hL : (st.map fun v => v.category).sum + 82 ≤ R.locals) (hRc : cells + 1 ≤ R.cells) (hRs : slots + 6 ≤ R.slots) (hq : Qx cls ws) (hc : cells + 1 ≤ mc) (hs : slots + 6 ≤ ms) :
    GG p l e R s m args below meth c (vx_MQ below Qc (kX D tys A Qx) args s mc ms A) nL D A s.heap ws cells slots pc lv st := fun H locs ls hP hD hS hl => by
  have ht := C.1.2.2.2.2
  obtain ⟨sa, hsa⟩ := T.2.2.2.1 _ hstr
  have hng : ∀ w ∈ (vx_atS RX2 ic cls xNm).filter (fun w => !goodWord w), w ∈ xBad := by
    rcases hcl with ⟨rfl, rfl, rfl⟩ | ⟨rfl, rfl, rfl⟩ <;> decide +kernel
  have hgd : ∀ w ∈ Cond.classLink RX2 ik cls :: Cond.initialized cls :: vx_atS RX2 ic cls xNm, vx_ot w = true := by
    rcases hcl with ⟨rfl, rfl, rfl⟩ | ⟨rfl, rfl, rfl⟩ <;> decide +kernel
  have hfit : Bundle.fit cls = true := by
    rcases hcl with ⟨rfl, rfl, rfl⟩ | ⟨rfl, rfl, rfl⟩ <;> decide +kernel
  have hbad : ∀ w ∈ xBad, w.before args s = true := fun w hw => va_Nw.use (by
    have h9 : ∀ w ∈ xBad, w.onTables = true := by decide +kernel
    exact h9 w hw) (T.2.2.1 w hw)
  exact vx_throwS (names := xNm) C.1.1 C.1.2.1 hst C.1.2.2.2.1 hfit (by decide +kernel) (ht _ hlk) (ht _ hini) hsa (vx_hat (fun w hw => ht w (hin w hw)) hng hbad) hgd T.1 T.2.1 hS (hl.1.1.trans C.1.2.2.1.symm) d0 d3 d4 d6 d9 (fun x h => (hx x h).elim) hF hL hRc hRs C.2.2.2.1
    (fun t hA hz hk => ⟨ws, hq, hP.kept (fun k q h9 => hk q.1 ((hP k q h9).lt)), va_K.moved hA C.2.1, hD, Nat.le_trans hS.1 hz, fun q h1 h2 => by rw [hk q (Nat.lt_of_lt_of_le h1 hS.1)]; exact hS.2.1 q h1 h2⟩) hS.2.2 hc hs
theorem x_ofRun (C : CX p s m args meth c cc nL Ts own D tys A H0 ret) {mc ms : Nat} {rest st0 : List Value} {a : Array Value} {Qy : Option Value → va_W → Prop} {Qx : String → va_W → Prop} {W1 : va_W}
    (hr : ∀ (H : Heap) (locs : List Loc) (ls : Array Slot), va_P D vwCl W1 H → va_D A W1 → va_S A H0 H locs → LVh ls nL lv → vx_Run p l e R s m args below meth c H locs cells slots mc ms (F0 m pc ls st0) rest (kPost D tys A Qy a) (kX D tys A Qx) A)
    (kk : ∀ (r : Option Value) (w : va_W), Qy r w → GG p l e R s m args below meth c Q nL D A H0 w (cells + mc) (slots + ms) (pc + 3) lv (r.toList ++ rest))
    (kx : ∀ (E : String) (w : va_W), Qx E w → GX p l e R s m args below meth c Q nL D A H0 w (cells + mc) (slots + ms) pc lv rest E) : GG p l e R s m args below meth c Q nL D A H0 W1 cells slots pc lv st0 := by
  intro H locs ls hP hD hS hl T hT X
  have hSn : ∀ (st₀ t T' : State) (L : List Loc), st₀.heap = H → (∀ q ∈ L, A q.base) → T'.heap = t.heap → va_F A st₀ t → va_S A H0 T'.heap (locs ++ L) := fun st₀ t T' L h0 hL e1 hF => by
    obtain ⟨hz, hk⟩ := hF
    rw [h0] at hz hk
    exact ⟨Nat.le_trans hS.1 (by rw [e1]; exact hz), fun q h1 h2 => by rw [e1, hk q (Nat.lt_of_lt_of_le h1 hS.1) h2]; exact hS.2.1 q h1 h2, fun q hq => by
      rcases List.mem_append.mp hq with h | h
      · exact hS.2.2 q h
      · exact hL q h⟩
  rcases hr H locs ls hP hD hS hl T hT X with ⟨v, st₀, t, T', L, h0, X', hL, e1, e2, ⟨r, w, hv, hq, hP1, hK1, hD1, hF1⟩, st9⟩ | ⟨q, st₀, t, T', L, E, ce, h0, X', hL, e1, e2, ⟨w, hq, hP1, hK1, hD1, hF1⟩, hce, hcv, hcl, st9⟩
  · cases hv
    obtain ⟨t2, a1, b1⟩ := kk v w hq T'.heap (locs ++ L) ls (by rw [e1]; exact hP1) hD1 (hSn st₀ t T' L h0 hL e1 hF1) hl T' rfl X'
    exact ⟨t2, st9 t2 a1, b1⟩
  · obtain ⟨t2, a1, b1⟩ := kx E w hq T'.heap (locs ++ L) ls q ce (by rw [e1]; exact hP1) hD1 (hSn st₀ t T' L h0 hL e1 hF1) hl (by rw [e1]; exact hce) hcv hcl T' rfl X'
    exact ⟨t2, st9.trans a1, b1⟩
theorem x_callV (C : CX p s m args meth c cc nL Ts own D tys A s.heap ret) (T : XTC A s) {y : MethodName} {wy wy' : List Cond} {rm : Room} {mc ms maxL index n ci : Nat} {bytes : ByteArray} {rt : Option FieldType} {Cl : String} {b : Nat} {As rest : List Value} {W1 : va_W} {Qy : Option Value → va_W → Prop} {Qx : String → va_W → Prop} {fs : List Value} {rc : vw_C}
    (hM : vx_Met l y wy rm (xPre D tys A (Value.ref b :: As) W1) (kPost D tys A Qy) (kX D tys A Qx) mc ms A) (hG : GoodIn Ts (wsV own index Cl y wy)) (hw : wy = Cond.code y bytes maxL rt :: wy') (hrc : rm.cells = mc) (hrs : rm.slots = ms)
    (hdy : y.cls = Cl ∧ y.cls ≠ "java/lang/invoke/MethodHandle" ∧ y.cls ≠ "java/lang/invoke/VarHandle" ∧ (parseMethodDescriptor y.desc).map (fun d => d.parameters.length) = some n) (hR : rm.frames + 1 ≤ R.frames ∧ 8 + (maxL + 11) + rm.locals ≤ R.locals)
    (hb : (b, .inr (ci, fs)) ∈ W1) (hci : vwCl[ci]? = some rc) (hrcl : rc.1 = Cl) (hn : As.length = n) (hst : st = As.reverse ++ .ref b :: rest) (hcat : (rest.map fun v => v.category).sum ≤ 8) (hd : decode cc pc = .ok (.invokevirtual index, 3)) (hf : cells + mc ≤ R.cells ∧ slots + ms ≤ R.slots)
    (kk : ∀ (r : Option Value) (w : va_W), Qy r w → GG p l e R s m args below meth c Q nL D A s.heap w (cells + mc) (slots + ms) (pc + 3) lv (r.toList ++ rest))
    (kx : ∀ (E : String) (w : va_W), Qx E w → GX p l e R s m args below meth c Q nL D A s.heap w (cells + mc) (slots + ms) pc lv rest E) : GG p l e R s m args below meth c Q nL D A s.heap W1 cells slots pc lv st := by
  refine x_ofRun C (a := (Value.ref b :: As).toArray) (fun H locs ls hP hD hS hl => ?_) kk kx
  obtain ⟨q0, hq0⟩ := List.getElem?_of_mem hb
  exact vx_runV (C := Cl) (n := n) C.1 hM (cwV n C.1.2.2.2.2 hG hw hrc hrs hdy hR) ⟨xPre_blind, by rw [← hrcl]; exact va_recv C.2.1 hP (q0 := q0) hci hq0, fun U hU hW => ⟨⟨rfl, fun q hq => C.2.2.1 q (by rw [hU] at hq; exact Nat.le_trans hS.1 hq), by rw [hU]; exact hP, va_K.moved hW.alike C.2.1, hD⟩, T.go hS.2.1 hU hW⟩⟩ rfl hn hl.1.1 hst (lv_room hcat) hd hf
theorem x_callS (C : CX p s m args meth c cc nL Ts own D tys A s.heap ret) (T : XTC A s) {y : MethodName} {wy wy' : List Cond} {rm : Room} {mc ms maxL index n : Nat} {bytes : ByteArray} {rt : Option FieldType} {As rest : List Value} {W1 : va_W} {Qy : Option Value → va_W → Prop} {Qx : String → va_W → Prop}
    (hM : vx_Met l y wy rm (xPre D tys A As W1) (kPost D tys A Qy) (kX D tys A Qx) mc ms A) (hG : GoodIn Ts (va_wsS own index y wy)) (hw : wy = Cond.code y bytes maxL rt :: wy') (hrc : rm.cells = mc) (hrs : rm.slots = ms)
    (hdy : y.cls ≠ "java/lang/invoke/MethodHandle" ∧ y.cls ≠ "java/lang/invoke/VarHandle" ∧ (parseMethodDescriptor y.desc).map (fun d => d.parameters.length) = some n) (hR : rm.frames + 1 ≤ R.frames ∧ 8 + (maxL + 11) + rm.locals ≤ R.locals)
    (hn : As.length = n) (hst : st = As.reverse ++ rest) (hcat : (rest.map fun v => v.category).sum ≤ 8) (hd : decode cc pc = .ok (.invokestatic index, 3)) (hf : cells + mc ≤ R.cells ∧ slots + ms ≤ R.slots)
    (kk : ∀ (r : Option Value) (w : va_W), Qy r w → GG p l e R s m args below meth c Q nL D A s.heap w (cells + mc) (slots + ms) (pc + 3) lv (r.toList ++ rest))
    (kx : ∀ (E : String) (w : va_W), Qx E w → GX p l e R s m args below meth c Q nL D A s.heap w (cells + mc) (slots + ms) pc lv rest E) : GG p l e R s m args below meth c Q nL D A s.heap W1 cells slots pc lv st := by
  refine x_ofRun C (a := As.toArray) (fun H locs ls hP hD hS hl => ?_) kk kx
  have ok : ∀ w ∈ va_wsS own index y wy, w.before args s = true := fun w h => C.1.2.2.2.2 w (hG w h).1
  exact vx_runS (n := n) C.1 hM ⟨callB_of n C.1.2.2.2.2 (fun w h => hG w (by unfold va_wsS; exact List.mem_append_right _ h)) hw hrc hrs (ok _ (by simp [va_wsS])) (ok _ (by simp [va_wsS])) hdy hR, ok _ (by simp [va_wsS])⟩ ⟨xPre_blind, fun U hU hW => ⟨⟨rfl, fun q hq => C.2.2.1 q (by rw [hU] at hq; exact Nat.le_trans hS.1 hq), by rw [hU]; exact hP, va_K.moved hW.alike C.2.1, hD⟩, T.go hS.2.1 hU hW⟩⟩ rfl hn hl.1.1 hst (lv_room hcat) hd hf
end GXR
theorem x_ofW {l : Launch} {y : MethodName} {wy wy' : List Cond} {rm : Room} {mc ms : Nat} {cc : ByteArray} {maxL : Nat} {ret : Option FieldType} {D : va_G} {tys : List (ClassId × FieldType)} {A : Nat → Prop} {av : List Value} {W0 : va_W} {Qp : Option Value → va_W → Prop} {Qx : String → va_W → Prop} (lv : List (Nat × Value))
    (hy : plainName y.cls = true) (hw : wy = Cond.code y cc maxL ret :: wy') (hn : (lg_sl av).length ≤ maxL) (hlv : lv_args 0 av = lv) (hc : ∀ q ∈ lv, q.2.category = 1)
    (body : ∀ (p : Program) (e : Env) (s : State) (m : MethodId) (args : Array Value) (below : List Frame) (meth : Method) (c : Code), CX p s m args meth c cc maxL wy y.cls D tys A s.heap ret → XTC A s → (∀ x ∈ c.exceptionTable.toList, False) →
      GG p l e rm s m args below meth c (vx_MQ below (kPost D tys A Qp) (kX D tys A Qx) args s mc ms A) maxL D A s.heap W0 0 0 0 lv []) : vx_Met l y wy rm (xPre D tys A av W0) (kPost D tys A Qp) (kX D tys A Qx) mc ms A := by
  refine vx_ofW (cc := cc) (maxL := maxL) (ret := ret) hy hw ?_
  intro p e s m args below meth c s₁ B hml hx hv
  obtain ⟨⟨rfl, hA, hP, hK, hD⟩, hT⟩ := hv
  have hts := atoms_spec (ws := wy) B.pre
  have hown : s.vm.findClass y.cls = some m.cls := findClass_of_methodNamed B.named
  rw [lg_entry_eq]
  exact body p e s m av.toArray below meth c ⟨⟨B.exec, B.bytes, hml, hown, hts⟩, hK, hA, B.notSynchronized, B.returns⟩ hT hx s.heap [] _ hP hD va_S.rf (by rw [← hlv]; exact lvh_entry av hn (by rw [hlv]; exact hc))
/-! the class's methods that throw -/
def CM (l : Launch) (y : MethodName) (wy : List Cond) (rm : Room) (mc ms : Nat) (D : va_G) (g : Nat → ClassId) (A : Nat → Prop) (xa : Nat → Nat) (av : List Value) (I : VV) (O : OO) (L : List Nat) (K : Nat → Nat) (Qc : Option Value → VV → OO → List Nat → (Nat → Nat) → Prop) (Qx : String → Prop) : Prop :=
  vx_Met l y wy rm (xPre D (tyG g) A av (cW g xa I O L K)) (kPost D (tyG g) A (fun r w => ∃ I' O' L' K', w = cW g xa I' O' L' K' ∧ Qc r I' O' L' K')) (kX D (tyG g) A (fun E w => w = cW g xa I O L K ∧ Qx E)) mc ms A
abbrev xQ (below : List Frame) (D : va_G) (g : Nat → ClassId) (A : Nat → Prop) (xa : Nat → Nat) (args : Array Value) (s : State) (mc ms : Nat) (I : VV) (O : OO) (L : List Nat) (K : Nat → Nat) (Qc : Option Value → VV → OO → List Nat → (Nat → Nat) → Prop) (Qx : String → Prop) : State → Prop := vx_MQ below (kPost D (tyG g) A (fun r w => ∃ I' O' L' K', w = cW g xa I' O' L' K' ∧ Qc r I' O' L' K')) (kX D (tyG g) A (fun E w => w = cW g xa I O L K ∧ Qx E)) args s mc ms A
section CMR
variable {p : Program} {l : Launch} {e : Env} {R : Room} {s : State} {m : MethodId} {args : Array Value} {below : List Frame} {meth : Method} {c : Code} {cc : ByteArray} {nL : Nat} {Ts : List Cond} {own : String} {D : va_G} {A : Nat → Prop} {ret : Option FieldType} {cells slots pc : Nat} {lv : List (Nat × Value)} {st : List Value} {g : Nat → ClassId} {xa : Nat → Nat} {I : VV} {O : OO} {L : List Nat} {K : Nat → Nat} {Qp : Option Value → VV → OO → List Nat → (Nat → Nat) → Prop} {Qx' : String → Prop} {mc' ms' : Nat}
theorem x_callC (C : CX p s m args meth c cc nL Ts own D (tyG g) A s.heap ret) (T : XTC A s) (hx : ∀ x ∈ c.exceptionTable.toList, False) {y : MethodName} {wy wy' : List Cond} {rm : Room} {mc ms maxL index n : Nat} {bytes : ByteArray} {rt : Option FieldType} {As rest : List Value} {Qc : Option Value → VV → OO → List Nat → (Nat → Nat) → Prop} {Qx : String → Prop}
    (hM : CM l y wy rm mc ms D g A xa (Value.ref (xa 0) :: As) I O L K Qc Qx) (hG : GoodIn Ts (wsV own index RX2 y wy)) (hd : decode cc pc = .ok (.invokevirtual index, 3)) (hw : wy = Cond.code y bytes maxL rt :: wy') (hrc : rm.cells = mc) (hrs : rm.slots = ms)
    (hdy : y.cls = RX2 ∧ y.cls ≠ "java/lang/invoke/MethodHandle" ∧ y.cls ≠ "java/lang/invoke/VarHandle" ∧ (parseMethodDescriptor y.desc).map (fun d => d.parameters.length) = some n) (hR : rm.frames + 1 ≤ R.frames ∧ 8 + (maxL + 11) + rm.locals ≤ R.locals)
    (hn : As.length = n) (hst : st = As.reverse ++ .ref (xa 0) :: rest) (hcat : (rest.map fun v => v.category).sum ≤ 8) (hf : cells + mc ≤ R.cells ∧ slots + ms ≤ R.slots)
    (kk : ∀ (r : Option Value) (I1 : VV) (O1 : OO) (L1 : List Nat) (K1 : Nat → Nat), Qc r I1 O1 L1 K1 → GG p l e R s m args below meth c (xQ below D g A xa args s mc' ms' I O L K Qp Qx') nL D A s.heap (cW g xa I1 O1 L1 K1) (cells + mc) (slots + ms) (pc + 3) lv (r.toList ++ rest))
    (hxx : ∀ E, Qx E → Qx' E) (hc : cells + mc ≤ mc') (hs : slots + ms ≤ ms') : GG p l e R s m args below meth c (xQ below D g A xa args s mc' ms' I O L K Qp Qx') nL D A s.heap (cW g xa I O L K) cells slots pc lv st := by
  obtain ⟨fs, hfs⟩ := cX_this g xa I O L K
  exact x_callV C T (Cl := RX2) (ci := 2) hM hG hw hrc hrs hdy hR hfs rfl rfl hn hst hcat hd hf (fun r w hq => by
    obtain ⟨I', O', L', K', rfl, hq⟩ := hq
    exact kk r I' O' L' K' hq) (fun E w hq => by
    obtain ⟨rfl, hq⟩ := hq
    exact x_out C hx ⟨rfl, hxx E hq⟩ hc hs)
theorem x_callCS (C : CX p s m args meth c cc nL Ts own D (tyG g) A s.heap ret) (T : XTC A s) (hx : ∀ x ∈ c.exceptionTable.toList, False) {y : MethodName} {wy wy' : List Cond} {rm : Room} {mc ms maxL index n : Nat} {bytes : ByteArray} {rt : Option FieldType} {As rest : List Value} {Qc : Option Value → VV → OO → List Nat → (Nat → Nat) → Prop} {Qx : String → Prop}
    (hM : CM l y wy rm mc ms D g A xa As I O L K Qc Qx) (hG : GoodIn Ts (va_wsS own index y wy)) (hd : decode cc pc = .ok (.invokestatic index, 3)) (hw : wy = Cond.code y bytes maxL rt :: wy') (hrc : rm.cells = mc) (hrs : rm.slots = ms)
    (hdy : y.cls ≠ "java/lang/invoke/MethodHandle" ∧ y.cls ≠ "java/lang/invoke/VarHandle" ∧ (parseMethodDescriptor y.desc).map (fun d => d.parameters.length) = some n) (hR : rm.frames + 1 ≤ R.frames ∧ 8 + (maxL + 11) + rm.locals ≤ R.locals)
    (hn : As.length = n) (hst : st = As.reverse ++ rest) (hcat : (rest.map fun v => v.category).sum ≤ 8) (hf : cells + mc ≤ R.cells ∧ slots + ms ≤ R.slots)
    (kk : ∀ (r : Option Value) (I1 : VV) (O1 : OO) (L1 : List Nat) (K1 : Nat → Nat), Qc r I1 O1 L1 K1 → GG p l e R s m args below meth c (xQ below D g A xa args s mc' ms' I O L K Qp Qx') nL D A s.heap (cW g xa I1 O1 L1 K1) (cells + mc) (slots + ms) (pc + 3) lv (r.toList ++ rest))
    (hxx : ∀ E, Qx E → Qx' E) (hc : cells + mc ≤ mc') (hs : slots + ms ≤ ms') : GG p l e R s m args below meth c (xQ below D g A xa args s mc' ms' I O L K Qp Qx') nL D A s.heap (cW g xa I O L K) cells slots pc lv st :=
  x_callS C T hM hG hw hrc hrs hdy hR hn hst hcat hd hf (fun r w hq => by
    obtain ⟨I', O', L', K', rfl, hq⟩ := hq
    exact kk r I' O' L' K' hq) (fun E w hq => by
    obtain ⟨rfl, hq⟩ := hq
    exact x_out C hx ⟨rfl, hxx E hq⟩ hc hs)
end CMR
