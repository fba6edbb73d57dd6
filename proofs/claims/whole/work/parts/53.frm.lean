/-! things beside the callee's world: the frame -/
def fA (A : Nat → Prop) (F : va_W) : Nat → Prop := fun q => A q ∧ ∀ z ∈ F, z.1 ≠ q
theorem va_P.l {D : va_G} {cl : List vw_C} {a b : va_W} {H : Heap} (h : va_P D cl (a ++ b) H) : va_P D cl a H := fun k q hk => h k q (by rw [List.getElem?_append_left (List.getElem?_eq_some_iff.mp hk).1]; exact hk)
theorem va_P.r {D : va_G} {cl : List vw_C} {a b : va_W} {H : Heap} (h : va_P D cl (a ++ b) H) : va_P D cl b H := fun k q hk => h (a.length + k) q (by rw [List.getElem?_append_right (by omega), show a.length + k - a.length = k by omega]; exact hk)
theorem va_D.l {A : Nat → Prop} {a b : va_W} (h : va_D A (a ++ b)) : va_D (fA A b) a := by
  have hl : ∀ (k : Nat) (q : Nat × va_E), a[k]? = some q → (a ++ b)[k]? = some q := fun k q hk => by rw [List.getElem?_append_left (List.getElem?_eq_some_iff.mp hk).1]; exact hk
  refine ⟨fun i j p q hi hj e => h.1 i j p q (hl i p hi) (hl j q hj) e, fun k q hk => ⟨h.2 k q (hl k q hk), fun z hz e => ?_⟩⟩
  obtain ⟨n, hn⟩ := List.getElem?_of_mem hz
  have h1 := h.1 k (a.length + n) q z (hl k q hk) (by rw [List.getElem?_append_right (by omega), show a.length + n - a.length = n by omega]; exact hn) e.symm
  have h2 := (List.getElem?_eq_some_iff.mp hk).1
  omega
theorem va_D.r {A : Nat → Prop} {a b : va_W} (h : va_D A (a ++ b)) : va_D A b := by
  have hr : ∀ (k : Nat) (q : Nat × va_E), b[k]? = some q → (a ++ b)[a.length + k]? = some q := fun k q hk => by rw [List.getElem?_append_right (by omega), show a.length + k - a.length = k by omega]; exact hk
  exact ⟨fun i j p q hi hj e => by have := h.1 _ _ p q (hr i p hi) (hr j q hj) e; omega, fun k q hk => h.2 _ q (hr k q hk)⟩
theorem va_D.both {A : Nat → Prop} {a b : va_W} (h1 : va_D (fA A b) a) (h2 : va_D A b) : va_D A (a ++ b) :=
  va_D.app (h1.weaken (fun _ _ _ h => h.1)) h2 (fun i j p q hi hj e => (h1.2 i p hi).2 q (List.mem_of_getElem? hj) e.symm)
theorem va_P.both {D : va_G} {cl : List vw_C} {a b : va_W} {H : Heap} (h1 : va_P D cl a H) (h2 : va_P D cl b H) : va_P D cl (a ++ b) H := h1.app h2
theorem fA_sub {A : Nat → Prop} {F : va_W} {q : Nat} (h : fA A F q) : A q := h.1
theorem fA_hi {D : va_G} {A : Nat → Prop} {F : va_W} {H : Heap} (hF : va_P D vwCl F H) (hA : ∀ q : Nat, H.size ≤ q → A q) : ∀ q : Nat, H.size ≤ q → fA A F q := fun q hq => ⟨hA q hq, fun z hz e => by
  obtain ⟨n, hn⟩ := List.getElem?_of_mem hz
  have := (hF n z hn).lt
  omega⟩
theorem F_kept {D : va_G} {A : Nat → Prop} {F : va_W} {H H1 : Heap} (hF : va_P D vwCl F H) (hk : ∀ q : Nat, q < H.size → ¬ fA A F q → H1[q]? = H[q]?) : va_P D vwCl F H1 := hF.kept (fun k q hq => hk q.1 ((hF k q hq).lt) (fun z => z.2 q (List.mem_of_getElem? hq) rfl))
theorem va_F.up {A : Nat → Prop} {F : va_W} {st t : State} (h : va_F (fA A F) st t) : va_F A st t := ⟨h.1, fun q h1 h2 => h.2 q h1 (fun z => h2 z.1)⟩
section FRM
variable {p : Program} {l : Launch} {e : Env} {R : Room} {s : State} {m : MethodId} {args : Array Value} {below : List Frame} {meth : Method} {c : Code} {Q : State → Prop} {cc : ByteArray} {nL : Nat} {Ts : List Cond} {own : String} {D : va_G} {tys : List (ClassId × FieldType)} {A : Nat → Prop} {H0 : Heap} {ret : Option FieldType} {ws : va_W} {cells slots pc : Nat} {lv : List (Nat × Value)} {st : List Value} {F W1 : va_W}
theorem g_comm {a b : va_W} (k : GG p l e R s m args below meth c Q nL D A H0 (b ++ a) cells slots pc lv st) : GG p l e R s m args below meth c Q nL D A H0 (a ++ b) cells slots pc lv st := fun H locs ls hP hD hS hl => by
  have h2 := hD.l
  refine k H locs ls (hP.r.both hP.l) (va_D.app hD.r (h2.weaken (fun _ _ _ h => h.1)) (fun i j p q hi hj e => ?_)) hS hl
  exact (h2.2 j q hj).2 p (List.mem_of_getElem? hi) e
/-- a run of a callee over its own world, seen with the frame beside it -/
theorem run_frm {H : Heap} {locs : List Loc} {mc ms : Nat} {g : JFrame} {rest : List Value} {a : Array Value} {Qy : Option Value → va_W → Prop} {Qx : String → va_W → Prop} (hP : va_P D vwCl (W1 ++ F) H) (hD : va_D A (W1 ++ F))
    (hr : vx_Run p l e R s m args below meth c H locs cells slots mc ms g rest (kPost D tys (fA A F) Qy a) (kX D tys (fA A F) Qx) (fA A F)) :
    vx_Run p l e R s m args below meth c H locs cells slots mc ms g rest (kPost D tys A (fun r w => ∃ w1, w = w1 ++ F ∧ Qy r w1) a) (kX D tys A (fun E w => ∃ w1, w = w1 ++ F ∧ Qx E w1)) A := by
  intro T hT X
  rcases hr T hT X with ⟨v, st₀, t, T', L, h0, X', hL, e1, e2, ⟨r, w, hv, hq, hP1, hK1, hD1, hF1⟩, st9⟩ | ⟨q, st₀, t, T', L, E, ce, h0, X', hL, e1, e2, ⟨w, hq, hP1, hK1, hD1, hF1⟩, hce, hcv, hcl, st9⟩
  · exact Or.inl ⟨v, st₀, t, T', L, h0, X', fun q hq => (hL q hq).1, e1, e2, ⟨r, w ++ F, hv, ⟨w, rfl, hq⟩, hP1.both (F_kept hP.r (by have := hF1.2; rw [h0] at this; exact this)), hK1, hD1.both hD.r, hF1.up⟩, st9⟩
  · exact Or.inr ⟨q, st₀, t, T', L, E, ce, h0, X', fun q hq => (hL q hq).1, e1, e2, ⟨w ++ F, ⟨w, rfl, hq⟩, hP1.both (F_kept hP.r (by have := hF1.2; rw [h0] at this; exact this)), hK1, hD1.both hD.r, hF1.up⟩, hce, hcv, hcl, st9⟩
theorem runM_frm {H : Heap} {locs : List Loc} {mc ms : Nat} {g : JFrame} {rest : List Value} {a : Array Value} {Qy : Option Value → va_W → Prop} (hP : va_P D vwCl (W1 ++ F) H) (hD : va_D A (W1 ++ F))
    (hr : va_Run p l e R s m args below meth c H locs cells slots mc ms g rest (kPost D tys (fA A F) Qy a) (fA A F)) :
    va_Run p l e R s m args below meth c H locs cells slots mc ms g rest (kPost D tys A (fun r w => ∃ w1, w = w1 ++ F ∧ Qy r w1) a) A := by
  intro T hT X
  obtain ⟨v, st₀, t, T', L, h0, X', hL, e1, e2, ⟨r, w, hv, hq, hP1, hK1, hD1, hF1⟩, st9⟩ := hr T hT X
  exact ⟨v, st₀, t, T', L, h0, X', fun q hq => (hL q hq).1, e1, e2, ⟨r, w ++ F, hv, ⟨w, rfl, hq⟩, hP1.both (F_kept hP.r (by have := hF1.2; rw [h0] at this; exact this)), hK1, hD1.both hD.r, hF1.up⟩, st9⟩
/-- a call of a method that doesn't throw, with a frame -/
theorem f_callV (C : CX p s m args meth c cc nL Ts own D tys A H0 ret) {y : MethodName} {wy wy' : List Cond} {rm : Room} {mc ms maxL index n ci : Nat} {bytes : ByteArray} {rt : Option FieldType} {Cl : String} {b : Nat} {As rest : List Value} {Qy : Option Value → va_W → Prop} {fs : List Value} {rc : vw_C}
    (hM : Met l y wy rm (kPre D tys (fA A F) (Value.ref b :: As) W1) (kPost D tys (fA A F) Qy) mc ms (fA A F)) (hG : GoodIn Ts (wsV own index Cl y wy)) (hw : wy = Cond.code y bytes maxL rt :: wy') (hrc : rm.cells = mc) (hrs : rm.slots = ms)
    (hdy : y.cls = Cl ∧ y.cls ≠ "java/lang/invoke/MethodHandle" ∧ y.cls ≠ "java/lang/invoke/VarHandle" ∧ (parseMethodDescriptor y.desc).map (fun d => d.parameters.length) = some n) (hR : rm.frames + 1 ≤ R.frames ∧ 8 + (maxL + 11) + rm.locals ≤ R.locals)
    (hb : (b, .inr (ci, fs)) ∈ W1) (hci : vwCl[ci]? = some rc) (hrcl : rc.1 = Cl) (hn : As.length = n) (hst : st = As.reverse ++ .ref b :: rest) (hcat : (rest.map fun v => v.category).sum ≤ 8) (hd : decode cc pc = .ok (.invokevirtual index, 3)) (hf : cells + mc ≤ R.cells ∧ slots + ms ≤ R.slots)
    (kk : ∀ (r : Option Value) (w : va_W), Qy r w → GG p l e R s m args below meth c Q nL D A H0 (w ++ F) (cells + mc) (slots + ms) (pc + 3) lv (r.toList ++ rest)) : GG p l e R s m args below meth c Q nL D A H0 (W1 ++ F) cells slots pc lv st := by
  refine g_ofRun C (a := (Value.ref b :: As).toArray) (fun H locs ls hP hD hS hl => runM_frm hP hD ?_) (fun r w hq => by obtain ⟨w1, rfl, hq⟩ := hq; exact kk r w1 hq)
  obtain ⟨q0, hq0⟩ := List.getElem?_of_mem hb
  exact va_runV (C := Cl) (n := n) C.1 hM (cwV n C.1.2.2.2.2 hG hw hrc hrs hdy hR) ⟨kPre_blind, by rw [← hrcl]; exact va_recv C.2.1 hP.l (q0 := q0) hci hq0, fun U hU hW => ⟨rfl, by rw [hU]; exact fA_hi hP.r (fun q hq => C.2.2.1 q (Nat.le_trans hS.1 hq)), by rw [hU]; exact hP.l, va_K.moved hW.alike C.2.1, hD.l⟩⟩ rfl hn hl.1.1 hst (lv_room hcat) hd hf
/-- a call of one that may throw, with a frame -/
theorem xf_callV (C : CX p s m args meth c cc nL Ts own D tys A s.heap ret) (T : XTC A s) {y : MethodName} {wy wy' : List Cond} {rm : Room} {mc ms maxL index n ci : Nat} {bytes : ByteArray} {rt : Option FieldType} {Cl : String} {b : Nat} {As rest : List Value} {Qy : Option Value → va_W → Prop} {Qx : String → va_W → Prop} {fs : List Value} {rc : vw_C}
    (hM : vx_Met l y wy rm (xPre D tys (fA A F) (Value.ref b :: As) W1) (kPost D tys (fA A F) Qy) (kX D tys (fA A F) Qx) mc ms (fA A F)) (hG : GoodIn Ts (wsV own index Cl y wy)) (hw : wy = Cond.code y bytes maxL rt :: wy') (hrc : rm.cells = mc) (hrs : rm.slots = ms)
    (hdy : y.cls = Cl ∧ y.cls ≠ "java/lang/invoke/MethodHandle" ∧ y.cls ≠ "java/lang/invoke/VarHandle" ∧ (parseMethodDescriptor y.desc).map (fun d => d.parameters.length) = some n) (hR : rm.frames + 1 ≤ R.frames ∧ 8 + (maxL + 11) + rm.locals ≤ R.locals)
    (hb : (b, .inr (ci, fs)) ∈ W1) (hci : vwCl[ci]? = some rc) (hrcl : rc.1 = Cl) (hn : As.length = n) (hst : st = As.reverse ++ .ref b :: rest) (hcat : (rest.map fun v => v.category).sum ≤ 8) (hd : decode cc pc = .ok (.invokevirtual index, 3)) (hf : cells + mc ≤ R.cells ∧ slots + ms ≤ R.slots)
    (kk : ∀ (r : Option Value) (w : va_W), Qy r w → GG p l e R s m args below meth c Q nL D A s.heap (w ++ F) (cells + mc) (slots + ms) (pc + 3) lv (r.toList ++ rest))
    (kx : ∀ (E : String) (w : va_W), Qx E w → GX p l e R s m args below meth c Q nL D A s.heap (w ++ F) (cells + mc) (slots + ms) pc lv rest E) : GG p l e R s m args below meth c Q nL D A s.heap (W1 ++ F) cells slots pc lv st := by
  refine x_ofRun C (a := (Value.ref b :: As).toArray) (fun H locs ls hP hD hS hl => run_frm hP hD ?_) (fun r w hq => by obtain ⟨w1, rfl, hq⟩ := hq; exact kk r w1 hq) (fun E w hq => by obtain ⟨w1, rfl, hq⟩ := hq; exact kx E w1 hq)
  obtain ⟨q0, hq0⟩ := List.getElem?_of_mem hb
  exact vx_runV (C := Cl) (n := n) C.1 hM (cwV n C.1.2.2.2.2 hG hw hrc hrs hdy hR) ⟨xPre_blind, by rw [← hrcl]; exact va_recv C.2.1 hP.l (q0 := q0) hci hq0, fun U hU hW => ⟨⟨rfl, by rw [hU]; exact fA_hi hP.r (fun q hq => C.2.2.1 q (Nat.le_trans hS.1 hq)), by rw [hU]; exact hP.l, va_K.moved hW.alike C.2.1, hD.l⟩, (T.go hS.2.1 hU hW).narrow (fun q h => h.1)⟩⟩ rfl hn hl.1.1 hst (lv_room hcat) hd hf
/-- a static call of one with a table of its own, that doesn't throw, with a frame -/
theorem xf_callSX (C : CX p s m args meth c cc nL Ts own D tys A s.heap ret) (T : XTC A s) {y : MethodName} {wy wy' : List Cond} {rm : Room} {mc ms maxL index n : Nat} {bytes : ByteArray} {rt : Option FieldType} {hh : List (Nat × Nat × Nat × Nat)} {As rest : List Value} {Qy : Option Value → va_W → Prop}
    (hM : vx_Met l y wy rm (xPre D tys (fA A F) As W1) (kPost D tys (fA A F) Qy) (kX D tys (fA A F) (fun _ _ => False)) mc ms (fA A F)) (hG : GoodIn Ts (va_wsS own index y wy)) (hw : wy = Cond.codeWith y bytes maxL rt hh :: wy') (hrc : rm.cells = mc) (hrs : rm.slots = ms)
    (hdy : y.cls ≠ "java/lang/invoke/MethodHandle" ∧ y.cls ≠ "java/lang/invoke/VarHandle" ∧ (parseMethodDescriptor y.desc).map (fun d => d.parameters.length) = some n) (hR : rm.frames + 1 ≤ R.frames ∧ 8 + (maxL + 11) + rm.locals ≤ R.locals)
    (hn : As.length = n) (hst : st = As.reverse ++ rest) (hcat : (rest.map fun v => v.category).sum ≤ 8) (hd : decode cc pc = .ok (.invokestatic index, 3)) (hf : cells + mc ≤ R.cells ∧ slots + ms ≤ R.slots)
    (kk : ∀ (r : Option Value) (w : va_W), Qy r w → GG p l e R s m args below meth c Q nL D A s.heap (w ++ F) (cells + mc) (slots + ms) (pc + 3) lv (r.toList ++ rest)) : GG p l e R s m args below meth c Q nL D A s.heap (W1 ++ F) cells slots pc lv st := by
  refine x_ofRun (Qx := fun E w => ∃ w1, w = w1 ++ F ∧ (fun _ _ => False : String → va_W → Prop) E w1) C (a := As.toArray) (fun H locs ls hP hD hS hl => run_frm hP hD ?_) (fun r w hq => by obtain ⟨w1, rfl, hq⟩ := hq; exact kk r w1 hq) (fun E w hq => by obtain ⟨w1, -, hq⟩ := hq; exact False.elim hq)
  exact vx_runSX (n := n) C.1 hM (vx_cwSW n C.1.2.2.2.2 hG hw hrc hrs hdy hR) ⟨xPre_blind, fun U hU hW => ⟨⟨rfl, by rw [hU]; exact fA_hi hP.r (fun q hq => C.2.2.1 q (Nat.le_trans hS.1 hq)), by rw [hU]; exact hP.l, va_K.moved hW.alike C.2.1, hD.l⟩, (T.go hS.2.1 hU hW).narrow (fun q h => h.1)⟩⟩ rfl hn hl.1.1 hst (lv_room hcat) hd hf
end FRM
