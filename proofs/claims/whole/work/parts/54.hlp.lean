/-! the law's helpers: the class's world and the row out; what is caught -/
def oE (g : Nat → ClassId) (f : Nat → Int64) : va_E := .inl (g 4, 1, .inr (.inl f))
def HM (l : Launch) (y : MethodName) (wy : List Cond) (rm : Room) (mc ms : Nat) (D : va_G) (g : Nat → ClassId) (A : Nat → Prop) (xa : Nat → Nat) (xo : Nat) (av : List Value) (I : VV) (O : OO) (L : List Nat) (K : Nat → Nat) (f : Nat → Int64) (Qh : Option Value → VV → OO → List Nat → (Nat → Nat) → (Nat → Int64) → Prop) : Prop :=
  vx_Met l y wy rm (xPre D (tyG g) A av (cW g xa I O L K ++ [(xo, oE g f)])) (kPost D (tyG g) A (fun r w => ∃ I' O' L' K' f', w = cW g xa I' O' L' K' ++ [(xo, oE g f')] ∧ Qh r I' O' L' K' f')) (kX D (tyG g) A (fun _ _ => False)) mc ms A
section HLP
variable {p : Program} {l : Launch} {e : Env} {R : Room} {s : State} {m : MethodId} {args : Array Value} {below : List Frame} {meth : Method} {c : Code} {Q : State → Prop} {cc : ByteArray} {nL : Nat} {Ts : List Cond} {own : String} {D : va_G} {A : Nat → Prop} {H0 : Heap} {ret : Option FieldType} {ws w : va_W} {cells slots pc : Nat} {lv : List (Nat × Value)} {st : List Value} {g : Nat → ClassId} {xo : Nat} {f : Nat → Int64}
theorem g_lastore (C : CX p s m args meth c cc nL Ts own D (tyG g) A H0 ret) {v : Int64} (hd : decode cc pc = .ok (.lastore, 1)) (kk : GG p l e R s m args below meth c Q nL D A H0 (w ++ [(xo, oE g (vp_updL f 0 v))]) cells slots (pc + 1) lv st) : GG p l e R s m args below meth c Q nL D A H0 (w ++ [(xo, oE g f)]) cells slots pc lv (.long v :: .int (nI 0) :: .ref xo :: st) := fun H locs ls hP hD hS hl => by
  refine va_last C.1.1 C.1.2.1 C.2.1 hP hD hS w.length 4 (by rw [List.getElem?_append_right (Nat.le_refl _), Nat.sub_self]; rfl) rfl (vp_in_nI (by decide) (by decide)) hd (fun H1 locs1 hP1 hD1 hS1 => ?_)
  have hE : (w ++ [(xo, oE g f)]).set w.length (xo, .inl (g 4, 1, .inr (.inl (vp_updL f (nI 0).toNatClampNeg v)))) = w ++ [(xo, oE g (vp_updL f 0 v))] := by
    rw [List.set_append_right _ _ (Nat.le_refl _), Nat.sub_self, nI_clamp (by decide)]
    rfl
  exact kk H1 locs1 ls (hE ▸ hP1) (hE ▸ hD1) hS1 hl
theorem x_catch (C : CX p s m args meth c cc nL Ts own D (tyG g) A s.heap ret) (T : XTC A s) {E : String} {hh : List (Nat × Nat × Nat × Nat)} (pre : List ExceptionTableEntry) (x : ExceptionTableEntry) (suf : List ExceptionTableEntry) (htb : c.exceptionTable.toList = tableOf hh) (hsp : tableOf hh = pre ++ x :: suf)
    (hpass : ∀ z ∈ pre, z.catchType ≠ 0 ∧ ∃ nm : String, Cond.classLink own z.catchType nm ∈ Ts ∧ va_Nc E nm s) (hx : covers x pc = true) (h0 : x.catchType ≠ 0) (hlk : Cond.classLink own x.catchType E ∈ Ts) (hE : Cond.castable E E ∈ xBad)
    (kk : ∀ q : Nat, GG p l e R s m args below meth c Q nL D A s.heap ws cells slots x.handlerPc lv [.ref q]) : GX p l e R s m args below meth c Q nL D A s.heap ws cells slots pc lv st E := fun H locs ls q ce hP hD hS hl hce hv hcl =>
  vx_catch C.1.2.2.2.1 pre x suf (htb.trans hsp) (fun z hz => Or.inr ⟨(hpass z hz).1, by obtain ⟨nm, h1, h2⟩ := (hpass z hz).2; exact ⟨nm, C.1.2.2.2.2 _ h1, h2⟩⟩) hx h0 (C.1.2.2.2.2 _ hlk) (va_Nw.use rfl (T.2.2.1 _ hE)) hce hv hcl (kk q H locs ls hP hD hS hl)
end HLP
theorem x_ofWH {l : Launch} {y : MethodName} {wy wy' : List Cond} {rm : Room} {mc ms : Nat} {cc : ByteArray} {maxL : Nat} {ret : Option FieldType} {hh : List (Nat × Nat × Nat × Nat)} {D : va_G} {tys : List (ClassId × FieldType)} {A : Nat → Prop} {av : List Value} {W0 : va_W} {Qp : Option Value → va_W → Prop} {Qx : String → va_W → Prop} (lv : List (Nat × Value))
    (hy : plainName y.cls = true) (hw : wy = Cond.codeWith y cc maxL ret hh :: wy') (hn : (lg_sl av).length ≤ maxL) (hlv : lv_args 0 av = lv) (hc : ∀ q ∈ lv, q.2.category = 1)
    (body : ∀ (p : Program) (e : Env) (s : State) (m : MethodId) (args : Array Value) (below : List Frame) (meth : Method) (c : Code), CX p s m args meth c cc maxL wy y.cls D tys A s.heap ret → XTC A s → c.exceptionTable.toList = tableOf hh →
      GG p l e rm s m args below meth c (vx_MQ below (kPost D tys A Qp) (kX D tys A Qx) args s mc ms A) maxL D A s.heap W0 0 0 0 lv []) : vx_Met l y wy rm (xPre D tys A av W0) (kPost D tys A Qp) (kX D tys A Qx) mc ms A := by
  refine vx_ofWH (cc := cc) (maxL := maxL) (ret := ret) (hh := hh) hy hw ?_
  intro p e s m args below meth c s₁ B hml hv
  obtain ⟨⟨rfl, hA, hP, hK, hD⟩, hT⟩ := hv
  have hts := atoms_spec (ws := wy) B.pre
  have hown : s.vm.findClass y.cls = some m.cls := findClass_of_methodNamed B.named
  have htb := vx_table (x := y) B (hts _ (by rw [hw]; exact List.mem_cons_self))
  rw [lg_entry_eq]
  exact body p e s m av.toArray below meth c ⟨⟨B.exec, B.bytes, hml, hown, hts⟩, hK, hA, B.notSynchronized, B.returns⟩ hT htb s.heap [] _ hP hD va_S.rf (by rw [← hlv]; exact lvh_entry av hn (by rw [hlv]; exact hc))
