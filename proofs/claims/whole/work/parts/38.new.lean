/-! new objects in the pool -/
theorem va_D.fresh {A : Nat → Prop} {X : va_W} {L : List Nat} {f : Nat → va_E} {q : Nat} {e : va_E} (hD : va_D A ((X ++ va_pl L f) ++ [(q, e)])) : q ∉ L := fun hq => by
  obtain ⟨k, hk⟩ := va_pl_get (X := X) (f := f) hq
  have hl := (List.getElem?_eq_some_iff.mp hk).1
  have h1 : ((X ++ va_pl L f) ++ [(q, e)])[k]? = some (q, f q) := by rw [List.getElem?_append_left hl]; exact hk
  have h2 : ((X ++ va_pl L f) ++ [(q, e)])[(X ++ va_pl L f).length]? = some (q, e) := by rw [List.getElem?_append_right (Nat.le_refl _), Nat.sub_self]; rfl
  have := hD.1 _ _ _ _ h1 h2 rfl
  omega
theorem cw_push {g : Nat → ClassId} {xa : Nat → Nat} {I I' : VV} {O O' : OO} {L : List Nat} {K K' : Nat → Nat} {q : Nat} {e : va_E} (hq : q ∉ L) (hX : cX g xa I' O' = cX g xa I O) (hf : ∀ b, va_up (pf g I O K) q e b = pf g I' O' K' b) : cW g xa I O L K ++ [(q, e)] = cW g xa I' O' (L ++ [q]) K' := by
  unfold cW
  rw [hX, List.append_assoc, va_pl_push hq, va_pl_congr hf]
section NEW
variable {p : Program} {l : Launch} {e : Env} {R : Room} {s : State} {m : MethodId} {args : Array Value} {below : List Frame} {meth : Method} {c : Code} {Q : State → Prop} {cc : ByteArray} {nL : Nat} {Ts : List Cond} {own : String} {D : va_G} {A : Nat → Prop} {H0 : Heap} {ret : Option FieldType} {cells slots pc : Nat} {lv : List (Nat × Value)} {st : List Value} {g : Nat → ClassId} {xa : Nat → Nat} {I : VV} {O : OO} {L : List Nat} {K : Nat → Nat}
theorem g_newRow (C : CX p s m args meth c cc nL Ts own D (tyG g) A H0 ret) {idx : Nat} (hin : ∀ w ∈ wsX00, w ∈ Ts) (hcl : Cond.classLink own idx RX0 ∈ Ts) (hinst : Cond.instantiable RX0 3 ∈ Ts) (hini : Cond.initialized RX0 ∈ Ts) (hd : decode cc pc = .ok (.new idx, 3)) (hc : cells + 1 ≤ R.cells) (hs : slots + 3 ≤ R.slots)
    (kk : ∀ q : Nat, q ∉ L → GG p l e R s m args below meth c Q nL D A H0 (cW g xa (u2 (u2 I 10 q 0) 11 q 0) (u2 O 5 q none) (L ++ [q]) (va_up K q 0)) (cells + 1) (slots + 3) (pc + 3) lv (.ref q :: st)) : GG p l e R s m args below meth c Q nL D A H0 (cW g xa I O L K) cells slots pc lv st := fun H locs ls hP hD hS hl => by
  have ht := C.1.2.2.2.2
  refine va_new (ci := 0) (fs := [.int 0, .int 0, .null]) (C := RX0) (T := TX0) (N := 3) C.1.1 C.1.2.1 ht hin tyX0 tyX0_ok C.1.2.2.2.1 (ht _ hcl) (ht _ hinst) (ht _ hini) C.2.1 hP hD hS C.2.2.1 rfl (fun j hj => by rcases (show j = 0 ∨ j = 1 ∨ j = 2 by omega) with rfl | rfl | rfl <;> rfl) hc hs hd (fun q H1 hP1 hD1 hS1 => ?_)
  have hq : q ∉ L := va_D.fresh hD1
  have hE : cW g xa I O L K ++ [(q, .inr (0, [.int 0, .int 0, .null]))] = cW g xa (u2 (u2 I 10 q 0) 11 q 0) (u2 O 5 q none) (L ++ [q]) (va_up K q 0) := cw_push hq rfl (fun b => by
    by_cases hb : b = q
    · subst hb
      rw [va_up_self, pf_row (va_up_self _ _ _)]
      simp [u2_eq, nI_0, va_rf]
    · rw [va_up_ne _ _ hb]
      simp [pf, u2_eq, hb, va_up])
  exact kk q hq H1 locs ls (hE ▸ hP1) (hE ▸ hD1) hS1 hl
theorem g_newTx (C : CX p s m args meth c cc nL Ts own D (tyG g) A H0 ret) {idx : Nat} (hin : ∀ w ∈ wsX10, w ∈ Ts) (hcl : Cond.classLink own idx RX1 ∈ Ts) (hinst : Cond.instantiable RX1 11 ∈ Ts) (hini : Cond.initialized RX1 ∈ Ts) (hd : decode cc pc = .ok (.new idx, 3)) (hc : cells + 1 ≤ R.cells) (hs : slots + 11 ≤ R.slots)
    (kk : ∀ q : Nat, q ∉ L → GG p l e R s m args below meth c Q nL D A H0 (cW g xa (u2 (u2 (u2 (u2 (u2 (u2 (u2 (u2 I 12 q 0) 13 q 0) 14 q 0) 15 q 0) 16 q 0) 17 q 0) 18 q 0) 19 q 0) (u2 (u2 (u2 O 6 q none) 7 q none) 8 q none) (L ++ [q]) (va_up K q 1)) (cells + 1) (slots + 11) (pc + 3) lv (.ref q :: st)) : GG p l e R s m args below meth c Q nL D A H0 (cW g xa I O L K) cells slots pc lv st := fun H locs ls hP hD hS hl => by
  have ht := C.1.2.2.2.2
  refine va_new (ci := 1) (fs := [.int 0, .int 0, .int 0, .null, .int 0, .int 0, .null, .int 0, .int 0, .int 0, .null]) (C := RX1) (T := TX1) (N := 11) C.1.1 C.1.2.1 ht hin tyX1 tyX1_ok C.1.2.2.2.1 (ht _ hcl) (ht _ hinst) (ht _ hini) C.2.1 hP hD hS C.2.2.1 rfl (fun j hj => by rcases (show j = 0 ∨ j = 1 ∨ j = 2 ∨ j = 3 ∨ j = 4 ∨ j = 5 ∨ j = 6 ∨ j = 7 ∨ j = 8 ∨ j = 9 ∨ j = 10 by omega) with rfl | rfl | rfl | rfl | rfl | rfl | rfl | rfl | rfl | rfl | rfl <;> rfl) hc hs hd (fun q H1 hP1 hD1 hS1 => ?_)
  have hq : q ∉ L := va_D.fresh hD1
  have hE : cW g xa I O L K ++ [(q, .inr (1, [.int 0, .int 0, .int 0, .null, .int 0, .int 0, .null, .int 0, .int 0, .int 0, .null]))] = cW g xa (u2 (u2 (u2 (u2 (u2 (u2 (u2 (u2 I 12 q 0) 13 q 0) 14 q 0) 15 q 0) 16 q 0) 17 q 0) 18 q 0) 19 q 0) (u2 (u2 (u2 O 6 q none) 7 q none) 8 q none) (L ++ [q]) (va_up K q 1) := cw_push hq rfl (fun b => by
    by_cases hb : b = q
    · subst hb
      rw [va_up_self, pf_tx (va_up_self _ _ _)]
      simp [u2_eq, nI_0, va_rf]
    · rw [va_up_ne _ _ hb]
      simp [pf, u2_eq, hb, va_up])
  exact kk q hq H1 locs ls (hE ▸ hP1) (hE ▸ hD1) hS1 hl
theorem g_objInit (C : CX p s m args meth c cc nL Ts own D (tyG g) A H0 ret) {idx a : Nat} (h1 : Cond.methodLink own idx objectInit ∈ Ts) (h2 : Cond.instanceMethod objectInit ∈ Ts) (h3 : Cond.code objectInit ⟨#[0xb1]⟩ 1 none ∈ Ts) (hd : decode cc pc = .ok (.invokespecial idx, 3)) (hf : 1 ≤ R.frames) (hlo : (st.map fun v => v.category).sum + 12 ≤ R.locals) {ws : va_W} (kk : GG p l e R s m args below meth c Q nL D A H0 ws cells slots (pc + 3) lv st) : GG p l e R s m args below meth c Q nL D A H0 ws cells slots pc lv (.ref a :: st) := fun H locs ls hP hD hS hl => by
  have ht := C.1.2.2.2.2
  refine W.objInit C.1.1 C.1.2.1 C.1.2.2.2.1 (ht _ h1) (ht _ h2) (ht _ h3) rfl (by rw [C.1.2.2.1]; exact hl.1.1) rfl hd hf (by show 2 * 0 + _ + 12 ≤ _; omega) ?_
  exact kk H locs ls hP hD hS hl
end NEW
theorem k_ofWI {l : Launch} {y : MethodName} {wy wy' : List Cond} {rm : Room} {mc ms : Nat} {cc : ByteArray} {maxL : Nat} {ret : Option FieldType} {D : va_G} {tys : List (ClassId × FieldType)} {A : Nat → Prop} {av : List Value} {W0 : va_W} {Qp : Option Value → va_W → Prop} (lv : List (Nat × Value))
    (hy : plainName y.cls = true) (hw : wy = Cond.code y cc maxL ret :: wy') (hn : (lg_sl av).length ≤ maxL) (hlv : lv_args 0 av = lv) (hc : ∀ q ∈ lv, q.2.category = 1)
    (body : ∀ (p : Program) (e : Env) (s : State) (m : MethodId) (args : Array Value) (below : List Frame) (meth : Method) (c : Code), CX p s m args meth c cc maxL wy y.cls D tys A s.heap ret → meth.name = y.name →
      GG p l e rm s m args below meth c (MQ below (kPost D tys A Qp) args s mc ms A) maxL D A s.heap W0 0 0 0 lv []) : Met l y wy rm (kPre D tys A av W0) (kPost D tys A Qp) mc ms A := by
  refine Met.ofW (cc := cc) (maxL := maxL) (ret := ret) hy hw ?_
  intro p e s m args below meth c s₁ B hml hv
  obtain ⟨rfl, hA, hP, hK, hD⟩ := hv
  have hts := atoms_spec (ws := wy) B.pre
  have hown : s.vm.findClass y.cls = some m.cls := findClass_of_methodNamed B.named
  rw [lg_entry_eq]
  exact body p e s m av.toArray below meth c ⟨⟨B.exec, B.bytes, hml, hown, hts⟩, hK, hA, B.notSynchronized, B.returns⟩ (name_of_methodNamed B.named B.method).1 s.heap [] _ hP hD va_S.rf (by rw [← hlv]; exact lvh_entry av hn (by rw [hlv]; exact hc))
