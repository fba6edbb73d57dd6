/-! the law's own rows -/
section LRL
variable {p : Program} {l : Launch} {e : Env} {R : Room} {s : State} {m : MethodId} {args : Array Value} {below : List Frame} {meth : Method} {c : Code} {Q : State → Prop} {cc : ByteArray} {nL : Nat} {Ts : List Cond} {own : String} {D : va_G} {tys : List (ClassId × FieldType)} {A : Nat → Prop} {ret : Option FieldType} {ws w F : va_W} {cells slots pc : Nat} {lv : List (Nat × Value)} {st : List Value} {g : Nat → ClassId} {xo b Ln : Nat} {f : Nat → Int64} {xs : Nat → Int32}
theorem g_sld (C : CX p s m args meth c cc nL Ts own D tys A s.heap ret) (hX : va_X b Ln xs s s.heap) (hbl : b < s.heap.size) (hbA : ¬ A b) {i : Nat} (hL : Ln ≤ 2048) (hd : decode cc pc = .ok (.iaload, 1)) (hi : i < Ln) (kk : GG p l e R s m args below meth c Q nL D A s.heap ws cells slots (pc + 1) lv (.int (xs i) :: st)) : GG p l e R s m args below meth c Q nL D A s.heap ws cells slots pc lv (.int (nI i) :: .ref b :: st) := fun H locs ls hP hD hS hl =>
  va_sld C.1.1 C.1.2.1 hX hbl hbA hS (vp_in_nI hi (by omega)) hd (by rw [nI_clamp (by omega)]; exact kk H locs ls hP hD hS hl)
theorem g_slen (C : CX p s m args meth c cc nL Ts own D tys A s.heap ret) (hX : va_X b Ln xs s s.heap) (hbl : b < s.heap.size) (hbA : ¬ A b) (hd : decode cc pc = .ok (.arraylength, 1)) (kk : GG p l e R s m args below meth c Q nL D A s.heap ws cells slots (pc + 1) lv (.int (nI Ln) :: st)) : GG p l e R s m args below meth c Q nL D A s.heap ws cells slots pc lv (.ref b :: st) := fun H locs ls hP hD hS hl =>
  va_slen C.1.1 C.1.2.1 hX hbl hbA hS hd (kk H locs ls hP hD hS hl)
theorem g_laload (C : CX p s m args meth c cc nL Ts own D (tyG g) A s.heap ret) (hd : decode cc pc = .ok (.laload, 1)) (kk : GG p l e R s m args below meth c Q nL D A s.heap ((w ++ [(xo, oE g f)]) ++ F) cells slots (pc + 1) lv (.long (f 0) :: st)) : GG p l e R s m args below meth c Q nL D A s.heap ((w ++ [(xo, oE g f)]) ++ F) cells slots pc lv (.int (nI 0) :: .ref xo :: st) := fun H locs ls hP hD hS hl =>
  va_lald C.1.1 C.1.2.1 C.2.1 hP w.length 4 (by rw [List.getElem?_append_left (by rw [List.length_append]; exact Nat.lt_succ_self _), List.getElem?_append_right (Nat.le_refl _), Nat.sub_self]; rfl) rfl (vp_in_nI (by decide) (by decide)) hd (by rw [nI_clamp (by decide)]; exact kk H locs ls hP hD hS hl)
theorem g_lcmp_eq (C : CX p s m args meth c cc nL Ts own D tys A s.heap ret) {x y : Int64} (hxy : x = y) (hd : decode cc pc = .ok (.lcmp, 1)) (kk : GG p l e R s m args below meth c Q nL D A s.heap ws cells slots (pc + 1) lv (.int (nI 0) :: st)) : GG p l e R s m args below meth c Q nL D A s.heap ws cells slots pc lv (.long y :: .long x :: st) := fun H locs ls hP hD hS hl T hT X => by
  subst hxy
  rw [nI_0] at kk
  obtain ⟨t, a1, b1⟩ := kk H locs ls hP hD hS hl T hT X
  exact ⟨t, Jvm.Stand.lcmpEq X C.1.1 (by rw [C.1.2.1]; exact hd) t a1, b1⟩
end LRL
theorem len_gt {a L : Nat} (ha : a < 2 ^ 30) (hL : L ≤ 2048) : nI L - nI 4 < nI a ↔ ¬ a + 4 ≤ L := by
  by_cases h : 4 ≤ L
  · rw [pk_sub h, nI_ltI (by omega) (by omega)]
    omega
  · have h2 : (nI L - nI 4).toInt < 0 := by
      rcases (show L = 0 ∨ L = 1 ∨ L = 2 ∨ L = 3 by omega) with rfl | rfl | rfl | rfl <;> decide +kernel
    refine ⟨fun _ => by omega, fun _ => Int32.lt_iff_toInt_lt.mpr ?_⟩
    rw [nI_toInt (by omega)]
    omega
theorem nI_p4 (a : Nat) : nI a + Int32.ofInt 4 = nI (a + 4) := by
  rw [← nI_add, show Int32.ofInt 4 = nI 4 by decide +kernel]
theorem lv56 {b x1 x2 x3 : Nat} {i k a : Int32} : ∀ q ∈ ([(0, .ref b), (1, .ref x1), (2, .ref x2), (3, .ref x3), (4, .int i)] : List (Nat × Value)), q ∈ lvs (lvs [(0, .ref b), (1, .ref x1), (2, .ref x2), (3, .ref x3), (4, .int i)] 5 (.int k)) 6 (.int a) := fun q hq =>
  (List.mem_append_left ([(5, .int k), (6, .int a)] : List (Nat × Value)) hq : q ∈ ([(0, .ref b), (1, .ref x1), (2, .ref x2), (3, .ref x3), (4, .int i)] : List (Nat × Value)) ++ ([(5, .int k), (6, .int a)] : List (Nat × Value)))
