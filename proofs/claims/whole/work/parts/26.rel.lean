/-! the class's world held against the numbers -/
abbrev OO : Type := Nat → Nat → Option Nat
/-- the address of transaction i -/
def tx (O : OO) (i : Nat) : Nat := (O 2 i).getD 0
def RS (V I : VV) : Prop := I 0 0 = V 16 0 ∧ I 2 0 = V 4 0 ∧ I 3 0 = V 22 0 ∧ I 4 0 = V 15 0 ∧ (∀ v, v < 61 → I 5 v = V 5 v) ∧ (∀ k, k < 200 → I 7 k = V 23 k) ∧ (∀ k, k < 4 → I 8 k = V 24 k) ∧ ∀ j, j < 60 → I 9 j = V 21 j
/-- the transactions: their places, what never changes, the state, what they wait for -/
def RT (V I : VV) (O : OO) (L : List Nat) (K : Nat → Nat) : Prop := ∀ i, i < V 16 0 → O 2 i = some (tx O i) ∧ tx O i ∈ L ∧ K (tx O i) = 1 ∧ I 12 (tx O i) = i ∧ I 13 (tx O i) = V 6 i ∧ I 14 (tx O i) = V 7 i ∧ I 16 (tx O i) = V 8 i ∧ O 7 (tx O i) = (if V 8 i = 1 then some (tx O (V 11 i - 1)) else none) ∧ (V 8 i = 1 → I 17 (tx O i) = V 12 i ∧ I 18 (tx O i) = V 13 i ∧ I 19 (tx O i) = V 14 i + 1)
/-- the noted graphs -/
def RM (V I : VV) (O : OO) (L : List Nat) (K : Nat → Nat) : Prop := (∀ i, i < V 16 0 → ∃ na, O 6 (tx O i) = some na ∧ na ∈ L ∧ K na = 2 ∧ I 15 (tx O i) = vPop (V 9 i) 4 ∧ ∀ g, g < 4 → I (20 + g) na = vBit (V 9 i) g) ∧ ∀ i j, i < V 16 0 → j < V 16 0 → O 6 (tx O i) = O 6 (tx O j) → i = j
/-- who holds what, and what was written -/
def RH (V I : VV) (O : OO) : Prop := ∀ k, k < 200 → O 4 k = (if V 17 k = 0 then none else some (tx O (V 17 k - 1))) ∧ (0 < V 17 k → I 6 k + 1 = V 10 (200 * (V 17 k - 1) + k))
/-- the rows of a triple among the first r, the newest first -/
def chV (V : VV) (k : Nat) : Nat → List (Nat × Nat)
  | 0 => []
  | r + 1 => if V 0 r = k then (V 1 r, V 2 r) :: chV V k r else chV V k r
/-- a chain of row objects that tells a list; own says which triple a row object is of -/
def Ch (I : VV) (O : OO) (L : List Nat) (K own : Nat → Nat) (k : Nat) : Option Nat → List (Nat × Nat) → Prop
  | o, [] => o = none
  | o, q :: l => ∃ a, o = some a ∧ a ∈ L ∧ K a = 0 ∧ own a = k ∧ I 10 a = q.1 ∧ I 11 a = q.2 ∧ Ch I O L K own k (O 5 a) l
def RN (V I : VV) (O : OO) (L : List Nat) (K own : Nat → Nat) : Prop := ∀ k, k < 200 → Ch I O L K own k (O 3 k) (chV V k (V 3 0))
/-- the queue -/
def RQ (V : VV) (O : OO) : Prop := (V 19 0 = V 20 0 → O 0 0 = none ∧ O 1 0 = none) ∧ (V 19 0 < V 20 0 → O 0 0 = some (tx O (V 18 (V 19 0))) ∧ O 1 0 = some (tx O (V 18 (V 20 0 - 1))) ∧ O 8 (tx O (V 18 (V 20 0 - 1))) = none ∧ ∀ j, V 19 0 ≤ j → j + 1 < V 20 0 → O 8 (tx O (V 18 j)) = some (tx O (V 18 (j + 1))))
def RC (V I : VV) (O : OO) (L : List Nat) (K own : Nat → Nat) : Prop := RS V I ∧ RT V I O L K ∧ RM V I O L K ∧ RH V I O ∧ RN V I O L K own ∧ RQ V O
theorem RT.inj {V I : VV} {O : OO} {L : List Nat} {K : Nat → Nat} (h : RT V I O L K) {i j : Nat} (hi : i < V 16 0) (hj : j < V 16 0) (e : tx O i = tx O j) : i = j := by
  have h1 := (h i hi).2.2.2.1
  have h2 := (h j hj).2.2.2.1
  rw [e] at h1
  omega
theorem RT.injS {V I : VV} {O : OO} {L : List Nat} {K : Nat → Nat} (h : RT V I O L K) {i j : Nat} (hi : i < V 16 0) (hj : j < V 16 0) : some (tx O i) = some (tx O j) ↔ i = j := ⟨fun e => h.inj hi hj (Option.some.inj e), fun e => by rw [e]⟩
def CC (l : Launch) (y : MethodName) (wy : List Cond) (rm : Room) (mc ms : Nat) (D : va_G) (g : Nat → ClassId) (A : Nat → Prop) (xa : Nat → Nat) (av : List Value) (I : VV) (O : OO) (L : List Nat) (K : Nat → Nat) (Qc : Option Value → VV → OO → List Nat → (Nat → Nat) → Prop) : Prop :=
  Met l y wy rm (kPre D (tyG g) A av (cW g xa I O L K)) (kPost D (tyG g) A (fun r w => ∃ I' O' L' K', w = cW g xa I' O' L' K' ∧ Qc r I' O' L' K')) mc ms A
abbrev cQ (below : List Frame) (D : va_G) (g : Nat → ClassId) (A : Nat → Prop) (xa : Nat → Nat) (args : Array Value) (s : State) (mc ms : Nat) (Qc : Option Value → VV → OO → List Nat → (Nat → Nat) → Prop) : State → Prop := MQ below (kPost D (tyG g) A (fun r w => ∃ I' O' L' K', w = cW g xa I' O' L' K' ∧ Qc r I' O' L' K')) args s mc ms A
theorem cX_this (g : Nat → ClassId) (xa : Nat → Nat) (I : VV) (O : OO) (L : List Nat) (K : Nat → Nat) : ∃ fs, (xa 0, .inr (2, fs)) ∈ cW g xa I O L K := ⟨_, List.mem_append_left _ (List.mem_of_getElem? (i := 0) rfl)⟩
theorem cX_tx (g : Nat → ClassId) (xa : Nat → Nat) (I : VV) (O : OO) (L : List Nat) (K : Nat → Nat) {a : Nat} (ha : a ∈ L) (hk : K a = 1) : ∃ fs, (a, .inr (1, fs)) ∈ cW g xa I O L K := ⟨_, List.mem_append_right _ (List.mem_map.mpr ⟨a, ha, by rw [pf_tx hk]⟩)⟩
section CCR
variable {p : Program} {l : Launch} {e : Env} {R : Room} {s : State} {m : MethodId} {args : Array Value} {below : List Frame} {meth : Method} {c : Code} {Q : State → Prop} {cc : ByteArray} {nL : Nat} {Ts : List Cond} {own : String} {D : va_G} {A : Nat → Prop} {H0 : Heap} {ret : Option FieldType} {cells slots pc : Nat} {lv : List (Nat × Value)} {st : List Value} {g : Nat → ClassId} {xa : Nat → Nat} {I : VV} {O : OO} {L : List Nat} {K : Nat → Nat}
theorem g_callC (C : CX p s m args meth c cc nL Ts own D (tyG g) A H0 ret) {y : MethodName} {wy wy' : List Cond} {rm : Room} {mc ms maxL index n : Nat} {bytes : ByteArray} {rt : Option FieldType} {As rest : List Value} {Qc : Option Value → VV → OO → List Nat → (Nat → Nat) → Prop}
    (hM : CC l y wy rm mc ms D g A xa (Value.ref (xa 0) :: As) I O L K Qc) (hG : GoodIn Ts (wsV own index RX2 y wy)) (hd : decode cc pc = .ok (.invokevirtual index, 3)) (hw : wy = Cond.code y bytes maxL rt :: wy') (hrc : rm.cells = mc) (hrs : rm.slots = ms)
    (hdy : y.cls = RX2 ∧ y.cls ≠ "java/lang/invoke/MethodHandle" ∧ y.cls ≠ "java/lang/invoke/VarHandle" ∧ (parseMethodDescriptor y.desc).map (fun d => d.parameters.length) = some n) (hR : rm.frames + 1 ≤ R.frames ∧ 8 + (maxL + 11) + rm.locals ≤ R.locals)
    (hn : As.length = n) (hst : st = As.reverse ++ .ref (xa 0) :: rest) (hcat : (rest.map fun v => v.category).sum ≤ 8) (hf : cells + mc ≤ R.cells ∧ slots + ms ≤ R.slots)
    (kk : ∀ (r : Option Value) (I1 : VV) (O1 : OO) (L1 : List Nat) (K1 : Nat → Nat), Qc r I1 O1 L1 K1 → GG p l e R s m args below meth c Q nL D A H0 (cW g xa I1 O1 L1 K1) (cells + mc) (slots + ms) (pc + 3) lv (r.toList ++ rest)) : GG p l e R s m args below meth c Q nL D A H0 (cW g xa I O L K) cells slots pc lv st := by
  obtain ⟨fs, hfs⟩ := cX_this g xa I O L K
  exact g_callV C (Cl := RX2) (ci := 2) hM hG hw hrc hrs hdy hR hfs rfl rfl hn hst hcat hd hf (fun r w hq => by
    obtain ⟨I', O', L', K', rfl, hq⟩ := hq
    exact kk r I' O' L' K' hq)
theorem g_callT (C : CX p s m args meth c cc nL Ts own D (tyG g) A H0 ret) {y : MethodName} {wy wy' : List Cond} {rm : Room} {mc ms maxL index n a : Nat} {bytes : ByteArray} {rt : Option FieldType} {As rest : List Value} {Qc : Option Value → VV → OO → List Nat → (Nat → Nat) → Prop}
    (hM : CC l y wy rm mc ms D g A xa (Value.ref a :: As) I O L K Qc) (haL : a ∈ L) (haK : K a = 1) (hG : GoodIn Ts (wsV own index RX1 y wy)) (hd : decode cc pc = .ok (.invokevirtual index, 3)) (hw : wy = Cond.code y bytes maxL rt :: wy') (hrc : rm.cells = mc) (hrs : rm.slots = ms)
    (hdy : y.cls = RX1 ∧ y.cls ≠ "java/lang/invoke/MethodHandle" ∧ y.cls ≠ "java/lang/invoke/VarHandle" ∧ (parseMethodDescriptor y.desc).map (fun d => d.parameters.length) = some n) (hR : rm.frames + 1 ≤ R.frames ∧ 8 + (maxL + 11) + rm.locals ≤ R.locals)
    (hn : As.length = n) (hst : st = As.reverse ++ .ref a :: rest) (hcat : (rest.map fun v => v.category).sum ≤ 8) (hf : cells + mc ≤ R.cells ∧ slots + ms ≤ R.slots)
    (kk : ∀ (r : Option Value) (I1 : VV) (O1 : OO) (L1 : List Nat) (K1 : Nat → Nat), Qc r I1 O1 L1 K1 → GG p l e R s m args below meth c Q nL D A H0 (cW g xa I1 O1 L1 K1) (cells + mc) (slots + ms) (pc + 3) lv (r.toList ++ rest)) : GG p l e R s m args below meth c Q nL D A H0 (cW g xa I O L K) cells slots pc lv st := by
  obtain ⟨fs, hfs⟩ := cX_tx g xa I O L K haL haK
  exact g_callV C (Cl := RX1) (ci := 1) hM hG hw hrc hrs hdy hR hfs rfl rfl hn hst hcat hd hf (fun r w hq => by
    obtain ⟨I', O', L', K', rfl, hq⟩ := hq
    exact kk r I' O' L' K' hq)
theorem g_callCS (C : CX p s m args meth c cc nL Ts own D (tyG g) A H0 ret) {y : MethodName} {wy wy' : List Cond} {rm : Room} {mc ms maxL index n : Nat} {bytes : ByteArray} {rt : Option FieldType} {As rest : List Value} {Qc : Option Value → VV → OO → List Nat → (Nat → Nat) → Prop}
    (hM : CC l y wy rm mc ms D g A xa As I O L K Qc) (hG : GoodIn Ts (va_wsS own index y wy)) (hd : decode cc pc = .ok (.invokestatic index, 3)) (hw : wy = Cond.code y bytes maxL rt :: wy') (hrc : rm.cells = mc) (hrs : rm.slots = ms)
    (hdy : y.cls ≠ "java/lang/invoke/MethodHandle" ∧ y.cls ≠ "java/lang/invoke/VarHandle" ∧ (parseMethodDescriptor y.desc).map (fun d => d.parameters.length) = some n) (hR : rm.frames + 1 ≤ R.frames ∧ 8 + (maxL + 11) + rm.locals ≤ R.locals)
    (hn : As.length = n) (hst : st = As.reverse ++ rest) (hcat : (rest.map fun v => v.category).sum ≤ 8) (hf : cells + mc ≤ R.cells ∧ slots + ms ≤ R.slots)
    (kk : ∀ (r : Option Value) (I1 : VV) (O1 : OO) (L1 : List Nat) (K1 : Nat → Nat), Qc r I1 O1 L1 K1 → GG p l e R s m args below meth c Q nL D A H0 (cW g xa I1 O1 L1 K1) (cells + mc) (slots + ms) (pc + 3) lv (r.toList ++ rest)) : GG p l e R s m args below meth c Q nL D A H0 (cW g xa I O L K) cells slots pc lv st :=
  g_callS C hM hG hw hrc hrs hdy hR hn hst hcat hd hf (fun r w hq => by
    obtain ⟨I', O', L', K', rfl, hq⟩ := hq
    exact kk r I' O' L' K' hq)
end CCR
