/-! a new noted array; one more transaction -/
def nz (I : VV) (q : Nat) : VV := fun k a => if 20 ≤ k ∧ a = q then 0 else I k a
theorem nz_lo (I : VV) (q : Nat) {k : Nat} (h : k < 20) : nz I q k = I k := by
  funext a
  unfold nz
  rw [if_neg (fun z => by omega)]
theorem nz_at (I : VV) (q k : Nat) : nz I q (20 + k) q = 0 := by unfold nz; rw [if_pos ⟨by omega, rfl⟩]
theorem nz_ne (I : VV) (q k : Nat) {a : Nat} (h : a ≠ q) : nz I q k a = I k a := by unfold nz; rw [if_neg (fun z => h z.2)]
theorem cX_nz (g : Nat → ClassId) (xa : Nat → Nat) (I : VV) (O : OO) (q : Nat) : cX g xa (nz I q) O = cX g xa I O := by
  have h : ∀ k, k < 20 → nz I q k = I k := fun k hk => nz_lo I q hk
  have h2 : ∀ k, k < 20 → mA (nz I q) k = mA I k := fun k hk => by unfold mA; rw [h k hk]
  simp only [cX, h 0 (by decide), h 1 (by decide), h 2 (by decide), h 3 (by decide), h 4 (by decide), h2 5 (by decide), h2 6 (by decide), h2 7 (by decide), h2 8 (by decide), h2 9 (by decide)]
section NEW2
variable {p : Program} {l : Launch} {e : Env} {R : Room} {s : State} {m : MethodId} {args : Array Value} {below : List Frame} {meth : Method} {c : Code} {Q : State → Prop} {cc : ByteArray} {nL : Nat} {Ts : List Cond} {own : String} {D : va_G} {A : Nat → Prop} {H0 : Heap} {ret : Option FieldType} {cells slots pc : Nat} {lv : List (Nat × Value)} {st : List Value} {g : Nat → ClassId} {xa : Nat → Nat} {I : VV} {O : OO} {L : List Nat} {K : Nat → Nat} {ws : va_W}
theorem cls_one {D : va_G} {cl : List vw_C} {tys : List (ClassId × FieldType)} {U : State} {cA cK : ClassId} {ty : FieldType} {k : Nat} (h : va_K D cl (tys ++ [(cA, ty)]) U) (hk : tys[k]? = some (cK, ty)) (hra : ∀ c0 : ClassId, va_RA U c0 ty → U.vm.findClass ("[" ++ ty.toString) = some c0) : cA = cK := by
  have h1 := (h.2 tys.length (cA, ty) (by rw [List.getElem?_append_right (Nat.le_refl _), Nat.sub_self]; rfl)).2
  have h2 := (h.2 k (cK, ty) (by rw [List.getElem?_append_left (List.getElem?_eq_some_iff.mp hk).1]; exact hk)).2
  exact Option.some.inj ((hra _ h1).symm.trans (hra _ h2))
theorem g_newA (C : CX p s m args meth c cc nL Ts own D (tyG g) A H0 ret) {atype : ArrayType} {ty : FieldType} {cK : ClassId} {k N' : Nat} (a0 : vp_A) (hk : (tyG g)[k]? = some (cK, ty)) (hra : ∀ (U : State) (c0 : ClassId), va_RA U c0 ty → U.vm.findClass ("[" ++ ty.toString) = some c0) (harr : Cond.arrayClass (newarray.typeOf atype) ∈ Ts) (hty : newarray.typeOf atype = ty)
    (ha : ∀ cA : ClassId, vp_cell cA a0 = arrV cA N' (fun _ => defaultValue ty)) (hN : N' < 2 ^ 31) (hby : N' * componentBytes ty ≤ 536870912) (hc : cells + 1 ≤ R.cells) (hs : slots + N' ≤ R.slots) (hd : decode cc pc = .ok (.newarray atype, 2))
    (kk : ∀ q : Nat, GG p l e R s m args below meth c Q nL D A H0 (ws ++ [(q, .inl (cK, a0))]) (cells + 1) (slots + N') (pc + 2) lv (.ref q :: st)) : GG p l e R s m args below meth c Q nL D A H0 ws cells slots pc lv (.int (nI N') :: st) := fun H locs ls hP hD hS hl => by
  refine va_newa C.1.1 C.1.2.1 (C.1.2.2.2.2 _ harr) hty C.2.1 hP hD hS C.2.2.1 ha (nI_pos hN) (nI_clamp hN) hby hc hs hd (fun q cA H1 hK1 hP1 hD1 hS1 => ?_)
  have hcc := cls_one hK1 hk (hra s)
  rw [hcc] at hP1 hD1
  exact kk q H1 locs ls hP1 hD1 hS1 hl
theorem g_newQ (C : CX p s m args meth c cc nL Ts own D (tyG g) A H0 ret) {Cn : String} {idx : Nat} {cK : ClassId} {k N' : Nat} (hk : (tyG g)[k]? = some (cK, .object Cn)) (hcl : Cond.classLink own idx Cn ∈ Ts) (hov : va_AO Cn s)
    (hN : N' < 2 ^ 31) (hby : N' * 4 ≤ 536870912) (hc : cells + 1 ≤ R.cells) (hs : slots + N' ≤ R.slots) (hd : decode cc pc = .ok (.anewarray idx, 3))
    (kk : ∀ q : Nat, GG p l e R s m args below meth c Q nL D A H0 (ws ++ [(q, .inl (cK, N', .inr (.inr (.inr (.inr (fun _ => none))))))]) (cells + 1) (slots + N') (pc + 3) lv (.ref q :: st)) : GG p l e R s m args below meth c Q nL D A H0 ws cells slots pc lv (.int (nI N') :: st) := fun H locs ls hP hD hS hl => by
  refine va_newq C.1.1 C.1.2.1 C.1.2.2.2.1 (C.1.2.2.2.2 _ hcl) hov C.2.1 hP hD hS C.2.2.1 (nI_pos hN) (nI_clamp hN) hby hc hs hd (fun q cA H1 hK1 hP1 hD1 hS1 => ?_)
  have hcc := cls_one hK1 hk (fun c0 h => by obtain ⟨_, _, _, _, _, h4⟩ := h; exact h4)
  rw [hcc] at hP1 hD1
  exact kk q H1 locs ls hP1 hD1 hS1 hl
theorem g_newNoted (C : CX p s m args meth c cc nL Ts own D (tyG g) A H0 ret) (harr : Cond.arrayClass .boolean ∈ Ts) (hc : cells + 1 ≤ R.cells) (hs : slots + 4 ≤ R.slots) (hd : decode cc pc = .ok (.newarray .boolean, 2))
    (kk : ∀ q : Nat, q ∉ L → GG p l e R s m args below meth c Q nL D A H0 (cW g xa (nz I q) O (L ++ [q]) (va_up K q 2)) (cells + 1) (slots + 4) (pc + 2) lv (.ref q :: st)) : GG p l e R s m args below meth c Q nL D A H0 (cW g xa I O L K) cells slots pc lv (.int (nI 4) :: st) := by
  refine g_newA C (atype := .boolean) (k := 1) (cK := g 1) (ty := .boolean) (4, .inl (fun _ => 0)) rfl (fun _ _ h => h) harr rfl (fun _ => rfl) (by decide) (by decide) hc hs hd (fun q => ?_)
  intro H locs ls hP hD hS hl
  have hq : q ∉ L := va_D.fresh hD
  have hE : cW g xa I O L K ++ [(q, .inl (g 1, 4, .inl (fun _ => 0)))] = cW g xa (nz I q) O (L ++ [q]) (va_up K q 2) := cw_push hq (cX_nz g xa I O q) (fun b => by
    by_cases hb : b = q
    · subst hb
      rw [va_up_self, pf_no (va_up_self _ _ _)]
      refine congrArg (fun f => (Sum.inl (g 1, 4, Sum.inl f) : va_E)) ?_
      funext j
      rw [nz_at, nI_0]
    · rw [va_up_ne _ _ hb]
      simp [pf, nz, hb, va_up])
  exact kk q hq H locs ls (hE ▸ hP) (hE ▸ hD) hS hl
end NEW2
/-- one more transaction: the relation -/
theorem RC.start {V I I' : VV} {O O' : OO} {L L' : List Nat} {K K' own : Nat → Nat} {a q b v : Nat} (h : RC V I O L K own) (hV : Inv V) (haL : a ∉ L) (hqL : q ∉ L) (haq : a ≠ q)
    (i0 : I' 0 0 = V 16 0 + 1) (ilo : ∀ x, 0 < x → x < 12 → I' x = I x) (ihi : ∀ x z, 12 ≤ x → z ≠ a → z ≠ q → I' x z = I x z) (ia : I' 12 a = V 16 0 ∧ I' 13 a = b ∧ I' 14 a = v ∧ I' 15 a = 0 ∧ I' 16 a = 0) (iq : ∀ g, g < 4 → I' (20 + g) q = 0)
    (o2 : O' 2 (V 16 0) = some a ∧ ∀ j, j ≠ V 16 0 → O' 2 j = O 2 j) (oo : ∀ x, x = 0 ∨ x = 1 ∨ x = 3 ∨ x = 4 ∨ x = 5 → O' x = O x) (oh : ∀ x z, x = 6 ∨ x = 7 ∨ x = 8 → z ≠ a → O' x z = O x z) (oa : O' 6 a = some q ∧ O' 7 a = none)
    (hL' : ∀ z, z ∈ L' ↔ z ∈ L ∨ z = a ∨ z = q) (hK' : K' a = 1 ∧ K' q = 2 ∧ ∀ z, z ∈ L → K' z = K z) : RC (vStart V b v) I' O' L' K' own := by
  obtain ⟨hS, hT, hM, hH, hN, hQ⟩ := h
  obtain ⟨hI, hRw, hG, hGk, hem⟩ := hV
  have txo : ∀ i, i < V 16 0 → tx O' i = tx O i := fun i hi => by unfold tx; rw [o2.2 i (by omega)]
  have txn : tx O' (V 16 0) = a := by unfold tx; rw [o2.1]; rfl
  have hin : ∀ i, i < V 16 0 → tx O i ≠ a ∧ tx O i ≠ q := fun i hi => ⟨fun z => haL (z ▸ (hT i hi).2.1), fun z => hqL (z ▸ (hT i hi).2.1)⟩
  have e16 : vStart V b v 16 0 = V 16 0 + 1 := by unfold vStart; rw [u2_same]
  have ev : ∀ x i, i ≠ V 16 0 → x ≠ 16 → vStart V b v x i = V x i := fun x i hi hx => by
    unfold vStart
    rw [u2_nk _ _ _ _ hx, u2_ni _ _ _ _ hi, u2_ni _ _ _ _ hi, u2_ni _ _ _ _ hi, u2_ni _ _ _ _ hi]
  have ek : ∀ x, x ≠ 6 → x ≠ 7 → x ≠ 8 → x ≠ 11 → x ≠ 16 → vStart V b v x = V x := fun x h1 h2 h3 h4 h5 => by
    unfold vStart
    simp only [u2, if_neg h1, if_neg h2, if_neg h3, if_neg h4, if_neg h5]
  have en : vStart V b v 6 (V 16 0) = b ∧ vStart V b v 7 (V 16 0) = v ∧ vStart V b v 8 (V 16 0) = 0 := by
    unfold vStart
    simp [u2_eq]
  refine ⟨?_, fun i hi => ?_, ⟨fun i hi => ?_, fun i j hi hj he => ?_⟩, fun k hk => ?_, fun k hk => ?_, ?_⟩
  · obtain ⟨s1, s2, s3, s4, s5, s6, s7, s8⟩ := hS
    unfold RS
    rw [i0, e16, ilo 2 (by decide) (by decide), ilo 3 (by decide) (by decide), ilo 4 (by decide) (by decide), ilo 5 (by decide) (by decide), ilo 7 (by decide) (by decide), ilo 8 (by decide) (by decide), ilo 9 (by decide) (by decide), ek 4 (by decide) (by decide) (by decide) (by decide) (by decide), ek 22 (by decide) (by decide) (by decide) (by decide) (by decide), ek 15 (by decide) (by decide) (by decide) (by decide) (by decide), ek 5 (by decide) (by decide) (by decide) (by decide) (by decide), ek 23 (by decide) (by decide) (by decide) (by decide) (by decide), ek 24 (by decide) (by decide) (by decide) (by decide) (by decide), ek 21 (by decide) (by decide) (by decide) (by decide) (by decide)]
    exact ⟨rfl, s2, s3, s4, s5, s6, s7, s8⟩
  · rw [e16] at hi
    rcases (show i < V 16 0 ∨ i = V 16 0 by omega) with y | y
    · obtain ⟨t1, t2, t3, t4, t5, t6, t7, t8, t9⟩ := hT i y
      obtain ⟨n1, n2⟩ := hin i y
      have hne : i ≠ V 16 0 := by omega
      rw [txo i y, ihi 12 _ (by decide) n1 n2, ihi 13 _ (by decide) n1 n2, ihi 14 _ (by decide) n1 n2, ihi 16 _ (by decide) n1 n2, ihi 17 _ (by decide) n1 n2, ihi 18 _ (by decide) n1 n2, ihi 19 _ (by decide) n1 n2, o2.2 i hne, oh 7 _ (by decide) n1, ev 6 i hne (by decide), ev 7 i hne (by decide), ev 8 i hne (by decide), ev 11 i hne (by decide), ev 12 i hne (by decide), ev 13 i hne (by decide), ev 14 i hne (by decide), hK'.2.2 _ t2]
      refine ⟨t1, (hL' _).mpr (Or.inl t2), t3, t4, t5, t6, t7, ?_, t9⟩
      rw [t8]
      by_cases z : V 8 i = 1
      · rw [if_pos z, if_pos z]
        have h9 := hI.2.1 i y z
        rw [txo (V 11 i - 1) (by omega)]
      · rw [if_neg z, if_neg z]
    · subst y
      rw [txn, en.1, en.2.1, en.2.2]
      refine ⟨o2.1, (hL' _).mpr (Or.inr (Or.inl rfl)), hK'.1, ia.1, ia.2.1, ia.2.2.1, ia.2.2.2.2, ?_, fun z => by omega⟩
      rw [oa.2, if_neg (by decide)]
  · rw [e16] at hi
    rw [ek 9 (by decide) (by decide) (by decide) (by decide) (by decide)]
    rcases (show i < V 16 0 ∨ i = V 16 0 by omega) with y | y
    · obtain ⟨na, m1, m2, m3, m4, m5⟩ := hM.1 i y
      obtain ⟨n1, n2⟩ := hin i y
      have n3 : na ≠ a := fun z => haL (z ▸ m2)
      have n4 : na ≠ q := fun z => hqL (z ▸ m2)
      rw [txo i y, oh 6 _ (by decide) n1, ihi 15 _ (by decide) n1 n2]
      exact ⟨na, m1, (hL' _).mpr (Or.inl m2), by rw [hK'.2.2 _ m2]; exact m3, m4, fun g hg => by rw [ihi (20 + g) _ (by omega) n3 n4]; exact m5 g hg⟩
    · subst y
      rw [txn, hGk.2.2 _ (Nat.le_refl _)]
      refine ⟨q, oa.1, (hL' _).mpr (Or.inr (Or.inr rfl)), hK'.2.1, ia.2.2.2.1, fun g hg => ?_⟩
      rw [iq g hg]
      unfold vBit
      simp
  · rw [e16] at hi hj
    have f1 : ∀ i, i < V 16 0 → O' 6 (tx O' i) ≠ some q := fun i y he => by
      obtain ⟨na, m1, m2, -, -, -⟩ := hM.1 i y
      rw [txo i y, oh 6 _ (by decide) (hin i y).1, m1] at he
      exact hqL (Option.some.inj he ▸ m2)
    rcases (show i < V 16 0 ∨ i = V 16 0 by omega) with y | y <;> rcases (show j < V 16 0 ∨ j = V 16 0 by omega) with z | z
    · rw [txo i y, txo j z, oh 6 _ (by decide) (hin i y).1, oh 6 _ (by decide) (hin j z).1] at he
      exact hM.2 i j y z he
    · rw [z, txn, oa.1] at he
      exact absurd he (f1 i y)
    · rw [y, txn, oa.1] at he
      exact absurd he.symm (f1 j z)
    · omega
  · obtain ⟨h1, h2⟩ := hH k hk
    have h17 := hI.2.2.1 k hk
    rw [oo 4 (by decide), ek 17 (by decide) (by decide) (by decide) (by decide) (by decide), ek 10 (by decide) (by decide) (by decide) (by decide) (by decide), ilo 6 (by decide) (by decide), h1]
    refine ⟨?_, h2⟩
    by_cases z : V 17 k = 0
    · rw [if_pos z, if_pos z]
    · rw [if_neg z, if_neg z, txo _ (by omega)]
  · rw [oo 3 (by decide), ek 3 (by decide) (by decide) (by decide) (by decide) (by decide), chV_cong (ek 0 (by decide) (by decide) (by decide) (by decide) (by decide)) (ek 1 (by decide) (by decide) (by decide) (by decide) (by decide)) (ek 2 (by decide) (by decide) (by decide) (by decide) (by decide))]
    exact (hN k hk).cong (fun z h1 h2 h3 => ⟨(hL' _).mpr (Or.inl h1), by rw [hK'.2.2 _ h1]; exact h2, h3, by rw [ilo 10 (by decide) (by decide)], by rw [ilo 11 (by decide) (by decide)], by rw [oo 5 (by decide)]⟩)
  · obtain ⟨h1, h2⟩ := hQ
    unfold RQ
    rw [oo 0 (by decide), oo 1 (by decide), ek 19 (by decide) (by decide) (by decide) (by decide) (by decide), ek 20 (by decide) (by decide) (by decide) (by decide) (by decide)]
    exact ⟨h1, fun z => by omega⟩
