/-! the law: what the two answers have to do with each other -/
def LB (N : Nat) (V I : VV) (O : OO) (L : List Nat) (K : Nat → Nat) : Prop := Inv V ∧ BdN V N ∧ BdN I N ∧ I 1 0 = V 3 0 ∧ ∃ own, RC V I O L K own
def MT (N : Nat) (V1 I1 : VV) (O1 : OO) (L1 : List Nat) (K1 : Nat → Nat) (f1 : Nat → Int64) (rh rm : Option Value) (ans : Int32 → Int64) : Prop := LB (N + 4000) V1 I1 O1 L1 K1 ∧ ∃ k a, k ≤ 2 ∧ rh = some (.int (nI k)) ∧ rm = some (.int a) ∧ V1 25 0 = k ∧ (k = 0 → f1 0 = ans a)
theorem RC.thrown {V I : VV} {O : OO} {L : List Nat} {K own : Nat → Nat} {c : Nat} (h : RC V I O L K own) : RC (u2 V 25 0 c) I O L K own := by
  obtain ⟨hS, hT, hM, hH, hNw, hQ⟩ := h
  exact ⟨hS.cong ⟨rfl, rfl, rfl, rfl, rfl, rfl, rfl, rfl⟩ ⟨rfl, rfl, rfl, rfl, rfl, rfl, rfl, rfl⟩, hT.cong ⟨rfl, rfl, rfl, rfl, rfl, rfl, rfl, rfl⟩ ⟨rfl, rfl, rfl, rfl, rfl, rfl, rfl⟩ ⟨rfl, rfl⟩, hM.cong ⟨rfl, rfl⟩ ⟨rfl, fun _ => rfl⟩ ⟨rfl, rfl⟩, hH.cong ⟨rfl, rfl⟩ rfl ⟨rfl, rfl⟩, hNw.cong ⟨rfl, rfl, rfl, rfl⟩ ⟨rfl, rfl⟩ ⟨rfl, rfl⟩, hQ.cong ⟨rfl, rfl, rfl⟩ ⟨rfl, rfl, rfl, rfl⟩⟩
theorem LB.thrown {N : Nat} {V I : VV} {O : OO} {L : List Nat} {K : Nat → Nat} (h : LB N V I O L K) {c : Nat} (hc : c < N) : LB N (u2 V 25 0 c) I O L K := by
  obtain ⟨h1, h2, h3, h4, own, h5⟩ := h
  exact ⟨h1.thrown c, h2.up hc, h3, h4, own, h5.thrown⟩
theorem LB.mono {N M : Nat} {V I : VV} {O : OO} {L : List Nat} {K : Nat → Nat} (h : LB N V I O L K) (hM : N ≤ M) : LB M V I O L K := ⟨h.1, h.2.1.mono hM, h.2.2.1.mono hM, h.2.2.2⟩
theorem MT.exc {N c : Nat} {V V1 I : VV} {O : OO} {L : List Nat} {K : Nat → Nat} {f1 : Nat → Int64} {rh rm : Option Value} {ans : Int32 → Int64} {a : Int32} (h : LB N V I O L K) (hN : 20000 ≤ N) (hc : c = 1 ∨ c = 2) (hr : rh = some (.int (nI c))) (hm : rm = some (.int a)) (hV : V1 = u2 V 25 0 c) : MT N V1 I O L K f1 rh rm ans := by
  subst hV
  exact ⟨(h.thrown (by omega)).mono (by omega), c, a, by omega, hr, hm, u2_same _ _ _ _, fun z => by omega⟩
theorem vWr_25 (V : VV) (t k b : Nat) : vWr V t k b 25 = V 25 := by
  unfold vWr
  split
  · rfl
  · split
    · rw [vRing_k _ _ (by decide) (by decide) (by decide) (by decide) (by decide) (by decide)]
      rfl
    · rfl
theorem vGoA_25 {V : VV} (hI : Iv V) : vGoA V 25 = V 25 := vGo_ind (P := fun U => U 25 = V 25) (fun _ _ h => h) (fun _ _ h => h) (fun U t k b h _ _ _ _ => (vWr_25 U t k b).trans h) 3601 V hI rfl
theorem BdN.putV {V : VV} {N t k b : Nat} (hI : Iv V) (h : BdN V N) (hN : 20000 ≤ N) (ht : t < V 16 0) (hl : V 8 t < 3) (hk : k < 200) (hb : b ≤ 1) : BdN (vGoA (vWr V t k b)) (N + 4000) := by
  have hq := hI.q
  have h1 := hI.1
  exact (BdN.goA (hI.wrV ht hl hk hb) (h.wrV h1 (by omega) hN (by omega) hk hb) (by omega)).mono (by omega)
theorem BdN.endA {V : VV} {N t z : Nat} (hI : Iv V) (hIE : Iv (vEnd V t z)) (h : BdN V N) (hN : 20000 ≤ N) (hz : z ≤ 4) : BdN (vGoA (vEnd V t z)) (N + 3601) := by
  have hq := hI.q
  exact BdN.goA hIE (h.endV hI.1 (by omega) hN hz) hN
theorem nIa {x y : Int32} (h : x = y) : x.toInt64 = y.toInt64 := by rw [h]
theorem mt_state {N : Nat} {V W V1 I I1 : VV} {O O1 : OO} {L L1 : List Nat} {K K1 : Nat → Nat} {f1 : Nat → Int64} {rh rm : Option Value} {x : Int32} (hL : LB N V I O L K) (hN : 20000 ≤ N) (hW : W = u2 V 25 0 0)
    (hc : (∃ v : Int32, ((fun r I1 O1 L1 K1 => (I1 = I ∧ O1 = O ∧ L1 = L ∧ K1 = K) ∧ ∃ j, x = nI j ∧ j < 2 ^ 31 ∧ j < W 16 0 ∧ r = some (.int (nI (W 8 j)))) : Option Value → VV → OO → List Nat → (Nat → Nat) → Prop) (some (.int v)) I1 O1 L1 K1 ∧ rh = some (.int (nI 0)) ∧ f1 0 = v.toInt64) ∨ ((I1 = I ∧ O1 = O ∧ L1 = L ∧ K1 = K) ∧ ((((fun E => E = xIA ∧ ¬ inR x (W 16 0)) : String → Prop) xIA ∧ rh = some (.int (nI 1))))))
    (hm : ((fun r V1 => (inR x (V 16 0) ∧ V1 = u2 V 25 0 0 ∧ r = some (.int (nI (V 8 (ix x))))) ∨ (¬ inR x (V 16 0) ∧ V1 = u2 V 25 0 1 ∧ r = some (.int (nI 0)))) : Option Value → VV → Prop) rm V1) : MT N V1 I1 O1 L1 K1 f1 rh rm (fun a => a.toInt64) := by
  have hT := hL.thrown (c := 0) (by omega)
  rw [← hW] at hT
  obtain ⟨wI, wB, -, -, -⟩ := id hT
  have w16 : W 16 0 = V 16 0 := by rw [hW]; rfl
  have w4 : W 4 0 = V 4 0 := by rw [hW]; rfl
  have w25 : W 25 0 = 0 := by rw [hW]; exact u2_same _ _ _ _
  have wk : ∀ x, x ≠ 25 → W x = V x := fun x hx => by rw [hW]; simp only [u2, if_neg hx]
  have hLK : vLK W = vLK V := by rw [hW]; exact vLK_25 V 0
  have htl : ∀ x, tel W x ↔ tel V x := fun x => by unfold tel; rw [hLK, w4]
  rcases hc with ⟨v, hcc, hr, hf⟩ | ⟨⟨rfl, rfl, rfl, rfl⟩, hx⟩
  · obtain ⟨⟨rfl, rfl, rfl, rfl⟩, j, rfl, hj, hjc, hv⟩ := hcc
    have hi : inR (nI j) (V 16 0) := (inR_nI hj).mpr (w16 ▸ hjc)
    rcases hm with ⟨_, e1, hr2⟩ | ⟨hno, _⟩
    · rw [ix_nI hj] at hr2
      rw [← hW] at e1
      subst e1
      cases hv
      exact ⟨hT.mono (by omega), 0, _, by decide, hr, hr2, w25, fun _ => by rw [hf, wk 8 (by decide)]⟩
    · exact absurd hi hno
  · obtain ⟨⟨_, hno⟩, hr⟩ := hx
    rw [w16] at hno
    rcases hm with ⟨hi, _⟩ | ⟨_, e1, hr2⟩
    · exact absurd hi hno
    · exact MT.exc hL hN (Or.inl rfl) hr hr2 e1
theorem mt_waits {N : Nat} {V W V1 I I1 : VV} {O O1 : OO} {L L1 : List Nat} {K K1 : Nat → Nat} {f1 : Nat → Int64} {rh rm : Option Value} {x : Int32} (hL : LB N V I O L K) (hN : 20000 ≤ N) (hW : W = u2 V 25 0 0)
    (hc : (∃ v : Int32, ((fun r I1 O1 L1 K1 => (I1 = I ∧ O1 = O ∧ L1 = L ∧ K1 = K) ∧ ∃ j, x = nI j ∧ j < 2 ^ 31 ∧ j < W 16 0 ∧ r = some (.int (if W 8 j = 1 then nI (W 11 j) - 1 else -1))) : Option Value → VV → OO → List Nat → (Nat → Nat) → Prop) (some (.int v)) I1 O1 L1 K1 ∧ rh = some (.int (nI 0)) ∧ f1 0 = v.toInt64) ∨ ((I1 = I ∧ O1 = O ∧ L1 = L ∧ K1 = K) ∧ ((((fun E => E = xIA ∧ ¬ inR x (W 16 0)) : String → Prop) xIA ∧ rh = some (.int (nI 1))))))
    (hm : ((fun r V1 => (inR x (V 16 0) ∧ V1 = u2 V 25 0 0 ∧ r = some (.int (if V 8 (ix x) = 1 then nI (V 11 (ix x)) - 1 else -1))) ∨ (¬ inR x (V 16 0) ∧ V1 = u2 V 25 0 1 ∧ r = some (.int (nI 0)))) : Option Value → VV → Prop) rm V1) : MT N V1 I1 O1 L1 K1 f1 rh rm (fun a => a.toInt64) := by
  have hT := hL.thrown (c := 0) (by omega)
  rw [← hW] at hT
  obtain ⟨wI, wB, -, -, -⟩ := id hT
  have w16 : W 16 0 = V 16 0 := by rw [hW]; rfl
  have w4 : W 4 0 = V 4 0 := by rw [hW]; rfl
  have w25 : W 25 0 = 0 := by rw [hW]; exact u2_same _ _ _ _
  have wk : ∀ x, x ≠ 25 → W x = V x := fun x hx => by rw [hW]; simp only [u2, if_neg hx]
  have hLK : vLK W = vLK V := by rw [hW]; exact vLK_25 V 0
  have htl : ∀ x, tel W x ↔ tel V x := fun x => by unfold tel; rw [hLK, w4]
  rcases hc with ⟨v, hcc, hr, hf⟩ | ⟨⟨rfl, rfl, rfl, rfl⟩, hx⟩
  · obtain ⟨⟨rfl, rfl, rfl, rfl⟩, j, rfl, hj, hjc, hv⟩ := hcc
    have hi : inR (nI j) (V 16 0) := (inR_nI hj).mpr (w16 ▸ hjc)
    rcases hm with ⟨_, e1, hr2⟩ | ⟨hno, _⟩
    · rw [ix_nI hj] at hr2
      rw [← hW] at e1
      subst e1
      cases hv
      exact ⟨hT.mono (by omega), 0, _, by decide, hr, hr2, w25, fun _ => by rw [hf, wk 8 (by decide), wk 11 (by decide)]⟩
    · exact absurd hi hno
  · obtain ⟨⟨_, hno⟩, hr⟩ := hx
    rw [w16] at hno
    rcases hm with ⟨hi, _⟩ | ⟨_, e1, hr2⟩
    · exact absurd hi hno
    · exact MT.exc hL hN (Or.inl rfl) hr hr2 e1
theorem mt_conflicts {N : Nat} {V W V1 I I1 : VV} {O O1 : OO} {L L1 : List Nat} {K K1 : Nat → Nat} {f1 : Nat → Int64} {rh rm : Option Value} {x y : Int32} (hL : LB N V I O L K) (hN : 20000 ≤ N) (hW : W = u2 V 25 0 0)
    (hc : (∃ v : Int32, ((fun r I1 O1 L1 K1 => (I1 = I ∧ O1 = O ∧ L1 = L ∧ K1 = K) ∧ ((x = nI 0 ∧ (∃ k, y = nI k ∧ k < 200 ∧ r = some (.int (nI (W 23 k))))) ∨ (x = nI 1 ∧ (∃ k, y = nI k ∧ k < 4 ∧ r = some (.int (nI (W 24 k))))))) : Option Value → VV → OO → List Nat → (Nat → Nat) → Prop) (some (.int v)) I1 O1 L1 K1 ∧ rh = some (.int (nI 0)) ∧ f1 0 = v.toInt64) ∨ ((I1 = I ∧ O1 = O ∧ L1 = L ∧ K1 = K) ∧ ((((fun E => E = xIA ∧ ¬ (x = nI 0 ∧ inR y 200) ∧ ¬ (x = nI 1 ∧ inR y 4)) : String → Prop) xIA ∧ rh = some (.int (nI 1))))))
    (hm : ((fun r V1 => (x = nI 0 ∧ inR y 200 ∧ V1 = u2 V 25 0 0 ∧ r = some (.int (nI (V 23 (ix y))))) ∨ (x = nI 1 ∧ inR y 4 ∧ V1 = u2 V 25 0 0 ∧ r = some (.int (nI (V 24 (ix y))))) ∨ (¬ (x = nI 0 ∧ inR y 200) ∧ ¬ (x = nI 1 ∧ inR y 4) ∧ V1 = u2 V 25 0 1 ∧ r = some (.int (nI 0)))) : Option Value → VV → Prop) rm V1) : MT N V1 I1 O1 L1 K1 f1 rh rm (fun a => a.toInt64) := by
  have hT := hL.thrown (c := 0) (by omega)
  rw [← hW] at hT
  obtain ⟨wI, wB, -, -, -⟩ := id hT
  have w16 : W 16 0 = V 16 0 := by rw [hW]; rfl
  have w4 : W 4 0 = V 4 0 := by rw [hW]; rfl
  have w25 : W 25 0 = 0 := by rw [hW]; exact u2_same _ _ _ _
  have wk : ∀ x, x ≠ 25 → W x = V x := fun x hx => by rw [hW]; simp only [u2, if_neg hx]
  have hLK : vLK W = vLK V := by rw [hW]; exact vLK_25 V 0
  have htl : ∀ x, tel W x ↔ tel V x := fun x => by unfold tel; rw [hLK, w4]
  rcases hc with ⟨v, hcc, hr, hf⟩ | ⟨⟨rfl, rfl, rfl, rfl⟩, hx⟩
  · obtain ⟨⟨rfl, rfl, rfl, rfl⟩, ⟨h0, k, rfl, hk, hv⟩ | ⟨h0, k, rfl, hk, hv⟩⟩ := hcc
    · have hi : inR (nI k) 200 := (inR_nI (by omega)).mpr hk
      rcases hm with ⟨_, _, e1, hr2⟩ | ⟨h1, _⟩ | ⟨hno, _⟩
      · rw [ix_nI (by omega)] at hr2
        rw [← hW] at e1
        subst e1
        cases hv
        exact ⟨hT.mono (by omega), 0, _, by decide, hr, hr2, w25, fun _ => by rw [hf, wk 23 (by decide)]⟩
      · exact absurd (h0.symm.trans h1) (by decide)
      · exact absurd ⟨h0, hi⟩ hno
    · have hi : inR (nI k) 4 := (inR_nI (by omega)).mpr hk
      rcases hm with ⟨h1, _⟩ | ⟨_, _, e1, hr2⟩ | ⟨_, hno, _⟩
      · exact absurd (h0.symm.trans h1) (by decide)
      · rw [ix_nI (by omega)] at hr2
        rw [← hW] at e1
        subst e1
        cases hv
        exact ⟨hT.mono (by omega), 0, _, by decide, hr, hr2, w25, fun _ => by rw [hf, wk 24 (by decide)]⟩
      · exact absurd ⟨h0, hi⟩ hno
  · obtain ⟨⟨_, hno, hno2⟩, hr⟩ := hx
    rcases hm with ⟨h1, h2, _⟩ | ⟨h1, h2, _⟩ | ⟨_, _, e1, hr2⟩
    · exact absurd ⟨h1, h2⟩ hno
    · exact absurd ⟨h1, h2⟩ hno2
    · exact MT.exc hL hN (Or.inl rfl) hr hr2 e1
theorem mt_told {N : Nat} {V W V1 I I1 : VV} {O O1 : OO} {L L1 : List Nat} {K K1 : Nat → Nat} {f1 : Nat → Int64} {rh rm : Option Value} {x y : Int32} (hL : LB N V I O L K) (hN : 20000 ≤ N) (hW : W = u2 V 25 0 0)
    (hc : (∃ v : Int32, ((fun r I1 O1 L1 K1 => (I1 = I ∧ O1 = O ∧ L1 = L ∧ K1 = K) ∧ ∃ j k, x = nI j ∧ j ≤ W 4 0 ∧ vLK W ≤ j ∧ y = nI k ∧ k < 200 ∧ ((vThere W k j ∧ r = some (.int (nI 1))) ∨ (¬ vThere W k j ∧ r = some (.int (nI 0))))) : Option Value → VV → OO → List Nat → (Nat → Nat) → Prop) (some (.int v)) I1 O1 L1 K1 ∧ rh = some (.int (nI 0)) ∧ f1 0 = (if v = 0 then 0 else 1)) ∨ ((I1 = I ∧ O1 = O ∧ L1 = L ∧ K1 = K) ∧ ((((fun E => E = xIA ∧ ¬ (tel W x ∧ inR y 200)) : String → Prop) xIA ∧ rh = some (.int (nI 1))))))
    (hm : ((fun r V1 => (tel V x ∧ inR y 200 ∧ V1 = u2 V 25 0 0 ∧ ((vThere V (ix y) (ix x) ∧ r = some (.int (nI 1))) ∨ (¬ vThere V (ix y) (ix x) ∧ r = some (.int (nI 0))))) ∨ (¬ (tel V x ∧ inR y 200) ∧ V1 = u2 V 25 0 1 ∧ r = some (.int (nI 0)))) : Option Value → VV → Prop) rm V1) : MT N V1 I1 O1 L1 K1 f1 rh rm (fun a => if a = 0 then 0 else 1) := by
  have hT := hL.thrown (c := 0) (by omega)
  rw [← hW] at hT
  obtain ⟨wI, wB, -, -, -⟩ := id hT
  have w16 : W 16 0 = V 16 0 := by rw [hW]; rfl
  have w4 : W 4 0 = V 4 0 := by rw [hW]; rfl
  have w25 : W 25 0 = 0 := by rw [hW]; exact u2_same _ _ _ _
  have wk : ∀ x, x ≠ 25 → W x = V x := fun x hx => by rw [hW]; simp only [u2, if_neg hx]
  have hLK : vLK W = vLK V := by rw [hW]; exact vLK_25 V 0
  have htl : ∀ x, tel W x ↔ tel V x := fun x => by unfold tel; rw [hLK, w4]
  rcases hc with ⟨v, hcc, hr, hf⟩ | ⟨⟨rfl, rfl, rfl, rfl⟩, hx⟩
  · obtain ⟨⟨rfl, rfl, rfl, rfl⟩, j, k, rfl, hj1, hj2, rfl, hk, hv⟩ := hcc
    have hla := wI.1.lat
    have hj : j < 2 ^ 31 := by omega
    have hi : tel V (nI j) := (htl _).mp ((tel_nI hj).mpr ⟨hj2, hj1⟩)
    have hi2 : inR (nI k) 200 := (inR_nI (by omega)).mpr hk
    rcases hm with ⟨_, _, e1, hr2⟩ | ⟨hno, _⟩
    · rw [ix_nI hj, ix_nI (by omega)] at hr2
      rw [← hW] at e1
      subst e1
      have hth : vThere V1 k j ↔ vThere V k j := by unfold vThere; rw [wk 3 (by decide), wk 2 (by decide), vRow_cong (wk 0 (by decide)) (wk 1 (by decide))]
      rcases hv with ⟨h1, hv⟩ | ⟨h1, hv⟩ <;> rcases hr2 with ⟨h2, hr2⟩ | ⟨h2, hr2⟩
      · cases hv
        exact ⟨hT.mono (by omega), 0, _, by decide, hr, hr2, w25, fun _ => hf⟩
      · exact absurd (hth.mp h1) h2
      · exact absurd (hth.mpr h2) h1
      · cases hv
        exact ⟨hT.mono (by omega), 0, _, by decide, hr, hr2, w25, fun _ => hf⟩
    · exact absurd ⟨hi, hi2⟩ hno
  · obtain ⟨⟨_, hno⟩, hr⟩ := hx
    rcases hm with ⟨h1, h2, _⟩ | ⟨_, e1, hr2⟩
    · exact absurd ⟨(htl _).mpr h1, h2⟩ hno
    · exact MT.exc hL hN (Or.inl rfl) hr hr2 e1
theorem mt_read {N : Nat} {V W V1 I I1 : VV} {O O1 : OO} {L L1 : List Nat} {K K1 : Nat → Nat} {f1 : Nat → Int64} {rh rm : Option Value} {x y : Int32} (hL : LB N V I O L K) (hN : 20000 ≤ N) (hW : W = u2 V 25 0 0)
    (hc : (∃ v : Int32, ((fun r I1 O1 L1 K1 => (I1 = I ∧ O1 = O ∧ L1 = L ∧ K1 = K) ∧ ∃ j k, x = nI j ∧ j < 2 ^ 31 ∧ j < W 16 0 ∧ y = nI k ∧ k < 200 ∧ W 8 j < 3 ∧ ((vRead W j k ∧ r = some (.int (nI 1))) ∨ (¬ vRead W j k ∧ r = some (.int (nI 0))))) : Option Value → VV → OO → List Nat → (Nat → Nat) → Prop) (some (.int v)) I1 O1 L1 K1 ∧ rh = some (.int (nI 0)) ∧ f1 0 = (if v = 0 then 0 else 1)) ∨ ((I1 = I ∧ O1 = O ∧ L1 = L ∧ K1 = K) ∧ ((((fun E => (E = xIA ∧ ¬ (inR x (W 16 0) ∧ inR y 200)) ∨ (E = xIS ∧ inR x (W 16 0) ∧ inR y 200 ∧ 3 ≤ W 8 (ix x))) : String → Prop) xIA ∧ rh = some (.int (nI 1))) ∨ (((fun E => (E = xIA ∧ ¬ (inR x (W 16 0) ∧ inR y 200)) ∨ (E = xIS ∧ inR x (W 16 0) ∧ inR y 200 ∧ 3 ≤ W 8 (ix x))) : String → Prop) xIS ∧ rh = some (.int (nI 2))))))
    (hm : ((fun r V1 => (inR x (V 16 0) ∧ inR y 200 ∧ V 8 (ix x) < 3 ∧ V1 = u2 V 25 0 0 ∧ ((vRead V (ix x) (ix y) ∧ r = some (.int (nI 1))) ∨ (¬ vRead V (ix x) (ix y) ∧ r = some (.int (nI 0))))) ∨ (inR x (V 16 0) ∧ inR y 200 ∧ 3 ≤ V 8 (ix x) ∧ V1 = u2 V 25 0 2 ∧ r = some (.int (nI 0))) ∨ (¬ (inR x (V 16 0) ∧ inR y 200) ∧ V1 = u2 V 25 0 1 ∧ r = some (.int (nI 0)))) : Option Value → VV → Prop) rm V1) : MT N V1 I1 O1 L1 K1 f1 rh rm (fun a => if a = 0 then 0 else 1) := by
  have hT := hL.thrown (c := 0) (by omega)
  rw [← hW] at hT
  obtain ⟨wI, wB, -, -, -⟩ := id hT
  have w16 : W 16 0 = V 16 0 := by rw [hW]; rfl
  have w4 : W 4 0 = V 4 0 := by rw [hW]; rfl
  have w25 : W 25 0 = 0 := by rw [hW]; exact u2_same _ _ _ _
  have wk : ∀ x, x ≠ 25 → W x = V x := fun x hx => by rw [hW]; simp only [u2, if_neg hx]
  have hLK : vLK W = vLK V := by rw [hW]; exact vLK_25 V 0
  have htl : ∀ x, tel W x ↔ tel V x := fun x => by unfold tel; rw [hLK, w4]
  rcases hc with ⟨v, hcc, hr, hf⟩ | ⟨⟨rfl, rfl, rfl, rfl⟩, hx⟩
  · obtain ⟨⟨rfl, rfl, rfl, rfl⟩, j, k, rfl, hj, hjc, rfl, hk, hl, hv⟩ := hcc
    have hi : inR (nI j) (V 16 0) := (inR_nI hj).mpr (w16 ▸ hjc)
    have hi2 : inR (nI k) 200 := (inR_nI (by omega)).mpr hk
    rw [wk 8 (by decide)] at hl
    rcases hm with ⟨_, _, _, e1, hr2⟩ | ⟨_, _, h3, _⟩ | ⟨hno, _⟩
    · rw [ix_nI hj, ix_nI (by omega)] at hr2
      rw [← hW] at e1
      subst e1
      have hth : vRead V1 j k ↔ vRead V j k := by unfold vRead vThere; rw [wk 10 (by decide), wk 7 (by decide), wk 3 (by decide), wk 2 (by decide), vRow_cong (wk 0 (by decide)) (wk 1 (by decide))]
      rcases hv with ⟨h1, hv⟩ | ⟨h1, hv⟩ <;> rcases hr2 with ⟨h2, hr2⟩ | ⟨h2, hr2⟩
      · cases hv
        exact ⟨hT.mono (by omega), 0, _, by decide, hr, hr2, w25, fun _ => hf⟩
      · exact absurd (hth.mp h1) h2
      · exact absurd (hth.mpr h2) h1
      · cases hv
        exact ⟨hT.mono (by omega), 0, _, by decide, hr, hr2, w25, fun _ => hf⟩
    · rw [ix_nI hj] at h3; omega
    · exact absurd ⟨hi, hi2⟩ hno
  · rcases hx with ⟨⟨_, hno⟩ | ⟨hE, _⟩, hr⟩ | ⟨⟨hE, _⟩ | ⟨_, h1, h2, h3⟩, hr⟩
    · rw [w16] at hno
      rcases hm with ⟨h1, h2, _⟩ | ⟨h1, h2, _⟩ | ⟨_, e1, hr2⟩
      · exact absurd ⟨h1, h2⟩ hno
      · exact absurd ⟨h1, h2⟩ hno
      · exact MT.exc hL hN (Or.inl rfl) hr hr2 e1
    · exact absurd hE (by decide)
    · exact absurd hE (by decide)
    · rw [w16] at h1
      rw [wk 8 (by decide)] at h3
      rcases hm with ⟨_, _, h4, _⟩ | ⟨_, _, _, e1, hr2⟩ | ⟨hno, _⟩
      · omega
      · exact MT.exc hL hN (Or.inr rfl) hr hr2 e1
      · exact absurd ⟨h1, h2⟩ hno
theorem mt_pin {N : Nat} {V W V1 I I1 : VV} {O O1 : OO} {L L1 : List Nat} {K K1 : Nat → Nat} {f1 : Nat → Int64} {rh rm : Option Value} {x : Int32} (hL : LB N V I O L K) (hN : 20000 ≤ N) (hW : W = u2 V 25 0 0)
    (hc : (∃ v : Int32, ((fun r I1 O1 L1 K1 => ∃ j, x = nI j ∧ j ≤ W 4 0 ∧ vLK W ≤ j ∧ CR N (u2 W 5 j (W 5 j + 1)) I1 O1 L1 K1 ∧ r = some (.int (nI (W 5 j + 1)))) : Option Value → VV → OO → List Nat → (Nat → Nat) → Prop) (some (.int v)) I1 O1 L1 K1 ∧ rh = some (.int (nI 0)) ∧ f1 0 = v.toInt64) ∨ ((I1 = I ∧ O1 = O ∧ L1 = L ∧ K1 = K) ∧ ((((fun E => E = xIA ∧ ¬ tel W x) : String → Prop) xIA ∧ rh = some (.int (nI 1))))))
    (hm : ((fun r V1 => (tel V x ∧ V1 = u2 (u2 V 25 0 0) 5 (ix x) (V 5 (ix x) + 1) ∧ r = some (.int (nI (V 5 (ix x) + 1)))) ∨ (¬ tel V x ∧ V1 = u2 V 25 0 1 ∧ r = some (.int (nI 0)))) : Option Value → VV → Prop) rm V1) : MT N V1 I1 O1 L1 K1 f1 rh rm (fun a => a.toInt64) := by
  have hT := hL.thrown (c := 0) (by omega)
  rw [← hW] at hT
  obtain ⟨wI, wB, -, -, -⟩ := id hT
  have w16 : W 16 0 = V 16 0 := by rw [hW]; rfl
  have w4 : W 4 0 = V 4 0 := by rw [hW]; rfl
  have w25 : W 25 0 = 0 := by rw [hW]; exact u2_same _ _ _ _
  have wk : ∀ x, x ≠ 25 → W x = V x := fun x hx => by rw [hW]; simp only [u2, if_neg hx]
  have hLK : vLK W = vLK V := by rw [hW]; exact vLK_25 V 0
  have htl : ∀ x, tel W x ↔ tel V x := fun x => by unfold tel; rw [hLK, w4]
  rcases hc with ⟨v, hcc, hr, hf⟩ | ⟨⟨rfl, rfl, rfl, rfl⟩, hx⟩
  · obtain ⟨j, rfl, hj1, hj2, ⟨cB, cI, own1, cR⟩, hv⟩ := hcc
    have hla := wI.1.lat
    have hj : j < 2 ^ 31 := by omega
    have hi : tel V (nI j) := (htl _).mp ((tel_nI hj).mpr ⟨hj2, hj1⟩)
    rcases hm with ⟨_, e1, hr2⟩ | ⟨hno, _⟩
    · rw [ix_nI hj] at e1 hr2
      rw [← hW, ← wk 5 (by decide)] at e1
      rw [← wk 5 (by decide)] at hr2
      subst e1
      cases hv
      exact ⟨⟨wI.pinV hj1, (wB.mono (by omega)).up (by have := wB 5 j; omega), cB, cI, own1, cR⟩, 0, _, by decide, hr, hr2, w25, fun _ => hf⟩
    · exact absurd hi hno
  · obtain ⟨⟨_, hno⟩, hr⟩ := hx
    rcases hm with ⟨h1, _⟩ | ⟨_, e1, hr2⟩
    · exact absurd ((htl _).mpr h1) hno
    · exact MT.exc hL hN (Or.inl rfl) hr hr2 e1
theorem mt_unpin {N : Nat} {V W V1 I I1 : VV} {O O1 : OO} {L L1 : List Nat} {K K1 : Nat → Nat} {f1 : Nat → Int64} {rh rm : Option Value} {x : Int32} (hL : LB N V I O L K) (hN : 20000 ≤ N) (hW : W = u2 V 25 0 0)
    (hc : (∃ v : Int32, ((fun r I1 O1 L1 K1 => ∃ j, x = nI j ∧ j ≤ W 4 0 ∧ 0 < W 5 j ∧ CR N (u2 W 5 j (W 5 j - 1)) I1 O1 L1 K1 ∧ r = some (.int (nI (W 5 j - 1)))) : Option Value → VV → OO → List Nat → (Nat → Nat) → Prop) (some (.int v)) I1 O1 L1 K1 ∧ rh = some (.int (nI 0)) ∧ f1 0 = v.toInt64) ∨ ((I1 = I ∧ O1 = O ∧ L1 = L ∧ K1 = K) ∧ ((((fun E => E = xIA ∧ ¬ (inR x 64 ∧ 0 < W 5 (ix x))) : String → Prop) xIA ∧ rh = some (.int (nI 1))))))
    (hm : ((fun r V1 => (inR x 64 ∧ 0 < V 5 (ix x) ∧ V1 = u2 (u2 V 25 0 0) 5 (ix x) (V 5 (ix x) - 1) ∧ r = some (.int (nI (V 5 (ix x) - 1)))) ∨ (¬ (inR x 64 ∧ 0 < V 5 (ix x)) ∧ V1 = u2 V 25 0 1 ∧ r = some (.int (nI 0)))) : Option Value → VV → Prop) rm V1) : MT N V1 I1 O1 L1 K1 f1 rh rm (fun a => a.toInt64) := by
  have hT := hL.thrown (c := 0) (by omega)
  rw [← hW] at hT
  obtain ⟨wI, wB, -, -, -⟩ := id hT
  have w16 : W 16 0 = V 16 0 := by rw [hW]; rfl
  have w4 : W 4 0 = V 4 0 := by rw [hW]; rfl
  have w25 : W 25 0 = 0 := by rw [hW]; exact u2_same _ _ _ _
  have wk : ∀ x, x ≠ 25 → W x = V x := fun x hx => by rw [hW]; simp only [u2, if_neg hx]
  have hLK : vLK W = vLK V := by rw [hW]; exact vLK_25 V 0
  have htl : ∀ x, tel W x ↔ tel V x := fun x => by unfold tel; rw [hLK, w4]
  rcases hc with ⟨v, hcc, hr, hf⟩ | ⟨⟨rfl, rfl, rfl, rfl⟩, hx⟩
  · obtain ⟨j, rfl, hj1, hj2, ⟨cB, cI, own1, cR⟩, hv⟩ := hcc
    have hla := wI.1.lat
    have hj : j < 2 ^ 31 := by omega
    have hi : inR (nI j) 64 := (inR_nI hj).mpr (by omega)
    rcases hm with ⟨_, _, e1, hr2⟩ | ⟨hno, _⟩
    · rw [ix_nI hj] at e1 hr2
      rw [← hW, ← wk 5 (by decide)] at e1
      rw [← wk 5 (by decide)] at hr2
      subst e1
      cases hv
      exact ⟨⟨wI.pinV hj1, (wB.mono (by omega)).up (by have := wB 5 j; omega), cB, cI, own1, cR⟩, 0, _, by decide, hr, hr2, w25, fun _ => hf⟩
    · rw [ix_nI hj, ← wk 5 (by decide)] at hno
      exact absurd ⟨hi, hj2⟩ hno
  · obtain ⟨⟨_, hno⟩, hr⟩ := hx
    rw [wk 5 (by decide)] at hno
    rcases hm with ⟨h1, h2, _⟩ | ⟨_, e1, hr2⟩
    · exact absurd ⟨h1, h2⟩ hno
    · exact MT.exc hL hN (Or.inl rfl) hr hr2 e1
theorem BdN.start {V : VV} {N b v : Nat} (h : BdN V N) (hN : 20000 ≤ N) (hb : b ≤ 1) (hc : V 16 0 < 60) (hv : v ≤ 60) : BdN (vStart V b v) N := ((((h.up (by omega)).up (by omega)).up (by omega)).up (by omega)).up (by omega)
theorem mt_begin {N : Nat} {V W V1 I I1 : VV} {O O1 : OO} {L L1 : List Nat} {K K1 : Nat → Nat} {f1 : Nat → Int64} {rh rm : Option Value} (hL : LB N V I O L K) (hN : 20000 ≤ N) (hW : W = u2 V 25 0 0)
    (hc : (∃ v : Int32, ((fun r I1 O1 L1 K1 => W 16 0 < 60 ∧ CR N (vStart W 1 (W 4 0)) I1 O1 L1 K1 ∧ r = some (.int (nI (W 16 0)))) : Option Value → VV → OO → List Nat → (Nat → Nat) → Prop) (some (.int v)) I1 O1 L1 K1 ∧ rh = some (.int (nI 0)) ∧ f1 0 = v.toInt64) ∨ ((I1 = I ∧ O1 = O ∧ L1 = L ∧ K1 = K) ∧ ((((fun E => E = xIS ∧ 60 ≤ W 16 0) : String → Prop) xIS ∧ rh = some (.int (nI 1))))))
    (hm : ((fun r V1 => (V 16 0 < 60 ∧ V1 = vStart (u2 V 25 0 0) 1 (V 4 0) ∧ r = some (.int (nI (V 16 0)))) ∨ (60 ≤ V 16 0 ∧ V1 = u2 V 25 0 1 ∧ r = some (.int (nI 0)))) : Option Value → VV → Prop) rm V1) : MT N V1 I1 O1 L1 K1 f1 rh rm (fun a => a.toInt64) := by
  have hT := hL.thrown (c := 0) (by omega)
  rw [← hW] at hT
  obtain ⟨wI, wB, -, -, -⟩ := id hT
  have w16 : W 16 0 = V 16 0 := by rw [hW]; rfl
  have w4 : W 4 0 = V 4 0 := by rw [hW]; rfl
  have w25 : W 25 0 = 0 := by rw [hW]; exact u2_same _ _ _ _
  have wk : ∀ x, x ≠ 25 → W x = V x := fun x hx => by rw [hW]; simp only [u2, if_neg hx]
  have hLK : vLK W = vLK V := by rw [hW]; exact vLK_25 V 0
  have htl : ∀ x, tel W x ↔ tel V x := fun x => by unfold tel; rw [hLK, w4]
  rcases hc with ⟨v, hcc, hr, hf⟩ | ⟨⟨rfl, rfl, rfl, rfl⟩, hx⟩
  · obtain ⟨h60, ⟨cB, cI, own1, cR⟩, hv⟩ := hcc
    have hla := wI.1.lat
    rcases hm with ⟨_, e1, hr2⟩ | ⟨hno, _⟩
    · rw [← hW, ← w4] at e1
      rw [← w16] at hr2
      subst e1
      cases hv
      exact ⟨⟨wI.startV h60 (Nat.le_refl _), (wB.start hN (by decide) h60 hla).mono (by omega), cB, cI, own1, cR⟩, 0, _, by decide, hr, hr2, w25, fun _ => hf⟩
    · omega
  · obtain ⟨⟨_, hno⟩, hr⟩ := hx
    rcases hm with ⟨h1, _⟩ | ⟨_, e1, hr2⟩
    · omega
    · exact MT.exc hL hN (Or.inl rfl) hr hr2 e1
theorem mt_look {N : Nat} {V W V1 I I1 : VV} {O O1 : OO} {L L1 : List Nat} {K K1 : Nat → Nat} {f1 : Nat → Int64} {rh rm : Option Value} {x : Int32} (hL : LB N V I O L K) (hN : 20000 ≤ N) (hW : W = u2 V 25 0 0)
    (hc : (∃ v : Int32, ((fun r I1 O1 L1 K1 => ∃ j, x = nI j ∧ j ≤ W 4 0 ∧ vLK W ≤ j ∧ W 16 0 < 60 ∧ CR N (vStart W 0 j) I1 O1 L1 K1 ∧ r = some (.int (nI (W 16 0)))) : Option Value → VV → OO → List Nat → (Nat → Nat) → Prop) (some (.int v)) I1 O1 L1 K1 ∧ rh = some (.int (nI 0)) ∧ f1 0 = v.toInt64) ∨ ((I1 = I ∧ O1 = O ∧ L1 = L ∧ K1 = K) ∧ ((((fun E => (E = xIA ∧ ¬ tel W x) ∨ (E = xIS ∧ tel W x ∧ 60 ≤ W 16 0)) : String → Prop) xIA ∧ rh = some (.int (nI 1))) ∨ (((fun E => (E = xIA ∧ ¬ tel W x) ∨ (E = xIS ∧ tel W x ∧ 60 ≤ W 16 0)) : String → Prop) xIS ∧ rh = some (.int (nI 2))))))
    (hm : ((fun r V1 => (tel V x ∧ V 16 0 < 60 ∧ V1 = vStart (u2 V 25 0 0) 0 (ix x) ∧ r = some (.int (nI (V 16 0)))) ∨ (tel V x ∧ 60 ≤ V 16 0 ∧ V1 = u2 V 25 0 2 ∧ r = some (.int (nI 0))) ∨ (¬ tel V x ∧ V1 = u2 V 25 0 1 ∧ r = some (.int (nI 0)))) : Option Value → VV → Prop) rm V1) : MT N V1 I1 O1 L1 K1 f1 rh rm (fun a => a.toInt64) := by
  have hT := hL.thrown (c := 0) (by omega)
  rw [← hW] at hT
  obtain ⟨wI, wB, -, -, -⟩ := id hT
  have w16 : W 16 0 = V 16 0 := by rw [hW]; rfl
  have w4 : W 4 0 = V 4 0 := by rw [hW]; rfl
  have w25 : W 25 0 = 0 := by rw [hW]; exact u2_same _ _ _ _
  have wk : ∀ x, x ≠ 25 → W x = V x := fun x hx => by rw [hW]; simp only [u2, if_neg hx]
  have hLK : vLK W = vLK V := by rw [hW]; exact vLK_25 V 0
  have htl : ∀ x, tel W x ↔ tel V x := fun x => by unfold tel; rw [hLK, w4]
  rcases hc with ⟨v, hcc, hr, hf⟩ | ⟨⟨rfl, rfl, rfl, rfl⟩, hx⟩
  · obtain ⟨j, rfl, hj1, hj2, h60, ⟨cB, cI, own1, cR⟩, hv⟩ := hcc
    have hla := wI.1.lat
    have hj : j < 2 ^ 31 := by omega
    have hi : tel V (nI j) := (htl _).mp ((tel_nI hj).mpr ⟨hj2, hj1⟩)
    rcases hm with ⟨_, _, e1, hr2⟩ | ⟨_, h1, _⟩ | ⟨hno, _⟩
    · rw [← hW, ix_nI hj] at e1
      rw [← w16] at hr2
      subst e1
      cases hv
      exact ⟨⟨wI.startV h60 hj1, (wB.start hN (by decide) h60 (by omega)).mono (by omega), cB, cI, own1, cR⟩, 0, _, by decide, hr, hr2, w25, fun _ => hf⟩
    · omega
    · exact absurd hi hno
  · rcases hx with ⟨⟨_, hno⟩ | ⟨hE, _⟩, hr⟩ | ⟨⟨hE, _⟩ | ⟨_, h1, h2⟩, hr⟩
    · rcases hm with ⟨h1, _⟩ | ⟨h1, _⟩ | ⟨_, e1, hr2⟩
      · exact absurd ((htl _).mpr h1) hno
      · exact absurd ((htl _).mpr h1) hno
      · exact MT.exc hL hN (Or.inl rfl) hr hr2 e1
    · exact absurd hE (by decide)
    · exact absurd hE (by decide)
    · rcases hm with ⟨_, h4, _⟩ | ⟨_, _, e1, hr2⟩ | ⟨hno, _⟩
      · omega
      · exact MT.exc hL hN (Or.inr rfl) hr hr2 e1
      · exact absurd ((htl _).mp h1) hno
theorem mt_note {N : Nat} {V W V1 I I1 : VV} {O O1 : OO} {L L1 : List Nat} {K K1 : Nat → Nat} {f1 : Nat → Int64} {rh rm : Option Value} {x y : Int32} (hL : LB N V I O L K) (hN : 20000 ≤ N) (hW : W = u2 V 25 0 0)
    (hc : (∃ v : Int32, ((fun r I1 O1 L1 K1 => ∃ j k, x = nI j ∧ j < 2 ^ 31 ∧ j < W 16 0 ∧ y = nI k ∧ k < 4 ∧ (W 8 j = 0 ∧ 0 < W 6 j) ∧ CR N (u2 W 9 j (W 9 j ||| 2 ^ k)) I1 O1 L1 K1 ∧ r = some (.int (nI (vPop (W 9 j ||| 2 ^ k) 4)))) : Option Value → VV → OO → List Nat → (Nat → Nat) → Prop) (some (.int v)) I1 O1 L1 K1 ∧ rh = some (.int (nI 0)) ∧ f1 0 = v.toInt64) ∨ ((I1 = I ∧ O1 = O ∧ L1 = L ∧ K1 = K) ∧ ((((fun E => (E = xIA ∧ ¬ (inR x (W 16 0) ∧ inR y 4)) ∨ (E = xIS ∧ inR x (W 16 0) ∧ inR y 4 ∧ ¬ (W 8 (ix x) = 0 ∧ 0 < W 6 (ix x)))) : String → Prop) xIA ∧ rh = some (.int (nI 1))) ∨ (((fun E => (E = xIA ∧ ¬ (inR x (W 16 0) ∧ inR y 4)) ∨ (E = xIS ∧ inR x (W 16 0) ∧ inR y 4 ∧ ¬ (W 8 (ix x) = 0 ∧ 0 < W 6 (ix x)))) : String → Prop) xIS ∧ rh = some (.int (nI 2))))))
    (hm : ((fun r V1 => (inR x (V 16 0) ∧ inR y 4 ∧ (V 8 (ix x) = 0 ∧ 0 < V 6 (ix x)) ∧ V1 = u2 (u2 V 25 0 0) 9 (ix x) (V 9 (ix x) ||| 2 ^ (ix y)) ∧ r = some (.int (nI (vPop (V 9 (ix x) ||| 2 ^ (ix y)) 4)))) ∨ (inR x (V 16 0) ∧ inR y 4 ∧ ¬ (V 8 (ix x) = 0 ∧ 0 < V 6 (ix x)) ∧ V1 = u2 V 25 0 2 ∧ r = some (.int (nI 0))) ∨ (¬ (inR x (V 16 0) ∧ inR y 4) ∧ V1 = u2 V 25 0 1 ∧ r = some (.int (nI 0)))) : Option Value → VV → Prop) rm V1) : MT N V1 I1 O1 L1 K1 f1 rh rm (fun a => a.toInt64) := by
  have hT := hL.thrown (c := 0) (by omega)
  rw [← hW] at hT
  obtain ⟨wI, wB, -, -, -⟩ := id hT
  have w16 : W 16 0 = V 16 0 := by rw [hW]; rfl
  have w4 : W 4 0 = V 4 0 := by rw [hW]; rfl
  have w25 : W 25 0 = 0 := by rw [hW]; exact u2_same _ _ _ _
  have wk : ∀ x, x ≠ 25 → W x = V x := fun x hx => by rw [hW]; simp only [u2, if_neg hx]
  have hLK : vLK W = vLK V := by rw [hW]; exact vLK_25 V 0
  have htl : ∀ x, tel W x ↔ tel V x := fun x => by unfold tel; rw [hLK, w4]
  rcases hc with ⟨v, hcc, hr, hf⟩ | ⟨⟨rfl, rfl, rfl, rfl⟩, hx⟩
  · obtain ⟨j, k, rfl, hj, hjc, rfl, hk, hop, ⟨cB, cI, own1, cR⟩, hv⟩ := hcc
    have hi : inR (nI j) (V 16 0) := (inR_nI hj).mpr (w16 ▸ hjc)
    have hi2 : inR (nI k) 4 := (inR_nI (by omega)).mpr hk
    have hm16 := (bit_or (W 9 j) (wI.1.2.2.2.2.2.2.2.2.2 j) k hk).1
    rw [wk 8 (by decide), wk 6 (by decide)] at hop
    rcases hm with ⟨_, _, _, e1, hr2⟩ | ⟨_, _, h3, _⟩ | ⟨hno, _⟩
    · rw [ix_nI hj, ix_nI (by omega)] at e1 hr2
      rw [← hW, ← wk 9 (by decide)] at e1
      rw [← wk 9 (by decide)] at hr2
      subst e1
      cases hv
      exact ⟨⟨wI.noteV hjc hm16, (wB.mono (by omega)).up (by omega), cB, cI, own1, cR⟩, 0, _, by decide, hr, hr2, w25, fun _ => hf⟩
    · rw [ix_nI hj] at h3; exact absurd hop h3
    · exact absurd ⟨hi, hi2⟩ hno
  · rcases hx with ⟨⟨_, hno⟩ | ⟨hE, _⟩, hr⟩ | ⟨⟨hE, _⟩ | ⟨_, h1, h2, h3⟩, hr⟩
    · rw [w16] at hno
      rcases hm with ⟨h1, h2, _⟩ | ⟨h1, h2, _⟩ | ⟨_, e1, hr2⟩
      · exact absurd ⟨h1, h2⟩ hno
      · exact absurd ⟨h1, h2⟩ hno
      · exact MT.exc hL hN (Or.inl rfl) hr hr2 e1
    · exact absurd hE (by decide)
    · exact absurd hE (by decide)
    · rw [w16] at h1
      rw [wk 8 (by decide), wk 6 (by decide)] at h3
      rcases hm with ⟨_, _, h4, _⟩ | ⟨_, _, _, e1, hr2⟩ | ⟨hno, _⟩
      · exact absurd h4 h3
      · exact MT.exc hL hN (Or.inr rfl) hr hr2 e1
      · exact absurd ⟨h1, h2⟩ hno
theorem mt_put {N : Nat} {V W V1 I I1 : VV} {O O1 : OO} {L L1 : List Nat} {K K1 : Nat → Nat} {f1 : Nat → Int64} {rh rm : Option Value} {x y : Int32} {b : Nat} (hb : b ≤ 1) (hL : LB N V I O L K) (hN : 20000 ≤ N) (hW : W = u2 V 25 0 0)
    (hc : (∃ v : Int32, ((fun r I1 O1 L1 K1 => ∃ j k, x = nI j ∧ j < 2 ^ 31 ∧ j < W 16 0 ∧ y = nI k ∧ k < 200 ∧ (W 8 j = 0 ∧ 0 < W 6 j) ∧ CR N (vGoA (vWr W j k b)) I1 O1 L1 K1 ∧ r = some (.int (putAns (vGoA (vWr W j k b) 8 j)))) : Option Value → VV → OO → List Nat → (Nat → Nat) → Prop) (some (.int v)) I1 O1 L1 K1 ∧ rh = some (.int (nI 0)) ∧ f1 0 = v.toInt64) ∨ ((I1 = I ∧ O1 = O ∧ L1 = L ∧ K1 = K) ∧ ((((fun E => (E = xIA ∧ ¬ (inR x (W 16 0) ∧ inR y 200)) ∨ (E = xIS ∧ inR x (W 16 0) ∧ inR y 200 ∧ ¬ (W 8 (ix x) = 0 ∧ 0 < W 6 (ix x)))) : String → Prop) xIA ∧ rh = some (.int (nI 1))) ∨ (((fun E => (E = xIA ∧ ¬ (inR x (W 16 0) ∧ inR y 200)) ∨ (E = xIS ∧ inR x (W 16 0) ∧ inR y 200 ∧ ¬ (W 8 (ix x) = 0 ∧ 0 < W 6 (ix x)))) : String → Prop) xIS ∧ rh = some (.int (nI 2))))))
    (hm : ((fun r V1 => (inR x (V 16 0) ∧ inR y 200 ∧ (V 8 (ix x) = 0 ∧ 0 < V 6 (ix x)) ∧ V1 = vGoA (vWr (u2 V 25 0 0) (ix x) (ix y) b) ∧ r = some (.int (putAns (V1 8 (ix x))))) ∨ (inR x (V 16 0) ∧ inR y 200 ∧ ¬ (V 8 (ix x) = 0 ∧ 0 < V 6 (ix x)) ∧ V1 = u2 V 25 0 2 ∧ r = some (.int (nI 0))) ∨ (¬ (inR x (V 16 0) ∧ inR y 200) ∧ V1 = u2 V 25 0 1 ∧ r = some (.int (nI 0)))) : Option Value → VV → Prop) rm V1) : MT N V1 I1 O1 L1 K1 f1 rh rm (fun a => a.toInt64) := by
  have hT := hL.thrown (c := 0) (by omega)
  rw [← hW] at hT
  obtain ⟨wI, wB, -, -, -⟩ := id hT
  have w16 : W 16 0 = V 16 0 := by rw [hW]; rfl
  have w4 : W 4 0 = V 4 0 := by rw [hW]; rfl
  have w25 : W 25 0 = 0 := by rw [hW]; exact u2_same _ _ _ _
  have wk : ∀ x, x ≠ 25 → W x = V x := fun x hx => by rw [hW]; simp only [u2, if_neg hx]
  have hLK : vLK W = vLK V := by rw [hW]; exact vLK_25 V 0
  have htl : ∀ x, tel W x ↔ tel V x := fun x => by unfold tel; rw [hLK, w4]
  rcases hc with ⟨v, hcc, hr, hf⟩ | ⟨⟨rfl, rfl, rfl, rfl⟩, hx⟩
  · obtain ⟨j, k, rfl, hj, hjc, rfl, hk, hop, ⟨cB, cI, own1, cR⟩, hv⟩ := hcc
    have hi : inR (nI j) (V 16 0) := (inR_nI hj).mpr (w16 ▸ hjc)
    have hi2 : inR (nI k) 200 := (inR_nI (by omega)).mpr hk
    have hl : W 8 j < 3 := by omega
    have hInv := wI.putV hjc hl hk hb
    have hBd := BdN.putV wI.1 wB hN hjc hl hk hb
    have h25 : vGoA (vWr W j k b) 25 0 = 0 := by rw [vGoA_25 (wI.1.wrV hjc hl hk hb), vWr_25]; exact w25
    rw [wk 8 (by decide), wk 6 (by decide)] at hop
    rcases hm with ⟨_, _, _, e1, hr2⟩ | ⟨_, _, h3, _⟩ | ⟨hno, _⟩
    · rw [ix_nI hj, ix_nI (by omega), ← hW] at e1
      rw [ix_nI hj] at hr2
      rw [← e1] at cR cI hInv hBd h25 hv
      cases hv
      exact ⟨⟨hInv, hBd, cB, cI, own1, cR⟩, 0, _, by decide, hr, hr2, h25, fun _ => hf⟩
    · rw [ix_nI hj] at h3; exact absurd hop h3
    · exact absurd ⟨hi, hi2⟩ hno
  · rcases hx with ⟨⟨_, hno⟩ | ⟨hE, _⟩, hr⟩ | ⟨⟨hE, _⟩ | ⟨_, h1, h2, h3⟩, hr⟩
    · rw [w16] at hno
      rcases hm with ⟨h1, h2, _⟩ | ⟨h1, h2, _⟩ | ⟨_, e1, hr2⟩
      · exact absurd ⟨h1, h2⟩ hno
      · exact absurd ⟨h1, h2⟩ hno
      · exact MT.exc hL hN (Or.inl rfl) hr hr2 e1
    · exact absurd hE (by decide)
    · exact absurd hE (by decide)
    · rw [w16] at h1
      rw [wk 8 (by decide), wk 6 (by decide)] at h3
      rcases hm with ⟨_, _, h4, _⟩ | ⟨_, _, _, e1, hr2⟩ | ⟨hno, _⟩
      · exact absurd h4 h3
      · exact MT.exc hL hN (Or.inr rfl) hr hr2 e1
      · exact absurd ⟨h1, h2⟩ hno
theorem mt_abort {N : Nat} {V W V1 I I1 : VV} {O O1 : OO} {L L1 : List Nat} {K K1 : Nat → Nat} {f1 : Nat → Int64} {rh rm : Option Value} {x : Int32} (hL : LB N V I O L K) (hN : 20000 ≤ N) (hW : W = u2 V 25 0 0)
    (hc : (∃ v : Int32, ((fun r I1 O1 L1 K1 => ∃ j, x = nI j ∧ j < 2 ^ 31 ∧ j < W 16 0 ∧ W 8 j < 3 ∧ CR N (vGoA (vEnd W j 4)) I1 O1 L1 K1 ∧ r = some (.int (nI (vWc W j 200)))) : Option Value → VV → OO → List Nat → (Nat → Nat) → Prop) (some (.int v)) I1 O1 L1 K1 ∧ rh = some (.int (nI 0)) ∧ f1 0 = v.toInt64) ∨ ((I1 = I ∧ O1 = O ∧ L1 = L ∧ K1 = K) ∧ ((((fun E => (E = xIA ∧ ¬ inR x (W 16 0)) ∨ (E = xIS ∧ inR x (W 16 0) ∧ 3 ≤ W 8 (ix x))) : String → Prop) xIA ∧ rh = some (.int (nI 1))) ∨ (((fun E => (E = xIA ∧ ¬ inR x (W 16 0)) ∨ (E = xIS ∧ inR x (W 16 0) ∧ 3 ≤ W 8 (ix x))) : String → Prop) xIS ∧ rh = some (.int (nI 2))))))
    (hm : ((fun r V1 => (inR x (V 16 0) ∧ V 8 (ix x) < 3 ∧ V1 = vGoA (vEnd (u2 V 25 0 0) (ix x) 4) ∧ r = some (.int (nI (vWc V1 (ix x) 200)))) ∨ (inR x (V 16 0) ∧ 3 ≤ V 8 (ix x) ∧ V1 = u2 V 25 0 2 ∧ r = some (.int (nI 0))) ∨ (¬ inR x (V 16 0) ∧ V1 = u2 V 25 0 1 ∧ r = some (.int (nI 0)))) : Option Value → VV → Prop) rm V1) : MT N V1 I1 O1 L1 K1 f1 rh rm (fun a => a.toInt64) := by
  have hT := hL.thrown (c := 0) (by omega)
  rw [← hW] at hT
  obtain ⟨wI, wB, -, -, -⟩ := id hT
  have w16 : W 16 0 = V 16 0 := by rw [hW]; rfl
  have w4 : W 4 0 = V 4 0 := by rw [hW]; rfl
  have w25 : W 25 0 = 0 := by rw [hW]; exact u2_same _ _ _ _
  have wk : ∀ x, x ≠ 25 → W x = V x := fun x hx => by rw [hW]; simp only [u2, if_neg hx]
  have hLK : vLK W = vLK V := by rw [hW]; exact vLK_25 V 0
  have htl : ∀ x, tel W x ↔ tel V x := fun x => by unfold tel; rw [hLK, w4]
  rcases hc with ⟨v, hcc, hr, hf⟩ | ⟨⟨rfl, rfl, rfl, rfl⟩, hx⟩
  · obtain ⟨j, rfl, hj, hjc, hl, ⟨cB, cI, own1, cR⟩, hv⟩ := hcc
    have hi : inR (nI j) (V 16 0) := (inR_nI hj).mpr (w16 ▸ hjc)
    have hInv := wI.abortV hjc hl
    have hIE := wI.1.endV hjc hl (show 3 ≤ 4 by decide)
    have hBd := (BdN.endA wI.1 hIE wB hN (show 4 ≤ 4 by decide)).mono (show N + 3601 ≤ N + 4000 by omega)
    have h25 : vGoA (vEnd W j 4) 25 0 = 0 := by rw [vGoA_25 hIE, vEnd_k (by decide) (by decide) (by decide) (by decide)]; exact w25
    have hwc : vWc (vGoA (vEnd W j 4)) j 200 = vWc W j 200 := by
      refine vWc_cong 200 (Nat.le_refl _) (fun q hq => ?_)
      rw [(vGoA_end hIE (e := j) (by rw [vEnd_8, u2_same]; decide)).2 q hq, vEnd_k (by decide) (by decide) (by decide) (by decide)]
    have hl2 : V 8 j < 3 := by rw [← wk 8 (by decide)]; exact hl
    rcases hm with ⟨_, _, e1, hr2⟩ | ⟨_, h3, _⟩ | ⟨hno, _⟩
    · rw [ix_nI hj, ← hW] at e1
      rw [ix_nI hj] at hr2
      rw [← e1] at cR cI hInv hBd h25 hwc
      cases hv
      exact ⟨⟨hInv, hBd, cB, cI, own1, cR⟩, 0, _, by decide, hr, hr2, h25, fun _ => by rw [hf, hwc]⟩
    · rw [ix_nI hj] at h3; omega
    · exact absurd hi hno
  · rcases hx with ⟨⟨_, hno⟩ | ⟨hE, _⟩, hr⟩ | ⟨⟨hE, _⟩ | ⟨_, h1, h3⟩, hr⟩
    · rw [w16] at hno
      rcases hm with ⟨h1, _⟩ | ⟨h1, _⟩ | ⟨_, e1, hr2⟩
      · exact absurd h1 hno
      · exact absurd h1 hno
      · exact MT.exc hL hN (Or.inl rfl) hr hr2 e1
    · exact absurd hE (by decide)
    · exact absurd hE (by decide)
    · rw [w16] at h1
      rw [wk 8 (by decide)] at h3
      rcases hm with ⟨_, h4, _⟩ | ⟨_, _, e1, hr2⟩ | ⟨hno, _⟩
      · omega
      · exact MT.exc hL hN (Or.inr rfl) hr hr2 e1
      · exact absurd h1 hno
theorem mt_commit {N : Nat} {V W V1 I I1 : VV} {O O1 : OO} {L L1 : List Nat} {K K1 : Nat → Nat} {f1 : Nat → Int64} {rh rm : Option Value} {x : Int32} (hL : LB N V I O L K) (hN : 20000 ≤ N) (hW : W = u2 V 25 0 0)
    (hc : (∃ v : Int32, ((fun r I1 O1 L1 K1 => ∃ j, x = nI j ∧ j < 2 ^ 31 ∧ j < W 16 0 ∧ (W 8 j < 3 ∧ W 8 j ≠ 1) ∧ (((W 8 j = 2 ∨ 0 < vCh W j 4 0) ∧ CR N (vGoA (vEnd (vRef W j) j 4)) I1 O1 L1 K1 ∧ r = some (.int (nI 0))) ∨ (¬ (W 8 j = 2 ∨ 0 < vCh W j 4 0) ∧ CR N (vGoA (vEnd (vRwA W j) j 3)) I1 O1 L1 K1 ∧ r = some (.int (nI (vNum W j)))))) : Option Value → VV → OO → List Nat → (Nat → Nat) → Prop) (some (.int v)) I1 O1 L1 K1 ∧ rh = some (.int (nI 0)) ∧ f1 0 = v.toInt64) ∨ ((I1 = I ∧ O1 = O ∧ L1 = L ∧ K1 = K) ∧ ((((fun E => (E = xIA ∧ ¬ inR x (W 16 0)) ∨ (E = xIS ∧ inR x (W 16 0) ∧ ¬ (W 8 (ix x) < 3 ∧ W 8 (ix x) ≠ 1))) : String → Prop) xIA ∧ rh = some (.int (nI 1))) ∨ (((fun E => (E = xIA ∧ ¬ inR x (W 16 0)) ∨ (E = xIS ∧ inR x (W 16 0) ∧ ¬ (W 8 (ix x) < 3 ∧ W 8 (ix x) ≠ 1))) : String → Prop) xIS ∧ rh = some (.int (nI 2))))))
    (hm : ((fun r V1 => (inR x (V 16 0) ∧ (V 8 (ix x) < 3 ∧ V 8 (ix x) ≠ 1) ∧ (V 8 (ix x) = 2 ∨ 0 < vCh (u2 V 25 0 0) (ix x) 4 0) ∧ V1 = vGoA (vEnd (vRef (u2 V 25 0 0) (ix x)) (ix x) 4) ∧ r = some (.int (nI 0))) ∨ (inR x (V 16 0) ∧ (V 8 (ix x) < 3 ∧ V 8 (ix x) ≠ 1) ∧ ¬ (V 8 (ix x) = 2 ∨ 0 < vCh (u2 V 25 0 0) (ix x) 4 0) ∧ V1 = vGoA (vEnd (vRwA (u2 V 25 0 0) (ix x)) (ix x) 3) ∧ r = some (.int (nI (vNum (u2 V 25 0 0) (ix x))))) ∨ (inR x (V 16 0) ∧ ¬ (V 8 (ix x) < 3 ∧ V 8 (ix x) ≠ 1) ∧ V1 = u2 V 25 0 2 ∧ r = some (.int (nI 0))) ∨ (¬ inR x (V 16 0) ∧ V1 = u2 V 25 0 1 ∧ r = some (.int (nI 0)))) : Option Value → VV → Prop) rm V1) : MT N V1 I1 O1 L1 K1 f1 rh rm (fun a => a.toInt64) := by
  have hT := hL.thrown (c := 0) (by omega)
  rw [← hW] at hT
  obtain ⟨wI, wB, -, -, -⟩ := id hT
  have w16 : W 16 0 = V 16 0 := by rw [hW]; rfl
  have w4 : W 4 0 = V 4 0 := by rw [hW]; rfl
  have w25 : W 25 0 = 0 := by rw [hW]; exact u2_same _ _ _ _
  have wk : ∀ x, x ≠ 25 → W x = V x := fun x hx => by rw [hW]; simp only [u2, if_neg hx]
  have hLK : vLK W = vLK V := by rw [hW]; exact vLK_25 V 0
  have htl : ∀ x, tel W x ↔ tel V x := fun x => by unfold tel; rw [hLK, w4]
  rcases hc with ⟨v, hcc, hr, hf⟩ | ⟨⟨rfl, rfl, rfl, rfl⟩, hx⟩
  · obtain ⟨j, rfl, hj, hjc, ⟨hl, hl1⟩, hcc⟩ := hcc
    have hi : inR (nI j) (V 16 0) := (inR_nI hj).mpr (w16 ▸ hjc)
    have w8 : W 8 j = V 8 j := by rw [wk 8 (by decide)]
    rcases hcc with ⟨href, ⟨cB, cI, own1, cR⟩, hv⟩ | ⟨href, ⟨cB, cI, own1, cR⟩, hv⟩
    · have ref : ∀ b, b ≠ 24 → vRef W j b = W b := fun b hb => vRef_k W j hb
      have hInv := wI.refuseV hjc hl
      have hIR := wI.1.refV (j := j)
      have hIE := hIR.endV (show j < vRef W j 16 0 by rw [ref 16 (by decide)]; exact hjc) (by rw [ref 8 (by decide)]; exact hl) (show 3 ≤ 4 by decide)
      have hBd := (BdN.endA hIR hIE wB.refV (by omega) (show 4 ≤ 4 by decide)).mono (show N + 1 + 3601 ≤ N + 4000 by omega)
      have h25 : vGoA (vEnd (vRef W j) j 4) 25 0 = 0 := by rw [vGoA_25 hIE, vEnd_k (by decide) (by decide) (by decide) (by decide), ref 25 (by decide)]; exact w25
      rcases hm with ⟨_, _, _, e1, hr2⟩ | ⟨_, _, hn, _⟩ | ⟨_, h3, _⟩ | ⟨hno, _⟩
      · rw [ix_nI hj, ← hW] at e1
        rw [← e1] at cR cI hInv hBd h25
        cases hv
        exact ⟨⟨hInv, hBd, cB, cI, own1, cR⟩, 0, _, by decide, hr, hr2, h25, fun _ => hf⟩
      · rw [ix_nI hj, ← hW, ← w8] at hn; exact absurd href hn
      · rw [ix_nI hj, ← w8] at h3; exact absurd ⟨hl, hl1⟩ h3
      · exact absurd hi hno
    · have hInv := wI.commitV hjc hl
      have hIE := wI.1.commitV hjc hl
      have eA : ∀ b, b ≠ 0 → b ≠ 1 → b ≠ 2 → b ≠ 3 → b ≠ 4 → vRwA W j b = W b := fun b h0 h1 h2 h3 h4 => vRwA_k W j h0 h1 h2 h3 h4
      have hq := wI.1.q
      have hBd := (BdN.goA hIE ((wB.rwA (t := j) hN (by have := wI.1.rows; omega) wI.1.lat).endV (t := j) (z := 3) (by rw [eA 16 (by decide) (by decide) (by decide) (by decide) (by decide)]; exact wI.1.1) (by rw [eA 20 (by decide) (by decide) (by decide) (by decide) (by decide)]; omega) hN (by decide)) hN).mono (show N + 3601 ≤ N + 4000 by omega)
      have h25 : vGoA (vEnd (vRwA W j) j 3) 25 0 = 0 := by rw [vGoA_25 hIE, vEnd_k (by decide) (by decide) (by decide) (by decide), eA 25 (by decide) (by decide) (by decide) (by decide) (by decide)]; exact w25
      rcases hm with ⟨_, _, hn, _⟩ | ⟨_, _, _, e1, hr2⟩ | ⟨_, h3, _⟩ | ⟨hno, _⟩
      · rw [ix_nI hj, ← hW, ← w8] at hn; exact absurd hn href
      · rw [ix_nI hj, ← hW] at e1 hr2
        rw [← e1] at cR cI hInv hBd h25
        have hv := Value.int.inj (Option.some.inj hv)
        exact ⟨⟨hInv, hBd, cB, cI, own1, cR⟩, 0, _, by decide, hr, hr2, h25, fun _ => by rw [hf, hv]⟩
      · rw [ix_nI hj, ← w8] at h3; exact absurd ⟨hl, hl1⟩ h3
      · exact absurd hi hno
  · rcases hx with ⟨⟨_, hno⟩ | ⟨hE, _⟩, hr⟩ | ⟨⟨hE, _⟩ | ⟨_, h1, h3⟩, hr⟩
    · rw [w16] at hno
      rcases hm with ⟨h1, _⟩ | ⟨h1, _⟩ | ⟨h1, _⟩ | ⟨_, e1, hr2⟩
      · exact absurd h1 hno
      · exact absurd h1 hno
      · exact absurd h1 hno
      · exact MT.exc hL hN (Or.inl rfl) hr hr2 e1
    · exact absurd hE (by decide)
    · exact absurd hE (by decide)
    · rw [w16] at h1
      rw [wk 8 (by decide)] at h3
      rcases hm with ⟨_, h4, _⟩ | ⟨_, h4, _⟩ | ⟨_, _, e1, hr2⟩ | ⟨hno, _⟩
      · exact absurd h4 h3
      · exact absurd h4 h3
      · exact MT.exc hL hN (Or.inr rfl) hr hr2 e1
      · exact absurd h1 hno
