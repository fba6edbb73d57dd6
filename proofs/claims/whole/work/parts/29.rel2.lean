/-! parts of the relation that a change leaves alone -/
theorem tx_cong {O O' : OO} (h : O' 2 = O 2) (i : Nat) : tx O' i = tx O i := by unfold tx; rw [h]
theorem RS.cong {V V' I I' : VV} (h : RS V I) (hV : V' 16 = V 16 ∧ V' 4 = V 4 ∧ V' 22 = V 22 ∧ V' 15 = V 15 ∧ V' 5 = V 5 ∧ V' 23 = V 23 ∧ V' 24 = V 24 ∧ V' 21 = V 21) (hI : I' 0 = I 0 ∧ I' 2 = I 2 ∧ I' 3 = I 3 ∧ I' 4 = I 4 ∧ I' 5 = I 5 ∧ I' 7 = I 7 ∧ I' 8 = I 8 ∧ I' 9 = I 9) : RS V' I' := by
  obtain ⟨a, b, c, d, e, f, g, k⟩ := hV
  obtain ⟨a2, b2, c2, d2, e2, f2, g2, k2⟩ := hI
  unfold RS
  rw [a, b, c, d, e, f, g, k, a2, b2, c2, d2, e2, f2, g2, k2]
  exact h
theorem RT.cong {V V' I I' : VV} {O O' : OO} {L : List Nat} {K : Nat → Nat} (h : RT V I O L K) (hV : V' 16 = V 16 ∧ V' 6 = V 6 ∧ V' 7 = V 7 ∧ V' 8 = V 8 ∧ V' 11 = V 11 ∧ V' 12 = V 12 ∧ V' 13 = V 13 ∧ V' 14 = V 14) (hI : I' 12 = I 12 ∧ I' 13 = I 13 ∧ I' 14 = I 14 ∧ I' 16 = I 16 ∧ I' 17 = I 17 ∧ I' 18 = I 18 ∧ I' 19 = I 19) (hO : O' 2 = O 2 ∧ O' 7 = O 7) : RT V' I' O' L K := by
  obtain ⟨a, b, c, d, e, f, g, k⟩ := hV
  obtain ⟨a2, b2, c2, d2, e2, f2, g2⟩ := hI
  obtain ⟨a3, b3⟩ := hO
  unfold RT
  rw [a, b, c, d, e, f, g, k, a2, b2, c2, d2, e2, f2, g2, a3, b3]
  simp only [tx_cong a3]
  exact h
theorem RM.cong {V V' I I' : VV} {O O' : OO} {L : List Nat} {K : Nat → Nat} (h : RM V I O L K) (hV : V' 16 = V 16 ∧ V' 9 = V 9) (hI : I' 15 = I 15 ∧ ∀ g, I' (20 + g) = I (20 + g)) (hO : O' 2 = O 2 ∧ O' 6 = O 6) : RM V' I' O' L K := by
  obtain ⟨a, b⟩ := hV
  obtain ⟨a2, b2⟩ := hI
  obtain ⟨a3, b3⟩ := hO
  unfold RM
  rw [a, b, a2, b3]
  simp only [tx_cong a3, b2]
  exact h
theorem RH.cong {V V' I I' : VV} {O O' : OO} (h : RH V I O) (hV : V' 17 = V 17 ∧ V' 10 = V 10) (hI : I' 6 = I 6) (hO : O' 2 = O 2 ∧ O' 4 = O 4) : RH V' I' O' := by
  obtain ⟨a, b⟩ := hV
  obtain ⟨a3, b3⟩ := hO
  unfold RH
  rw [a, b, hI, b3]
  simp only [tx_cong a3]
  exact h
theorem chV_cong {V V' : VV} {k : Nat} (h0 : V' 0 = V 0) (h1 : V' 1 = V 1) (h2 : V' 2 = V 2) : ∀ r, chV V' k r = chV V k r
  | 0 => rfl
  | r + 1 => by
    unfold chV
    rw [chV_cong h0 h1 h2 r, h0, h1, h2]
theorem Ch.cong {I I' : VV} {O O' : OO} {L L' : List Nat} {K K' own own' : Nat → Nat} {k : Nat} : ∀ {l : List (Nat × Nat)} {o : Option Nat}, Ch I O L K own k o l → (∀ a, a ∈ L → K a = 0 → own a = k → a ∈ L' ∧ K' a = 0 ∧ own' a = k ∧ I' 10 a = I 10 a ∧ I' 11 a = I 11 a ∧ O' 5 a = O 5 a) → Ch I' O' L' K' own' k o l
  | [], o, h, _ => h
  | q :: l, o, h, hh => by
    obtain ⟨a, e, h1, h2, h3, h4, h5, h6⟩ := h
    obtain ⟨q1, q2, q3, q4, q5, q6⟩ := hh a h1 h2 h3
    refine ⟨a, e, q1, q2, q3, q4.trans h4, q5.trans h5, ?_⟩
    rw [q6]
    exact Ch.cong h6 hh
theorem RN.cong {V V' I I' : VV} {O O' : OO} {L : List Nat} {K own : Nat → Nat} (h : RN V I O L K own) (hV : V' 0 = V 0 ∧ V' 1 = V 1 ∧ V' 2 = V 2 ∧ V' 3 = V 3) (hI : I' 10 = I 10 ∧ I' 11 = I 11) (hO : O' 3 = O 3 ∧ O' 5 = O 5) : RN V' I' O' L K own := fun k hk => by
  rw [hV.2.2.2, chV_cong hV.1 hV.2.1 hV.2.2.1, hO.1]
  refine Ch.cong (h k hk) (fun a h1 h2 h3 => ⟨h1, h2, h3, ?_, ?_, ?_⟩)
  · rw [hI.1]
  · rw [hI.2]
  · rw [hO.2]
theorem RQ.cong {V V' : VV} {O O' : OO} (h : RQ V O) (hV : V' 18 = V 18 ∧ V' 19 = V 19 ∧ V' 20 = V 20) (hO : O' 0 = O 0 ∧ O' 1 = O 1 ∧ O' 2 = O 2 ∧ O' 8 = O 8) : RQ V' O' := by
  obtain ⟨a, b, c⟩ := hV
  obtain ⟨a3, b3, c3, d3⟩ := hO
  unfold RQ
  rw [a, b, c, a3, b3, d3]
  simp only [tx_cong c3]
  exact h
/-- one more in the queue -/
theorem RQ.push {V I : VV} {O O' : OO} {L : List Nat} {K : Nat → Nat} {w : Nat} (h : RQ V O) (hT : RT V I O L K) (hw : w < V 16 0) (hft : V 19 0 ≤ V 20 0) (hq : ∀ j, V 19 0 ≤ j → j < V 20 0 → V 18 j < V 16 0 ∧ V 18 j ≠ w) (h2 : O' 2 = O 2)
    (h0 : O' 0 0 = if V 19 0 = V 20 0 then some (tx O w) else O 0 0) (h1 : O' 1 0 = some (tx O w)) (h8w : O' 8 (tx O w) = none)
    (h8l : V 19 0 < V 20 0 → O' 8 (tx O (V 18 (V 20 0 - 1))) = some (tx O w)) (h8 : ∀ a, a ≠ tx O w → (V 19 0 < V 20 0 → a ≠ tx O (V 18 (V 20 0 - 1))) → O' 8 a = O 8 a) : RQ (vPush V w) O' := by
  have e19 : vPush V w 19 0 = V 19 0 := rfl
  have e20 : vPush V w 20 0 = V 20 0 + 1 := by unfold vPush; rw [u2_same]
  have e18n : vPush V w 18 (V 20 0) = w := by unfold vPush; rw [u2_nk _ _ _ _ (by decide), u2_same]
  have e18 : ∀ j, j < V 20 0 → vPush V w 18 j = V 18 j := fun j hj => by unfold vPush; rw [u2_nk _ _ _ _ (by decide), u2_ni _ _ _ _ (by omega)]
  unfold RQ
  rw [e19, e20]
  refine ⟨fun q => by omega, fun _ => ?_⟩
  simp only [tx_cong h2]
  rw [show V 20 0 + 1 - 1 = V 20 0 by omega, e18n]
  refine ⟨?_, h1, h8w, fun j hj1 hj2 => ?_⟩
  · rw [h0]
    by_cases z : V 19 0 = V 20 0
    · rw [if_pos z, z, e18n]
    · rw [if_neg z, e18 _ (by omega)]
      exact (h.2 (by omega)).1
  · have hlt : V 19 0 < V 20 0 := by omega
    rcases (show j + 1 = V 20 0 ∨ j + 1 < V 20 0 by omega) with z | z
    · rw [e18 j (by omega), show j = V 20 0 - 1 by omega, h8l hlt, show V 20 0 - 1 + 1 = V 20 0 by omega, e18n]
    · rw [e18 j (by omega), e18 (j + 1) z]
      have hj := hq j hj1 (by omega)
      have hn : tx O (V 18 j) ≠ tx O w := fun q => hj.2 (hT.inj hj.1 hw q)
      by_cases hl : tx O (V 18 j) = tx O (V 18 (V 20 0 - 1))
      · have hlast := hq (V 20 0 - 1) (by omega) (by omega)
        have h9 := (h.2 hlt).2.2.1
        have h10 := (h.2 hlt).2.2.2 j hj1 (by omega)
        rw [hl, h9] at h10
        exact absurd h10 (by simp)
      · rw [h8 _ hn (fun _ => hl)]
        exact (h.2 hlt).2.2.2 j hj1 z
/-- sorting into the class's ring -/
def cIns (x : Nat) : Nat → VV → VV
  | 0, I => u2 I 9 0 x
  | k + 1, I => if x < I 9 k then cIns x k (u2 I 9 (k + 1) (I 9 k)) else u2 I 9 (k + 1) x
def cTk (V : VV) : Nat → VV → Nat → VV
  | 0, I, _ => I
  | k + 1, I, a => cTk V k (u2 (cIns a (I 3 0) I) 3 0 (I 3 0 + 1)) (V 11 a - 1)
theorem cIns_k (x : Nat) : ∀ (k : Nat) (I : VV) (a : Nat), a ≠ 9 → cIns x k I a = I a
  | 0, I, a, h => by
    unfold cIns u2
    rw [if_neg h]
  | k + 1, I, a, h => by
    unfold cIns
    split
    · rw [cIns_k x k _ a h]
      unfold u2
      rw [if_neg h]
    · unfold u2
      rw [if_neg h]
theorem cTk_k (V : VV) : ∀ (k : Nat) (I : VV) (a b : Nat), b ≠ 9 → b ≠ 3 → cTk V k I a b = I b
  | 0, I, a, b, _, _ => rfl
  | k + 1, I, a, b, h1, h2 => by
    unfold cTk
    rw [cTk_k V k _ _ b h1 h2]
    show u2 _ 3 0 _ b = _
    unfold u2
    rw [if_neg h2]
    exact cIns_k _ _ _ _ h1
theorem cIns_v {x : Nat} : ∀ (k : Nat) (I V : VV), k < 60 → (∀ j, j < 60 → I 9 j = V 21 j) → ∀ j, j < 60 → cIns x k I 9 j = vIns x k V 21 j
  | 0, I, V, hk, h, j, hj => by
    unfold cIns vIns
    rw [u2_eq, u2_eq]
    by_cases z : j = 0
    · rw [if_pos ⟨rfl, z⟩, if_pos ⟨rfl, z⟩]
    · rw [if_neg (fun q => z q.2), if_neg (fun q => z q.2)]
      exact h j hj
  | k + 1, I, V, hk, h, j, hj => by
    unfold cIns vIns
    rw [h k (by omega)]
    split
    · refine cIns_v k _ _ (by omega) (fun i hi => ?_) j hj
      rw [u2_eq, u2_eq]
      by_cases z : i = k + 1
      · rw [if_pos ⟨rfl, z⟩, if_pos ⟨rfl, z⟩]
      · rw [if_neg (fun q => z q.2), if_neg (fun q => z q.2)]
        exact h i hi
    · rw [u2_eq, u2_eq]
      by_cases z : j = k + 1
      · rw [if_pos ⟨rfl, z⟩, if_pos ⟨rfl, z⟩]
      · rw [if_neg (fun q => z q.2), if_neg (fun q => z q.2)]
        exact h j hj
theorem cTk_v (V0 : VV) : ∀ (k : Nat) (I V : VV) (a : Nat), V 11 = V0 11 → V 22 0 + k ≤ 60 → I 3 0 = V 22 0 → (∀ j, j < 60 → I 9 j = V 21 j) → cTk V0 k I a 3 0 = vTk k V a 22 0 ∧ ∀ j, j < 60 → cTk V0 k I a 9 j = vTk k V a 21 j
  | 0, I, V, a, _, _, h3, h => ⟨h3, h⟩
  | k + 1, I, V, a, h11, hk, h3, h => by
    unfold cTk vTk
    have e11 : u2 (vIns a (V 22 0) V) 22 0 (V 22 0 + 1) 11 = V0 11 := by
      show vIns a (V 22 0) V 11 = _
      rw [vIns_k _ _ _ _ (by decide), h11]
    rw [h11]
    refine cTk_v V0 k _ _ _ e11 (by rw [u2_same]; omega) ?_ (fun j hj => ?_)
    · rw [u2_same, u2_same, h3]
    · rw [u2_nk _ _ _ _ (by decide), u2_nk _ _ _ _ (by decide), h3]
      exact cIns_v _ _ _ (by omega) h j hj
theorem BdN.cins {N x : Nat} (hx : x < N) : ∀ (k : Nat) {I : VV}, BdN I N → BdN (cIns x k I) N
  | 0, I, h => by
    unfold cIns
    exact h.up hx
  | k + 1, I, h => by
    unfold cIns
    split
    · exact BdN.cins hx k (h.up (h 9 k))
    · exact h.up hx
theorem BdN.ctk {V : VV} {N : Nat} : ∀ (k : Nat) {I : VV} {a : Nat}, BdN I N → (∀ i, i < k → pth V a i < N) → I 3 0 + k < N → BdN (cTk V k I a) N
  | 0, I, a, h, _, _ => h
  | k + 1, I, a, h, hp, hk => by
    unfold cTk
    refine BdN.ctk k ((h.cins (hp 0 (by omega)) (k := I 3 0)).up (by omega)) (fun i hi => hp (i + 1) (by omega)) ?_
    rw [u2_same]
    omega
