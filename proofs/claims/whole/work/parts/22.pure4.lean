/-! the calls that change much: put, abort, commit, free, over numbers -/
def putAns (s : Nat) : Int32 := if s = 0 then 1 else if s = 1 then 0 else if s = 2 then -1 else -2
def vThB (V : VV) (t v : Nat) : Bool := decide (0 < vRow V t v (V 3 0)) && decide (0 < V 2 (vRow V t v (V 3 0) - 1))
theorem vThB_iff (V : VV) (t v : Nat) : vThB V t v = true ↔ vThere V t v := by
  unfold vThB vThere
  rw [Bool.and_eq_true, decide_eq_true_eq, decide_eq_true_eq]
def vChB (V : VV) (t k : Nat) : Bool := decide (0 < V 10 (200 * t + k)) && (decide (V 10 (200 * t + k) = 2) != vThB V k (V 7 t))
/-- the state behind the rows that a commit makes of the triples below k -/
def vRws (V : VV) (t nx : Nat) : Nat → VV
  | 0 => V
  | k + 1 => if vChB (vRws V t nx k) t k = true then vAdd1 (vRws V t nx k) k nx (if V 10 (200 * t + k) = 2 then 1 else 0) else vRws V t nx k
def vRwA (V : VV) (t : Nat) : VV := if vRws V t (V 4 0 + 1) 200 3 0 = V 3 0 then vRws V t (V 4 0 + 1) 200 else u2 (vRws V t (V 4 0 + 1) 200) 4 0 (V 4 0 + 1)
theorem vRws_k (V : VV) (t nx : Nat) {b : Nat} (h0 : b ≠ 0) (h1 : b ≠ 1) (h2 : b ≠ 2) (h3 : b ≠ 3) : ∀ k, vRws V t nx k b = V b
  | 0 => rfl
  | k + 1 => by
    unfold vRws
    split
    · unfold vAdd1 u2
      rw [if_neg h3, if_neg h2, if_neg h1, if_neg h0]
      exact vRws_k V t nx h0 h1 h2 h3 k
    · exact vRws_k V t nx h0 h1 h2 h3 k
theorem vRws_3 (V : VV) (t nx : Nat) : ∀ k, V 3 0 ≤ vRws V t nx k 3 0 ∧ vRws V t nx k 3 0 ≤ V 3 0 + k
  | 0 => ⟨Nat.le_refl _, Nat.le_refl _⟩
  | k + 1 => by
    have h := vRws_3 V t nx k
    unfold vRws
    split
    · unfold vAdd1
      rw [u2_same]
      omega
    · omega
theorem vRws_mono (V : VV) (t nx : Nat) : ∀ k, vRws V t nx k 3 0 ≤ vRws V t nx (k + 1) 3 0 := fun k => by
  show _ ≤ (if vChB (vRws V t nx k) t k = true then vAdd1 (vRws V t nx k) k nx (if V 10 (200 * t + k) = 2 then 1 else 0) else vRws V t nx k) 3 0
  split
  · unfold vAdd1
    rw [u2_same]
    omega
  · exact Nat.le_refl _
theorem BdN.rws {V : VV} {N t nx : Nat} (h : BdN V N) (hx : nx < N) (hN : 20000 ≤ N) (h3 : V 3 0 ≤ 13000) : ∀ k, k ≤ 200 → BdN (vRws V t nx k) N
  | 0, _ => h
  | k + 1, hk => by
    have h1 := BdN.rws h hx hN h3 (t := t) k (by omega)
    have h2 := vRws_3 V t nx k
    unfold vRws
    split
    · unfold vAdd1
      refine (((h1.up (by omega)).up hx).up ?_).up (by omega)
      split <;> omega
    · exact h1
theorem vRwA_k (V : VV) (t : Nat) {b : Nat} (h0 : b ≠ 0) (h1 : b ≠ 1) (h2 : b ≠ 2) (h3 : b ≠ 3) (h4 : b ≠ 4) : vRwA V t b = V b := by
  unfold vRwA
  split
  · exact vRws_k V t _ h0 h1 h2 h3 200
  · show (if b = 4 then _ else _) = _
    rw [if_neg h4]
    exact vRws_k V t _ h0 h1 h2 h3 200
theorem Iv.endC {V U : VV} {t z : Nat} (h : Iv V) (ht : t < V 16 0) (h1 : V 8 t < 3) (hz : 3 ≤ z) (hU : ∀ b, b ≠ 0 → b ≠ 1 → b ≠ 2 → b ≠ 3 → b ≠ 4 → U b = V b) (hr : U 3 0 ≤ 200 * U 4 0) (hl : U 4 0 ≤ V 4 0 + 1) : Iv (vEnd U t z) := by
  obtain ⟨a, b, c, d, e, f, g, r, l, o⟩ := h
  obtain ⟨q1, q2, q3, q4⟩ := vEnd_q U t z
  have hk : ∀ b, 5 ≤ b → U b = V b := fun b hb => hU b (by omega) (by omega) (by omega) (by omega) (by omega)
  rw [hk 20 (by decide)] at q1 q2 q3 q4
  rw [hk 16 (by decide)] at q2 q4
  rw [hk 18 (by decide)] at q3
  have e16 : vEnd U t z 16 0 = V 16 0 := by rw [vEnd_k (by decide) (by decide) (by decide) (by decide), hk 16 (by decide)]
  have e19 : vEnd U t z 19 0 = V 19 0 := by rw [vEnd_k (by decide) (by decide) (by decide) (by decide), hk 19 (by decide)]
  have e8 : ∀ i, vEnd U t z 8 i = u2 V 8 t z 8 i := fun i => by rw [vEnd_8, u2_eq, u2_eq, hk 8 (by decide)]
  have eC : cE (vEnd U t z) (V 16 0) = cE V (V 16 0) + 1 := by
    rw [← cE_end (V := V) ht h1 hz]
    exact cE_cong fun i _ => by rw [e8]
  unfold Iv
  rw [e16, e19, eC]
  refine ⟨a, fun i hi hs => ?_, fun k hk2 => ?_, fun j hj1 hj2 => ?_, by omega, by omega, ?_, ?_, ?_, fun j => ?_⟩
  · rw [e8] at hs
    have hne : i ≠ t := fun q => by rw [q, u2_same] at hs; omega
    rw [u2_ni _ _ _ _ hne] at hs
    rw [vEnd_k (k := 11) (by decide) (by decide) (by decide) (by decide), vEnd_k (k := 12) (by decide) (by decide) (by decide) (by decide), vEnd_k (k := 13) (by decide) (by decide) (by decide) (by decide), hk 11 (by decide), hk 12 (by decide), hk 13 (by decide)]
    exact b i hi hs
  · rw [vEnd_17]
    refine Nat.le_trans (vClr_le _ _ _ _ _) ?_
    rw [hk 17 (by decide)]
    exact c k hk2
  · rcases Nat.lt_or_ge j (V 20 0) with hj | hj
    · rw [q3 j hj]; exact d j hj1 hj
    · exact (q4 j hj hj2).1
  · rw [vEnd_k (by decide) (by decide) (by decide) (by decide), hk 22 (by decide)]; exact g
  · rw [vEnd_k (k := 3) (by decide) (by decide) (by decide) (by decide), vEnd_k (k := 4) (by decide) (by decide) (by decide) (by decide)]; exact hr
  · rw [vEnd_k (by decide) (by decide) (by decide) (by decide)]; omega
  · rw [vEnd_k (by decide) (by decide) (by decide) (by decide), hk 9 (by decide)]; exact o j
theorem Iv.commitV {V : VV} {t : Nat} (h : Iv V) (ht : t < V 16 0) (h1 : V 8 t < 3) : Iv (vEnd (vRwA V t) t 3) := by
  have h3 := vRws_3 V t (V 4 0 + 1) 200
  have hr : V 3 0 ≤ 200 * V 4 0 := h.2.2.2.2.2.2.2.1
  refine h.endC ht h1 (by decide) (fun b h0 h1 h2 h3 h4 => vRwA_k V t h0 h1 h2 h3 h4) ?_ ?_
  · unfold vRwA
    split
    · rename_i hq
      rw [hq, vRws_k V t _ (by decide) (by decide) (by decide) (by decide)]
      exact hr
    · rw [u2_nk _ _ _ _ (show (3 : Nat) ≠ 4 by decide), u2_same]
      omega
  · unfold vRwA
    split
    · rw [vRws_k V t _ (by decide) (by decide) (by decide) (by decide)]
      omega
    · rw [u2_same]
      exact Nat.le_refl _
/-- rows that go -/
def vGoB (V : VV) (k : Nat) : Bool := decide (V 1 k + 1 < V 26 (V 0 k)) || (decide (V 1 k + 1 = V 26 (V 0 k)) && decide (V 2 k = 0))
def vFk (V : VV) : Nat → Nat
  | 0 => 0
  | k + 1 => if vGoB V k = true then vFk V k else vFk V k + 1
def vFs (V : VV) : Nat → VV
  | 0 => V
  | k + 1 => if vGoB V k = true then vFs V k else u2 (u2 (u2 (vFs V k) 0 (vFk V k) (V 0 k)) 1 (vFk V k) (V 1 k)) 2 (vFk V k) (V 2 k)
theorem vFk_le (V : VV) : ∀ k, vFk V k ≤ k
  | 0 => Nat.le_refl _
  | k + 1 => by
    have := vFk_le V k
    unfold vFk
    split <;> omega
theorem vFs_hi (V : VV) : ∀ k b j, vFk V k ≤ j → vFs V k b j = V b j
  | 0, b, j, _ => rfl
  | k + 1, b, j, hj => by
    unfold vFk at hj
    unfold vFs
    split
    · rename_i h
      rw [if_pos h] at hj
      exact vFs_hi V k b j hj
    · rename_i h
      rw [if_neg h] at hj
      rw [u2_ni _ _ _ _ (by omega), u2_ni _ _ _ _ (by omega), u2_ni _ _ _ _ (by omega)]
      exact vFs_hi V k b j (by omega)
theorem vFs_k (V : VV) {b : Nat} (h0 : b ≠ 0) (h1 : b ≠ 1) (h2 : b ≠ 2) : ∀ k, vFs V k b = V b
  | 0 => rfl
  | k + 1 => by
    unfold vFs
    split
    · exact vFs_k V h0 h1 h2 k
    · unfold u2
      rw [if_neg h2, if_neg h1, if_neg h0]
      exact vFs_k V h0 h1 h2 k
theorem BdN.fs {V : VV} {N : Nat} (h : BdN V N) : ∀ k, BdN (vFs V k) N
  | 0 => h
  | k + 1 => by
    unfold vFs
    split
    · exact BdN.fs h k
    · exact (((BdN.fs h k).up (h 0 k)).up (h 1 k)).up (h 2 k)
/-- the versions of the rows that count in version v, and one -/
def vBs (V : VV) (v : Nat) : Nat → VV
  | 0 => V
  | t + 1 => u2 (vBs V v t) 26 t (if vRow V t v (V 3 0) = 0 then 0 else V 1 (vRow V t v (V 3 0) - 1) + 1)
theorem vBs_k (V : VV) (v : Nat) {b : Nat} (h : b ≠ 26) : ∀ t, vBs V v t b = V b
  | 0 => rfl
  | t + 1 => by
    show (if b = 26 then _ else _) = _
    rw [if_neg h]
    exact vBs_k V v h t
theorem BdN.bs {V : VV} {N v : Nat} (h : BdN V N) (hN : 0 < N) : ∀ t, BdN (vBs V v t) (N + 1)
  | 0 => h.mono (Nat.le_succ _)
  | t + 1 => (BdN.bs h hN t).up (by split <;> first | exact Nat.succ_pos _ | exact Nat.succ_lt_succ (h 1 _))
theorem vRow_cong {V U : VV} {t v : Nat} (h0 : U 0 = V 0) (h1 : U 1 = V 1) : ∀ n, vRow U t v n = vRow V t v n
  | 0 => rfl
  | n + 1 => by
    unfold vRow
    rw [vRow_cong h0 h1 n, h0, h1]
/-- free, over numbers: the state, and how many go -/
def vFree (V : VV) : VV := u2 (vFs (vBs V (vLK V) 200) (V 3 0)) 3 0 (vFk (vBs V (vLK V) 200) (V 3 0))
def vRef (V : VV) (j : Nat) : VV := if V 8 j = 2 then V else u2 V 24 (vCh V j 4 0 - 1) (V 24 (vCh V j 4 0 - 1) + 1)
def vNum (V : VV) (j : Nat) : Nat := if vRws V j (V 4 0 + 1) 200 3 0 = V 3 0 then V 7 j else V 4 0 + 1
theorem vCh_le (V : VV) (t : Nat) : ∀ f g, vCh V t f g ≤ g + f
  | 0, g => by unfold vCh; omega
  | f + 1, g => by
    unfold vCh
    split
    · omega
    · have := vCh_le V t f (g + 1)
      omega
theorem Iv.refV {V : VV} {j : Nat} (h : Iv V) : Iv (vRef V j) := by
  unfold vRef
  split
  · exact h
  · exact h
theorem BdN.refV {V : VV} {N j : Nat} (h : BdN V N) : BdN (vRef V j) (N + 1) := by
  unfold vRef
  split
  · exact h.mono (Nat.le_succ _)
  · exact (h.mono (Nat.le_succ _)).up (Nat.succ_lt_succ (h 24 _))
theorem BdN.rwA {V : VV} {N t : Nat} (h : BdN V N) (hN : 20000 ≤ N) (h3 : V 3 0 ≤ 13000) (h4 : V 4 0 ≤ 60) : BdN (vRwA V t) N := by
  unfold vRwA
  have h1 := BdN.rws h (t := t) (nx := V 4 0 + 1) (by omega) hN h3 200 (Nat.le_refl _)
  split
  · exact h1
  · exact h1.up (by omega)
