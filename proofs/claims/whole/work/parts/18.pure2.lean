/-! rings, and the invariant of the reference's numbers -/
/-- the way from a: i steps -/
def pth (V : VV) (a : Nat) : Nat → Nat
  | 0 => a
  | i + 1 => pth V (V 11 a - 1) i
theorem pth_succ (V : VV) : ∀ (i a : Nat), pth V a (i + 1) = V 11 (pth V a i) - 1
  | 0, a => rfl
  | i + 1, a => pth_succ V i (V 11 a - 1)
theorem vLk_pth (V : VV) (t : Nat) : ∀ (f a n : Nat), 0 < vLk V t f a n → n < vLk V t f a n ∧ vLk V t f a n ≤ n + f ∧ (∀ i, i < vLk V t f a n - n → V 8 (pth V a i) = 1) ∧ pth V a (vLk V t f a n - n) = t
  | 0, a, n, h => by unfold vLk at h; omega
  | f + 1, a, n, h => by
    unfold vLk at h ⊢
    by_cases h1 : V 8 a = 1
    · rw [if_pos h1] at h ⊢
      by_cases h2 : V 11 a - 1 = t
      · rw [if_pos h2] at h ⊢
        refine ⟨by omega, by omega, fun i hi => ?_, ?_⟩
        · rw [show i = 0 by omega]; exact h1
        · rw [show n + 1 - n = 1 by omega]; exact h2
      · rw [if_neg h2] at h ⊢
        obtain ⟨q1, q2, q3, q4⟩ := vLk_pth V t f (V 11 a - 1) (n + 1) h
        refine ⟨by omega, by omega, fun i hi => ?_, ?_⟩
        · cases i with
          | zero => exact h1
          | succ i => exact q3 i (by omega)
        · rw [show vLk V t f (V 11 a - 1) (n + 1) - n = (vLk V t f (V 11 a - 1) (n + 1) - (n + 1)) + 1 by omega]
          exact q4
    · rw [if_neg h1] at h
      omega
/-- sorting one in: nothing else changes; the places up to k hold what they held, or x -/
theorem vIns_k (x : Nat) : ∀ (k : Nat) (V : VV) (a : Nat), a ≠ 21 → vIns x k V a = V a
  | 0, V, a, h => by
    unfold vIns u2
    rw [if_neg h]
  | k + 1, V, a, h => by
    unfold vIns
    split
    · rw [vIns_k x k _ a h]
      unfold u2
      rw [if_neg h]
    · unfold u2
      rw [if_neg h]
theorem vIns_P {P : Nat → Prop} {x : Nat} (hx : P x) : ∀ (k : Nat) (V : VV), (∀ j, j < k → P (V 21 j)) → ∀ j, j < k + 1 → P (vIns x k V 21 j)
  | 0, V, h, j, hj => by
    unfold vIns
    rw [show j = 0 by omega, u2_same]
    exact hx
  | k + 1, V, h, j, hj => by
    unfold vIns
    split
    · rcases (show j < k + 1 ∨ j = k + 1 by omega) with h1 | h1
      · refine vIns_P hx k _ (fun i hi => ?_) j h1
        rw [u2_ni _ _ _ _ (by omega)]
        exact h i (by omega)
      · have : vIns x k (u2 V 21 (k + 1) (V 21 k)) 21 j = u2 V 21 (k + 1) (V 21 k) 21 j := vIns_hi x k _ j (by omega)
        rw [this, h1, u2_same]
        exact h k (by omega)
    · rw [u2_eq]
      split
      · exact hx
      · rename_i q
        exact h j (by
          rcases (show j < k + 1 ∨ j = k + 1 by omega) with h1 | h1
          · exact h1
          · exact absurd ⟨rfl, h1⟩ q)
where vIns_hi (x : Nat) : ∀ (k : Nat) (V : VV) (j : Nat), k < j → vIns x k V 21 j = V 21 j
  | 0, V, j, h => by
    unfold vIns
    rw [u2_ni _ _ _ _ (by omega)]
  | k + 1, V, j, h => by
    unfold vIns
    split
    · rw [vIns_hi x k _ j (by omega), u2_ni _ _ _ _ (by omega)]
    · rw [u2_ni _ _ _ _ (by omega)]
theorem BdN.ins {N x : Nat} (hx : x < N) : ∀ (k : Nat) {V : VV}, BdN V N → BdN (vIns x k V) N
  | 0, V, h => by
    unfold vIns
    exact h.up hx
  | k + 1, V, h => by
    unfold vIns
    split
    · exact BdN.ins hx k (h.up (h 21 k))
    · exact h.up hx
theorem vTk_k : ∀ (k : Nat) (V : VV) (a b : Nat), b ≠ 21 → b ≠ 22 → vTk k V a b = V b
  | 0, V, a, b, _, _ => rfl
  | k + 1, V, a, b, h1, h2 => by
    unfold vTk
    rw [vTk_k k _ _ b h1 h2]
    show u2 _ 22 0 _ b = _
    unfold u2
    rw [if_neg h2]
    exact vIns_k _ _ _ _ h1
theorem vTk_P {P : Nat → Prop} : ∀ (k : Nat) (V : VV) (a : Nat), (∀ i, i < k → P (pth V a i)) → (∀ j, j < V 22 0 → P (V 21 j)) → vTk k V a 22 0 = V 22 0 + k ∧ ∀ j, j < V 22 0 + k → P (vTk k V a 21 j)
  | 0, V, a, _, h => ⟨rfl, fun j hj => h j hj⟩
  | k + 1, V, a, hp, h => by
    have e1 : ∀ b, b ≠ 21 → b ≠ 22 → u2 (vIns a (V 22 0) V) 22 0 (V 22 0 + 1) b = V b := fun b h1 h2 => by
      show (if b = 22 then _ else _) = _
      rw [if_neg h2]
      exact vIns_k _ _ _ _ h1
    have ep : ∀ i c, pth (u2 (vIns a (V 22 0) V) 22 0 (V 22 0 + 1)) c i = pth V c i := by
      intro i
      induction i with
      | zero => intro c; rfl
      | succ i ih =>
        intro c
        show pth _ (u2 (vIns a (V 22 0) V) 22 0 (V 22 0 + 1) 11 c - 1) i = pth V (V 11 c - 1) i
        rw [e1 11 (by decide) (by decide), ih]
    obtain ⟨q1, q2⟩ := vTk_P (P := P) k (u2 (vIns a (V 22 0) V) 22 0 (V 22 0 + 1)) (V 11 a - 1) (fun i hi => by rw [ep]; exact hp (i + 1) (by omega)) (fun j hj => by
      rw [u2_same] at hj
      rw [u2_nk _ _ _ _ (by decide)]
      exact vIns_P (hp 0 (by omega)) _ _ h j hj)
    rw [u2_same] at q1 q2
    refine ⟨?_, fun j hj => q2 j (by omega)⟩
    show vTk k _ _ 22 0 = _
    rw [q1]
    omega
theorem BdN.tk {N : Nat} : ∀ (k : Nat) {V : VV} {a : Nat}, BdN V N → a < N → V 22 0 + k < N → BdN (vTk k V a) N
  | 0, V, a, h, _, _ => h
  | k + 1, V, a, h, ha, hk => by
    unfold vTk
    refine BdN.tk k ((h.ins ha (k := V 22 0)).up (by omega)) (Nat.lt_of_le_of_lt (Nat.sub_le _ _) (h 11 a)) ?_
    rw [u2_same]
    omega
