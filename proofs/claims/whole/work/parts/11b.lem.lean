theorem vLT_lt {V : VV} {N : Nat} (hB : BdN V N) : ∀ k, vLT V k < N
  | 0 => hB 4 0
  | k + 1 => by
    unfold vLT
    split
    · exact hB 7 k
    · exact vLT_lt hB k
theorem vLP_le (V : VV) : ∀ k, vLP V k ≤ vLT V (V 16 0)
  | 0 => Nat.le_refl _
  | k + 1 => by
    unfold vLP
    split
    · rename_i h
      exact Nat.le_trans (Nat.le_of_lt h.2) (vLP_le V k)
    · exact vLP_le V k
theorem vLP_lt {V : VV} {N : Nat} (hB : BdN V N) (k : Nat) : vLP V k < N := Nat.lt_of_le_of_lt (vLP_le V k) (vLT_lt hB _)
theorem vLT_25 (V : VV) (c : Nat) : ∀ k, vLT (u2 V 25 0 c) k = vLT V k
  | 0 => rfl
  | k + 1 => by
    unfold vLT
    rw [vLT_25 V c k]
    rfl
theorem vLP_25 (V : VV) (c : Nat) : ∀ k, vLP (u2 V 25 0 c) k = vLP V k
  | 0 => vLT_25 V c _
  | k + 1 => by
    unfold vLP
    rw [vLP_25 V c k]
    rfl
theorem vLK_25 (V : VV) (c : Nat) : vLK (u2 V 25 0 c) = vLK V := vLP_25 V c 64
