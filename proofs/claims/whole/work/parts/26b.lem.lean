theorem vLT_le (V : VV) : ∀ k, vLT V k ≤ V 4 0
  | 0 => Nat.le_refl _
  | k + 1 => by
    unfold vLT
    split
    · rename_i h
      exact Nat.le_trans (Nat.le_of_lt h.2) (vLT_le V k)
    · exact vLT_le V k
