theorem vLk_le (V : VV) (t : Nat) : ∀ f a n, vLk V t f a n ≤ n + f
  | 0, a, n => by unfold vLk; omega
  | f + 1, a, n => by
    unfold vLk
    split
    · split
      · omega
      · have := vLk_le V t f (V 11 a - 1) (n + 1)
        omega
    · omega
