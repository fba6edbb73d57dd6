theorem vNx_cong {V W : VV} {t : Nat} (h8 : W 8 = V 8) (h11 : W 11 = V 11) (h14 : W 14 = V 14) (lp : Nat) : ∀ n, vNx W t lp n = vNx V t lp n
  | 0 => rfl
  | n + 1 => by
    unfold vNx
    rw [vNx_cong h8 h11 h14 lp n, h8, h11, h14]
