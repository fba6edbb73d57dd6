theorem vAny_true {V : VV} {lo v k : Nat} : ∀ {n : Nat}, k < n → vAb V (lo + k) v (V 3 0) = true → vAny V lo v n = true
  | 0, h, _ => by omega
  | n + 1, h, hk => by
    unfold vAny
    rw [Bool.or_eq_true]
    rcases (show k < n ∨ k = n by omega) with h1 | h1
    · exact Or.inl (vAny_true h1 hk)
    · subst h1; exact Or.inr hk
theorem nt_bit1 (x g : Nat) : vBit x g < 2 := Nat.mod_lt _ (by decide)
