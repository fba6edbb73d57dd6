theorem RH.holds {V I : VV} {O : OO} {L : List Nat} {K : Nat → Nat} {t : Nat} (hT : RT V I O L K) (hH : RH V I O) (ht : t < V 16 0) (h17 : ∀ k, k < 200 → V 17 k ≤ V 16 0) : ∀ k, k < 200 → (O 4 k = some (tx O t) ↔ V 17 k = t + 1) := fun k hk => by
  rw [(hH k hk).1]
  have h := h17 k hk
  by_cases z : V 17 k = 0
  · rw [if_pos z]
    exact ⟨fun q => absurd q (by simp), fun q => by omega⟩
  · rw [if_neg z, hT.injS (by omega) ht]
    omega
