theorem BdN.go : ∀ (f : Nat) {V : VV} {N : Nat}, Iv V → BdN V N → 20000 ≤ N → BdN (vGo f V) (N + f)
  | 0, V, N, _, h, _ => h
  | f + 1, V, N, hI, h, hN => by
    unfold vGo
    split
    · rename_i hq
      have h1 := BdN.go f (hI.go1 hq) (BdN.go1 hI hq h hN) (by omega)
      rw [show N + (f + 1) = N + 1 + f by omega]
      exact h1
    · exact ((h.mono (by omega)).up (by omega)).up (by omega)
theorem BdN.goA {V : VV} {N : Nat} (hI : Iv V) (h : BdN V N) (hN : 20000 ≤ N) : BdN (vGoA V) (N + 3601) := BdN.go 3601 hI h hN
theorem Iv.go : ∀ (f : Nat) {V : VV}, Iv V → 3600 - V 19 0 < f → Iv (vGo f V) ∧ vGo f V 19 0 = 0 ∧ vGo f V 20 0 = 0
  | 0, V, _, h => by omega
  | f + 1, V, hI, h => by
    unfold vGo
    split
    · rename_i hq
      have h9 := vGo1_19 V
      have := hI.q
      exact Iv.go f (hI.go1 hq) (by omega)
    · obtain ⟨a, b, c, d, e, f, g, r, l, o⟩ := hI
      refine ⟨⟨a, b, c, fun j h1 h2 => ?_, ?_, ?_, g, r, l, o⟩, ?_, ?_⟩
      · have h2 : j < u2 (u2 V 19 0 0) 20 0 0 20 0 := h2
        rw [u2_same] at h2
        omega
      · show u2 V 19 0 0 19 0 ≤ _
        rw [u2_same]
        exact Nat.zero_le _
      · rw [u2_same]
        exact Nat.zero_le _
      · show u2 V 19 0 0 19 0 = 0
        rw [u2_same]
      · rw [u2_same]
theorem Iv.goA {V : VV} (hI : Iv V) : Iv (vGoA V) ∧ vGoA V 19 0 = 0 ∧ vGoA V 20 0 = 0 := Iv.go 3601 hI (by omega)
