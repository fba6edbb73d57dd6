/-- a transaction's state, and that it waits for nobody -/
theorem RT.setS {V I : VV} {O : OO} {L : List Nat} {K : Nat → Nat} {t z : Nat} (h : RT V I O L K) (ht : t < V 16 0) (hz : z ≠ 1) : RT (u2 V 8 t z) (u2 I 16 (tx O t) z) (u2 O 7 (tx O t) none) L K := by
  intro i hi
  have hi : i < V 16 0 := hi
  obtain ⟨h1, h2, h3, h4, h5, h6, h7, h8, h9⟩ := h i hi
  have etx : ∀ j, tx (u2 O 7 (tx O t) none) j = tx O j := fun j => rfl
  rw [etx]
  by_cases q : i = t
  · subst q
    refine ⟨h1, h2, h3, h4, h5, h6, ?_, ?_, ?_⟩
    · rw [u2_same, u2_same]
    · rw [u2_same, u2_same, if_neg hz]
    · rw [u2_same]
      exact fun y => absurd y hz
  · have hne : tx O i ≠ tx O t := fun y => q (h.inj hi ht y)
    refine ⟨h1, h2, h3, h4, h5, h6, ?_, ?_, ?_⟩
    · rw [u2_ni _ _ _ _ hne, u2_ni _ _ _ _ q]
      exact h7
    · rw [u2_ni _ _ _ _ hne, u2_ni _ _ _ _ q]
      exact h8
    · rw [u2_ni _ _ _ _ q]
      exact h9
theorem RH.clr {V I : VV} {O : OO} {t i : Nat} (h : RH (vClr V t i) I O) (hi : V 17 i = t + 1) : RH (vClr V t (i + 1)) I (u2 O 4 i none) := by
  intro k hk
  obtain ⟨h1, h2⟩ := h k hk
  have etx : ∀ j, tx (u2 O 4 i none) j = tx O j := fun j => rfl
  rw [vClr_yes hi]
  by_cases q : k = i
  · subst q
    rw [u2_same, u2_same]
    exact ⟨by rw [if_pos rfl], fun y => by omega⟩
  · rw [u2_ni _ _ _ _ q, u2_ni _ _ _ _ q]
    exact ⟨h1, h2⟩
