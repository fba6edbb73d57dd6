/-- one begins to wait -/
theorem RT.wait {V I : VV} {O : OO} {L : List Nat} {K : Nat → Nat} {t k b : Nat} (h : RT V I O L K) (ht : t < V 16 0) (hO : O 4 k = some (tx O (V 17 k - 1))) (h15 : I 4 0 = V 15 0) :
    RT (vWt V t k b) (u2 (u2 (u2 (u2 (u2 I 4 0 (I 4 0 + 1)) 16 (tx O t) 1) 17 (tx O t) k) 18 (tx O t) b) 19 (tx O t) (I 4 0 + 1)) (u2 O 7 (tx O t) (O 4 k)) L K := by
  intro i hi
  have hi : i < V 16 0 := hi
  obtain ⟨h1, h2, h3, h4, h5, h6, h7, h8, h9⟩ := h i hi
  have etx : ∀ j, tx (u2 O 7 (tx O t) (O 4 k)) j = tx O j := fun j => rfl
  simp only [etx]
  unfold vWt
  by_cases q : i = t
  · subst q
    refine ⟨h1, h2, h3, h4, h5, h6, ?_, ?_, fun _ => ⟨?_, ?_, ?_⟩⟩
    · simp [u2_eq]
    · simp [u2_eq, hO]
    · simp [u2_eq]
    · simp [u2_eq]
    · simp [u2_eq, h15]
  · have hne : tx O i ≠ tx O t := fun y => q (h.inj hi ht y)
    refine ⟨h1, h2, h3, h4, h5, h6, ?_, ?_, ?_⟩
    · simp [u2_eq, hne, q]
      exact h7
    · simp [u2_eq, hne, q]
      exact h8
    · simp [u2_eq, hne, q]
      exact h9
/-- one that doesn't wait: what stands there for whom it waits is no matter -/
theorem RT.set11 {V I : VV} {O : OO} {L : List Nat} {K : Nat → Nat} {t v : Nat} (h : RT (u2 V 8 t 0) I O L K) : RT (u2 (u2 V 11 t v) 8 t 0) I O L K := by
  intro i hi
  obtain ⟨h1, h2, h3, h4, h5, h6, h7, h8, h9⟩ := h i hi
  refine ⟨h1, h2, h3, h4, h5, h6, h7, ?_, ?_⟩
  · by_cases q : i = t
    · subst q
      rw [h8, u2_same, u2_same]
      rfl
    · rw [h8]
      simp [u2_eq, q]
  · by_cases q : i = t
    · subst q
      rw [u2_same]
      exact fun y => absurd y (by decide)
    · simp only [u2_eq] at h9 ⊢
      simpa [q] using h9
theorem RH.hold {V I : VV} {O : OO} {t k b : Nat} (h : RH V I O) (hk : k < 200) (ho : V 17 k = 0 ∨ V 17 k = t + 1) (hu : ∀ j, j < 200 → j ≠ k → ¬ (V 17 j = t + 1 ∧ 200 * t + j = 200 * t + k)) : RH (u2 (u2 V 17 k (t + 1)) 10 (200 * t + k) (b + 1)) (u2 I 6 k b) (u2 O 4 k (some (tx O t))) := by
  intro j hj
  obtain ⟨h1, h2⟩ := h j hj
  have etx : ∀ z, tx (u2 O 4 k (some (tx O t))) z = tx O z := fun z => rfl
  simp only [etx]
  by_cases q : j = k
  · subst q
    refine ⟨?_, fun _ => ?_⟩
    · simp [u2_eq]
    · simp [u2_eq]
  · refine ⟨?_, ?_⟩
    · simp [u2_eq, q]
      exact h1
    · simp only [u2_eq]
      simp [q]
      intro hp
      rw [if_neg (fun y => by omega)]
      exact h2 hp
theorem u2_idem {α : Type} (V : Nat → Nat → α) (k i : Nat) (v : α) (h : V k i = v) : u2 V k i v = V := by rw [← h]; exact u2_self V k i
