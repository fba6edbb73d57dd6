/-! a commit's rows -/
theorem vAdd1_k {W : VV} {k nx b x : Nat} (h0 : x ≠ 0) (h1 : x ≠ 1) (h2 : x ≠ 2) (h3 : x ≠ 3) : vAdd1 W k nx b x = W x := by
  unfold vAdd1
  simp only [u2, if_neg h0, if_neg h1, if_neg h2, if_neg h3]
theorem vAdd1_r {W : VV} {k nx b : Nat} : vAdd1 W k nx b 3 0 = W 3 0 + 1 ∧ vAdd1 W k nx b 0 (W 3 0) = k ∧ vAdd1 W k nx b 1 (W 3 0) = nx ∧ vAdd1 W k nx b 2 (W 3 0) = b ∧ ∀ r, r < W 3 0 → vAdd1 W k nx b 0 r = W 0 r ∧ vAdd1 W k nx b 1 r = W 1 r ∧ vAdd1 W k nx b 2 r = W 2 r := by
  unfold vAdd1
  refine ⟨u2_same _ _ _ _, ?_, ?_, ?_, fun r hr => ⟨?_, ?_, ?_⟩⟩
  · simp [u2_eq]
  · simp [u2_eq]
  · simp [u2_eq]
  · have : r ≠ W 3 0 := by omega
    simp [u2_eq, this]
  · have : r ≠ W 3 0 := by omega
    simp [u2_eq, this]
  · have : r ≠ W 3 0 := by omega
    simp [u2_eq, this]
theorem chV_add {W : VV} {k nx b j : Nat} : chV (vAdd1 W k nx b) j (W 3 0 + 1) = if k = j then (nx, b) :: chV W j (W 3 0) else chV W j (W 3 0) := by
  obtain ⟨h3, h0, h1, h2, hr⟩ := vAdd1_r (W := W) (k := k) (nx := nx) (b := b)
  have ht : ∀ n, n ≤ W 3 0 → chV (vAdd1 W k nx b) j n = chV W j n := by
    intro n
    induction n with
    | zero => intro _; rfl
    | succ n ih =>
      intro hn
      have h9 := hr n (by omega)
      unfold chV
      rw [ih (by omega), h9.1, h9.2.1, h9.2.2]
  show (if vAdd1 W k nx b 0 (W 3 0) = j then (vAdd1 W k nx b 1 (W 3 0), vAdd1 W k nx b 2 (W 3 0)) :: chV (vAdd1 W k nx b) j (W 3 0) else chV (vAdd1 W k nx b) j (W 3 0)) = _
  rw [h0, h1, h2, ht _ (Nat.le_refl _)]
/-- the relation when a row comes -/
theorem RC.addRow {W J J' : VV} {P P' : OO} {L : List Nat} {K own : Nat → Nat} {k nx b q : Nat} (h : RC W J P L K own) (hq : q ∉ L)
    (hJ : ∀ x, x ≠ 10 → x ≠ 11 → J' x = J x) (hJ2 : ∀ a, a ≠ q → J' 10 a = J 10 a ∧ J' 11 a = J 11 a) (hJq : J' 10 q = nx ∧ J' 11 q = b)
    (hP : ∀ x, x ≠ 3 → x ≠ 5 → P' x = P x) (hP5 : ∀ a, a ≠ q → P' 5 a = P 5 a) (hP5q : P' 5 q = P 3 k) (hP3 : P' 3 k = some q) (hP3n : ∀ j, j ≠ k → P' 3 j = P 3 j) :
    RC (vAdd1 W k nx b) J' P' (L ++ [q]) (va_up K q 0) (va_up own q k) := by
  obtain ⟨hS, hT, hM, hH, hN, hQ⟩ := h
  have eV : ∀ x, x ≠ 0 → x ≠ 1 → x ≠ 2 → x ≠ 3 → vAdd1 W k nx b x = W x := fun x h0 h1 h2 h3 => vAdd1_k h0 h1 h2 h3
  have e2 : P' 2 = P 2 := hP 2 (by decide) (by decide)
  have etx : ∀ z, tx P' z = tx P z := tx_cong e2
  have hne : ∀ a, a ∈ L → a ≠ q := fun a ha y => hq (y ▸ ha)
  have hK : ∀ a, a ∈ L → va_up K q 0 a = K a := fun a ha => va_up_ne _ _ (hne a ha)
  refine ⟨?_, ?_, ?_, ?_, ?_, ?_⟩
  · exact hS.cong ⟨eV 16 (by decide) (by decide) (by decide) (by decide), eV 4 (by decide) (by decide) (by decide) (by decide), eV 22 (by decide) (by decide) (by decide) (by decide), eV 15 (by decide) (by decide) (by decide) (by decide), eV 5 (by decide) (by decide) (by decide) (by decide), eV 23 (by decide) (by decide) (by decide) (by decide), eV 24 (by decide) (by decide) (by decide) (by decide), eV 21 (by decide) (by decide) (by decide) (by decide)⟩ ⟨hJ 0 (by decide) (by decide), hJ 2 (by decide) (by decide), hJ 3 (by decide) (by decide), hJ 4 (by decide) (by decide), hJ 5 (by decide) (by decide), hJ 7 (by decide) (by decide), hJ 8 (by decide) (by decide), hJ 9 (by decide) (by decide)⟩
  · have h1 : RT (vAdd1 W k nx b) J' P' L K := hT.cong ⟨eV 16 (by decide) (by decide) (by decide) (by decide), eV 6 (by decide) (by decide) (by decide) (by decide), eV 7 (by decide) (by decide) (by decide) (by decide), eV 8 (by decide) (by decide) (by decide) (by decide), eV 11 (by decide) (by decide) (by decide) (by decide), eV 12 (by decide) (by decide) (by decide) (by decide), eV 13 (by decide) (by decide) (by decide) (by decide), eV 14 (by decide) (by decide) (by decide) (by decide)⟩ ⟨hJ 12 (by decide) (by decide), hJ 13 (by decide) (by decide), hJ 14 (by decide) (by decide), hJ 16 (by decide) (by decide), hJ 17 (by decide) (by decide), hJ 18 (by decide) (by decide), hJ 19 (by decide) (by decide)⟩ ⟨e2, hP 7 (by decide) (by decide)⟩
    intro i hi
    obtain ⟨q1, q2, q3, q4⟩ := h1 i hi
    exact ⟨q1, List.mem_append_left _ q2, (hK _ q2).trans q3, q4⟩
  · have h1 : RM (vAdd1 W k nx b) J' P' L K := hM.cong ⟨eV 16 (by decide) (by decide) (by decide) (by decide), eV 9 (by decide) (by decide) (by decide) (by decide)⟩ ⟨hJ 15 (by decide) (by decide), fun g9 => hJ (20 + g9) (by omega) (by omega)⟩ ⟨e2, hP 6 (by decide) (by decide)⟩
    refine ⟨fun i hi => ?_, h1.2⟩
    obtain ⟨na, q1, q2, q3, q4⟩ := h1.1 i hi
    exact ⟨na, q1, List.mem_append_left _ q2, (hK _ q2).trans q3, q4⟩
  · exact hH.cong ⟨eV 17 (by decide) (by decide) (by decide) (by decide), eV 10 (by decide) (by decide) (by decide) (by decide)⟩ (hJ 6 (by decide) (by decide)) ⟨e2, hP 4 (by decide) (by decide)⟩
  · intro j hj
    have hold : Ch J' P' (L ++ [q]) (va_up K q 0) (va_up own q k) j (P 3 j) (chV W j (W 3 0)) := Ch.cong (hN j hj) (fun a h1 h2 h3 => by
      have hn := hne a h1
      have h9 := hJ2 a hn
      exact ⟨List.mem_append_left _ h1, (hK a h1).trans h2, (va_up_ne _ _ hn).trans h3, h9.1, h9.2, hP5 a hn⟩)
    have e3 : vAdd1 W k nx b 3 0 = W 3 0 + 1 := vAdd1_r.1
    rw [e3, chV_add]
    by_cases y : k = j
    · subst y
      rw [if_pos rfl]
      refine ⟨q, hP3, List.mem_append_right _ (List.mem_singleton.mpr rfl), va_up_self _ _ _, va_up_self _ _ _, hJq.1, hJq.2, ?_⟩
      rw [hP5q]
      exact hold
    · rw [if_neg y, hP3n j (Ne.symm y)]
      exact hold
  · exact hQ.cong ⟨eV 18 (by decide) (by decide) (by decide) (by decide), eV 19 (by decide) (by decide) (by decide) (by decide), eV 20 (by decide) (by decide) (by decide) (by decide)⟩ ⟨hP 0 (by decide) (by decide), hP 1 (by decide) (by decide), e2, hP 8 (by decide) (by decide)⟩
/-- the rows that a commit makes rise -/
theorem vRws_s {V : VV} {t : Nat} (h : Rw V) : ∀ i, i ≤ 200 → Rs (vRws V t (V 4 0 + 1) i) ∧ ∀ r, r < vRws V t (V 4 0 + 1) i 3 0 → vRws V t (V 4 0 + 1) i 0 r < 200 ∧ vRws V t (V 4 0 + 1) i 2 r ≤ 1 ∧ 0 < vRws V t (V 4 0 + 1) i 1 r ∧ vRws V t (V 4 0 + 1) i 1 r ≤ V 4 0 + 1 ∧ (vRws V t (V 4 0 + 1) i 1 r = V 4 0 + 1 → vRws V t (V 4 0 + 1) i 0 r < i)
  | 0, _ => ⟨h.2, fun r hr => by
    have h9 := h.1 r hr
    have e : vRws V t (V 4 0 + 1) 0 = V := rfl
    rw [e]
    exact ⟨h9.1, h9.2.1, h9.2.2.1, by omega, fun y => by omega⟩⟩
  | i + 1, hi => by
    obtain ⟨a, b⟩ := vRws_s (t := t) h i (by omega)
    obtain ⟨W, hW⟩ : ∃ W, W = vRws V t (V 4 0 + 1) i := ⟨_, rfl⟩
    have hst : vRws V t (V 4 0 + 1) (i + 1) = if vChB W t i = true then vAdd1 W i (V 4 0 + 1) (if V 10 (200 * t + i) = 2 then 1 else 0) else W := by rw [hW]; rfl
    rw [← hW] at a b
    rw [hst]
    by_cases q : vChB W t i = true
    · rw [if_pos q]
      obtain ⟨e3, e0, e1, e2, er⟩ := vAdd1_r (W := W) (k := i) (nx := V 4 0 + 1) (b := if V 10 (200 * t + i) = 2 then 1 else 0)
      constructor
      · intro r s hrs hs heq
        rw [e3] at hs
        rcases (show s < W 3 0 ∨ s = W 3 0 by omega) with y | y
        · rw [(er r (by omega)).1, (er s y).1] at heq
          rw [(er r (by omega)).2.1, (er s y).2.1]
          exact a r s hrs y heq
        · subst y
          rw [(er r hrs).1, e0] at heq
          rw [(er r hrs).2.1, e1]
          have h9 := b r hrs
          rcases Nat.lt_or_ge (W 1 r) (V 4 0 + 1) with y | y
          · exact y
          · have := h9.2.2.2.2 (by omega)
            omega
      · intro r hr
        rw [e3] at hr
        rcases (show r < W 3 0 ∨ r = W 3 0 by omega) with y | y
        · rw [(er r y).1, (er r y).2.1, (er r y).2.2]
          have h9 := b r y
          exact ⟨h9.1, h9.2.1, h9.2.2.1, h9.2.2.2.1, fun z => by have := h9.2.2.2.2 z; omega⟩
        · rw [y, e0, e1, e2]
          refine ⟨by omega, ?_, by omega, Nat.le_refl _, fun _ => by omega⟩
          split <;> omega
    · rw [if_neg q]
      exact ⟨a, fun r hr => by
        have h9 := b r hr
        exact ⟨h9.1, h9.2.1, h9.2.2.1, h9.2.2.2.1, fun z => by have := h9.2.2.2.2 z; omega⟩⟩
/-- a commit keeps the rows' order -/
theorem Rw.rwA {V : VV} {t : Nat} (h : Rw V) : Rw (vRwA V t) := by
  obtain ⟨a, b⟩ := vRws_s (t := t) h 200 (Nat.le_refl _)
  have hle := vRws_3 V t (V 4 0 + 1) 200
  unfold vRwA
  by_cases q : vRws V t (V 4 0 + 1) 200 3 0 = V 3 0
  · rw [if_pos q]
    have hsame : ∀ k, k ≤ 200 → vRws V t (V 4 0 + 1) k = V := by
      have hm : ∀ j k, j ≤ k → vRws V t (V 4 0 + 1) j 3 0 ≤ vRws V t (V 4 0 + 1) k 3 0 := by
        intro j k hjk
        induction k with
        | zero => rw [show j = 0 by omega]; exact Nat.le_refl _
        | succ k ih =>
          rcases (show j ≤ k ∨ j = k + 1 by omega) with y | y
          · exact Nat.le_trans (ih y) (vRws_mono V t _ k)
          · rw [y]; exact Nat.le_refl _
      intro k
      induction k with
      | zero => intro _; rfl
      | succ k ih =>
        intro hk
        have ih := ih (by omega)
        have h1 := hm (k + 1) 200 hk
        have hst : vRws V t (V 4 0 + 1) (k + 1) = if vChB (vRws V t (V 4 0 + 1) k) t k = true then vAdd1 (vRws V t (V 4 0 + 1) k) k (V 4 0 + 1) (if V 10 (200 * t + k) = 2 then 1 else 0) else vRws V t (V 4 0 + 1) k := rfl
        rw [ih] at hst
        by_cases y : vChB V t k = true
        · rw [if_pos y] at hst
          rw [hst, vAdd1_r.1] at h1
          omega
        · rw [if_neg y] at hst
          exact hst
    rw [hsame 200 (Nat.le_refl _)]
    exact h
  · rw [if_neg q]
    clear q hle
    generalize vRws V t (V 4 0 + 1) 200 = W at a b ⊢
    refine ⟨fun r hr => ?_, a⟩
    have h9 := b r hr
    refine ⟨h9.1, h9.2.1, h9.2.2.1, ?_⟩
    rw [u2_same]
    exact h9.2.2.2.1
