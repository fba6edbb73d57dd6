/-! the queue holds each one once, and of those that wait only such as wait for one that has ended; the rows of a triple rise -/
def Jq (V : VV) : Prop := (∀ j, V 19 0 ≤ j → j < V 20 0 → V 8 (V 18 j) = 1 → 3 ≤ V 8 (V 11 (V 18 j) - 1)) ∧ ∀ i j, V 19 0 ≤ i → i < j → j < V 20 0 → V 18 i ≠ V 18 j
def Rs (V : VV) : Prop := ∀ r s, r < s → s < V 3 0 → V 0 r = V 0 s → V 1 r < V 1 s
def Rw (V : VV) : Prop := (∀ r, r < V 3 0 → V 0 r < 200 ∧ V 2 r ≤ 1 ∧ 0 < V 1 r ∧ V 1 r ≤ V 4 0) ∧ Rs V
theorem Rw.cong {V U : VV} (h : Rw V) (h0 : U 0 = V 0) (h1 : U 1 = V 1) (h2 : U 2 = V 2) (h3 : U 3 = V 3) (h4 : U 4 = V 4) : Rw U := by
  unfold Rw Rs
  rw [h0, h1, h2, h3, h4]
  exact h
theorem vEnq_since : ∀ (f : Nat) (V : VV) (t lp i j : Nat), V 20 0 ≤ i → i < j → j < vEnq f V t lp 20 0 → V 14 (vEnq f V t lp 18 i) < V 14 (vEnq f V t lp 18 j)
  | 0, V, t, lp, i, j, h1, h2, h3 => by
    have h3 : j < V 20 0 := h3
    omega
  | f + 1, V, t, lp, i, j, h1, h2, h3 => by
    unfold vEnq at h3 ⊢
    by_cases hb : vNx V t lp (V 16 0) = 0
    · rw [if_pos hb] at h3
      omega
    · rw [if_neg hb] at h3 ⊢
      obtain ⟨w, hw⟩ : ∃ w, w = vNx V t lp (V 16 0) - 1 := ⟨_, rfl⟩
      rw [← hw] at h3 ⊢
      have e1 : vPush V w 20 0 = V 20 0 + 1 := by unfold vPush; rw [u2_same]
      obtain ⟨q1, q2, q3, q4⟩ := vEnq_q f (vPush V w) t (V 14 w + 1)
      rw [e1] at q1 q3 q4
      rcases (show i = V 20 0 ∨ V 20 0 + 1 ≤ i by omega) with e | e
      · have e5 : vEnq f (vPush V w) t (V 14 w + 1) 18 i = w := by
          rw [q3 i (by omega), e]
          unfold vPush
          rw [u2_nk _ _ _ _ (by decide), u2_same]
        have h5 : V 14 w + 1 ≤ V 14 (vEnq f (vPush V w) t (V 14 w + 1) 18 j) := (q4 j (by omega) h3).2.2.2
        rw [e5]
        omega
      · exact vEnq_since f (vPush V w) t (V 14 w + 1) i j (by rw [e1]; exact e) h2 h3
theorem Jq.endV {V : VV} {t z : Nat} (h : Jq V) (h1 : V 8 t < 3) (hz : 3 ≤ z) : Jq (vEnd V t z) := by
  obtain ⟨a, b⟩ := h
  obtain ⟨q1, q2, q3, q4⟩ := vEnd_q V t z
  have e19 : vEnd V t z 19 0 = V 19 0 := by rw [vEnd_k (by decide) (by decide) (by decide) (by decide)]
  have e11 : vEnd V t z 11 = V 11 := vEnd_k (by decide) (by decide) (by decide) (by decide)
  unfold Jq
  rw [e19, e11]
  have old : ∀ j, V 19 0 ≤ j → j < V 20 0 → u2 V 8 t z 8 (V 18 j) = 1 → 3 ≤ V 8 (V 11 (V 18 j) - 1) := fun j h1 h2 hs => by
    have hne : V 18 j ≠ t := fun q => by rw [q, u2_same] at hs; omega
    rw [u2_ni _ _ _ _ hne] at hs
    exact a j h1 h2 hs
  constructor
  · intro j hj1 hj2 hs
    rw [vEnd_8] at hs ⊢
    rcases Nat.lt_or_ge j (V 20 0) with hj | hj
    · rw [q3 j hj] at hs ⊢
      have h5 := old j hj1 hj hs
      have hne : V 11 (V 18 j) - 1 ≠ t := fun q => by rw [q] at h5; omega
      rw [u2_ni _ _ _ _ hne]
      exact h5
    · have h5 := (q4 j hj hj2).2.2
      rw [h5, show t + 1 - 1 = t by omega, u2_same]
      exact hz
  · intro i j hi hij hj
    rcases Nat.lt_or_ge j (V 20 0) with hj' | hj'
    · rw [q3 i (by omega), q3 j hj']
      exact b i j hi hij hj'
    · rcases Nat.lt_or_ge i (V 20 0) with hi' | hi'
      · intro q
        obtain ⟨r1, r2, r3⟩ := q4 j hj' hj
        rw [← q, q3 i hi'] at r2 r3
        have h5 := old i hi hi' r2
        rw [r3, show t + 1 - 1 = t by omega] at h5
        omega
      · intro q
        have h5 := vEnq_since 61 (vClr (u2 V 8 t z) t 200) t 0 i j hi' hij hj
        have q' : vEnq 61 (vClr (u2 V 8 t z) t 200) t 0 18 i = vEnq 61 (vClr (u2 V 8 t z) t 200) t 0 18 j := q
        rw [q'] at h5
        omega
/-- numbers that agree but for one transaction that isn't in the queue, and hasn't ended before or behind -/
theorem Jq.of {V U : VV} {t : Nat} (h : Jq V) (h8 : ∀ i, i ≠ t → U 8 i = V 8 i) (h11 : ∀ i, i ≠ t → U 11 i = V 11 i) (hl : V 8 t < 3) (hc : U 18 = V 18 ∧ U 19 = V 19 ∧ U 20 = V 20) (hq : ∀ j, V 19 0 ≤ j → j < V 20 0 → V 18 j ≠ t) : Jq U := by
  obtain ⟨a, b⟩ := h
  unfold Jq
  rw [hc.1, hc.2.1, hc.2.2]
  refine ⟨fun j h1 h2 hs => ?_, b⟩
  have hne := hq j h1 h2
  rw [h8 _ hne] at hs
  rw [h11 _ hne]
  have h5 := a j h1 h2 hs
  have hne2 : V 11 (V 18 j) - 1 ≠ t := fun q => by rw [q] at h5; omega
  rw [h8 _ hne2]
  exact h5
theorem Jq.ringV {V : VV} {t : Nat} (h : Jq V) (hI : Iv V) (ht : t < V 16 0) : Jq (vRing V t) := by
  unfold vRing
  split
  · exact h
  · rename_i hl
    obtain ⟨v1, v2, v3⟩ := vTake_victim hI.2.1 ht (Nat.pos_of_ne_zero hl)
    have ek : ∀ b, b ≠ 21 → b ≠ 22 → vTk (vLk V t 60 t 0) (u2 V 22 0 0) t b = V b := fun b h1 h2 => by
      rw [vTk_k _ _ _ _ h1 h2]
      show (if b = 22 then _ else _) = _
      rw [if_neg h2]
    unfold vTake
    refine Jq.endV ?_ ?_ (by decide)
    · unfold Jq
      rw [ek 19 (by decide) (by decide), ek 20 (by decide) (by decide), ek 8 (by decide) (by decide), ek 18 (by decide) (by decide), ek 11 (by decide) (by decide)]
      exact h
    · rw [ek 8 (by decide) (by decide)]
      omega
theorem Jq.wtV {V : VV} {t k b : Nat} (h : Jq V) (hl : V 8 t < 3) (hq : ∀ j, V 19 0 ≤ j → j < V 20 0 → V 18 j ≠ t) : Jq (vWt (u2 (u2 V 11 t 0) 8 t 0) t k b) := by
  refine h.of (t := t) (fun i hi => ?_) (fun i hi => ?_) hl ⟨rfl, rfl, rfl⟩ hq
  · unfold vWt
    simp [u2_eq, hi]
  · unfold vWt
    simp [u2_eq, hi]
theorem Jq.wrV {V : VV} {t k b : Nat} (h : Jq V) (hI : Iv V) (ht : t < V 16 0) (hl : V 8 t < 3) (hk : k < 200) (hb : b ≤ 1) (hq : ∀ j, V 19 0 ≤ j → j < V 20 0 → V 18 j ≠ t) : Jq (vWr V t k b) := by
  unfold vWr
  split
  · refine h.of (t := t) (fun i hi => ?_) (fun i hi => ?_) hl ⟨rfl, rfl, rfl⟩ hq
    · simp [u2_eq, hi]
    · simp [u2_eq, hi]
  · split
    · rename_i hw
      exact Jq.ringV (h.wtV hl hq) (hI.wtV ht hl hk hb hw.1) ht
    · refine h.of (t := t) (fun i hi => ?_) (fun i hi => ?_) hl ⟨rfl, rfl, rfl⟩ hq
      · simp [u2_eq, hi]
      · simp [u2_eq, hi]
theorem Jq.next {V : VV} (h : Jq V) : Jq (u2 V 19 0 (V 19 0 + 1)) := by
  obtain ⟨a, b⟩ := h
  unfold Jq
  rw [u2_same]
  exact ⟨fun j h1 h2 => a j (by omega) h2, fun i j h1 h2 h3 => b i j (by omega) h2 h3⟩
theorem Jq.go1 {V : VV} (h : Jq V) (hI : Iv V) (h1 : V 19 0 < V 20 0) : Jq (vGo1 V) := by
  have ht := hI.2.2.2.1 (V 19 0) (Nat.le_refl _) h1
  unfold vGo1
  split
  · rename_i hs
    have hb := hI.2.1 _ ht hs
    refine Jq.wrV h.next (hI.next h1) ht (show V 8 _ < 3 by omega) hb.2.2.1 hb.2.2.2 (fun j h2 h3 => ?_)
    rw [u2_same] at h2
    exact Ne.symm (h.2 (V 19 0) j (Nat.le_refl _) (by omega) h3)
  · exact h.next
/-- what the changes of the queue's turns never touch -/
theorem vRing_k (V : VV) (t : Nat) {b : Nat} (h8 : b ≠ 8) (h17 : b ≠ 17) (h18 : b ≠ 18) (h20 : b ≠ 20) (h21 : b ≠ 21) (h22 : b ≠ 22) : vRing V t b = V b := by
  unfold vRing
  split
  · rfl
  · unfold vTake
    rw [vEnd_k h8 h17 h18 h20, vTk_k _ _ _ _ h21 h22]
    show (if b = 22 then _ else _) = _
    rw [if_neg h22]
theorem vWr_k (V : VV) (t k w : Nat) {b : Nat} (hb : b ≤ 7 ∨ b = 9 ∨ b = 16 ∨ b = 19 ∨ b = 24) : vWr V t k w b = V b := by
  have n : b ≠ 8 ∧ b ≠ 10 ∧ b ≠ 11 ∧ b ≠ 12 ∧ b ≠ 13 ∧ b ≠ 14 ∧ b ≠ 15 ∧ b ≠ 17 ∧ b ≠ 18 ∧ b ≠ 20 ∧ b ≠ 21 ∧ b ≠ 22 ∧ b ≠ 23 := by omega
  obtain ⟨n8, n10, n11, n12, n13, n14, n15, n17, n18, n20, n21, n22, n23⟩ := n
  unfold vWr
  split
  · simp only [u2, if_neg n8, if_neg n11, if_neg n23]
  · split
    · rw [vRing_k _ _ n8 n17 n18 n20 n21 n22]
      unfold vWt
      simp only [u2, if_neg n8, if_neg n11, if_neg n12, if_neg n13, if_neg n14, if_neg n15]
    · simp only [u2, if_neg n8, if_neg n11, if_neg n17, if_neg n10]
theorem vGo1_k (V : VV) {b : Nat} (hb : b ≤ 7 ∨ b = 9 ∨ b = 16 ∨ b = 24) : vGo1 V b = V b := by
  unfold vGo1
  split
  · rw [vWr_k _ _ _ _ (by omega)]
    show (if b = 19 then _ else _) = _
    rw [if_neg (by omega)]
  · show (if b = 19 then _ else _) = _
    rw [if_neg (by omega)]
theorem vGo_k {b : Nat} (hb : b ≤ 7 ∨ b = 9 ∨ b = 16 ∨ b = 24) : ∀ (f : Nat) (V : VV), vGo f V b = V b
  | 0, V => rfl
  | f + 1, V => by
    unfold vGo
    split
    · rw [vGo_k hb f _, vGo1_k V hb]
    · show (if b = 20 then _ else _) = _
      rw [if_neg (by omega)]
      show (if b = 19 then _ else _) = _
      rw [if_neg (by omega)]
theorem vGoA_k (V : VV) {b : Nat} (hb : b ≤ 7 ∨ b = 9 ∨ b = 16 ∨ b = 24) : vGoA V b = V b := vGo_k hb 3601 V
/-- the chain of a triple, and what the reference says of the rows -/
theorem hdL_iff {V : VV} {k v : Nat} (h : Rs V) : ∀ n, n ≤ V 3 0 → (hdL (chV V k n) v ↔ vAb V k v n = true)
  | 0, _ => by
    unfold chV vAb hdL
    simp
  | n + 1, hn => by
    unfold chV vAb
    rw [Bool.or_eq_true, Bool.and_eq_true, decide_eq_true_eq, decide_eq_true_eq]
    by_cases q : V 0 n = k
    · rw [if_pos q]
      show v < V 1 n ↔ _
      constructor
      · exact fun z => Or.inr ⟨q, z⟩
      · rintro (z | z)
        · obtain ⟨r, h1, h2, h3⟩ := (vAb_iff V k v n).mp z
          have := h r n h1 (by omega) (by rw [h2, q])
          omega
        · exact z.2
    · rw [if_neg q, hdL_iff h n (by omega)]
      exact ⟨Or.inl, fun z => z.elim id (fun y => absurd y.1 q)⟩
theorem thL_iff {V : VV} {k v : Nat} (h : Rs V) : ∀ n, n ≤ V 3 0 → (thL (chV V k n) v ↔ (0 < vRow V k v n ∧ 0 < V 2 (vRow V k v n - 1)))
  | 0, _ => by
    unfold chV vRow thL
    simp
  | n + 1, hn => by
    have ih := thL_iff (k := k) (v := v) h n (by omega)
    unfold chV vRow
    by_cases q : V 0 n = k
    · rw [if_pos q]
      show (V 1 n ≤ v ∧ 0 < V 2 n) ∨ (v < V 1 n ∧ thL (chV V k n) v) ↔ _
      by_cases q2 : V 1 n ≤ v
      · have hlt : vRow V k v n = 0 ∨ V 1 (vRow V k v n - 1) < V 1 n := by
          rcases Nat.eq_zero_or_pos (vRow V k v n) with z | z
          · exact Or.inl z
          · have hs := vRow_spec V k v n z
            exact Or.inr (h _ n (by omega) (by omega) (by rw [hs.2.1, q]))
        rw [if_pos ⟨q, q2, hlt⟩]
        show _ ↔ (0 < n + 1 ∧ 0 < V 2 n)
        constructor
        · rintro (z | z)
          · exact ⟨by omega, z.2⟩
          · omega
        · exact fun z => Or.inl ⟨q2, z.2⟩
      · rw [if_neg (fun z => q2 z.2.1), ← ih]
        constructor
        · rintro (z | z)
          · exact absurd z.1 q2
          · exact z.2
        · exact fun z => Or.inr ⟨by omega, z⟩
    · rw [if_neg q, if_neg (fun z => q z.1)]
      exact ih
where vRow_spec (V : VV) (k v : Nat) : ∀ n, 0 < vRow V k v n → vRow V k v n ≤ n ∧ V 0 (vRow V k v n - 1) = k ∧ V 1 (vRow V k v n - 1) ≤ v
  | 0, h => by unfold vRow at h; omega
  | n + 1, h => by
    unfold vRow at h ⊢
    by_cases q : V 0 n = k ∧ V 1 n ≤ v ∧ (vRow V k v n = 0 ∨ V 1 (vRow V k v n - 1) < V 1 n)
    · rw [if_pos q]
      exact ⟨Nat.le_refl _, q.1, q.2.1⟩
    · rw [if_neg q] at h ⊢
      obtain ⟨h1, h2⟩ := vRow_spec V k v n h
      exact ⟨by omega, h2⟩
