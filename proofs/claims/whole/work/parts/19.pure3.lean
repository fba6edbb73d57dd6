/-! the invariant of the numbers, and that an end, a write and a turn of the queue keep it -/
def Iv (V : VV) : Prop := V 16 0 ≤ 60 ∧ (∀ i, i < V 16 0 → V 8 i = 1 → 0 < V 11 i ∧ V 11 i ≤ V 16 0 ∧ V 12 i < 200 ∧ V 13 i ≤ 1) ∧ (∀ k, k < 200 → V 17 k ≤ V 16 0) ∧ (∀ j, V 19 0 ≤ j → j < V 20 0 → V 18 j < V 16 0) ∧ V 19 0 ≤ V 20 0 ∧ V 20 0 ≤ 60 * cE V (V 16 0) ∧ V 22 0 ≤ 60 ∧ V 3 0 ≤ 200 * V 4 0 ∧ V 4 0 ≤ cE V (V 16 0) ∧ ∀ j, V 9 j < 16
theorem cE_le (V : VV) (n : Nat) : cE V n ≤ n := ct_le _ n
theorem Iv.q {V : VV} (h : Iv V) : V 20 0 ≤ 3600 := by
  obtain ⟨a, _, _, _, _, f, _⟩ := h
  have := cE_le V (V 16 0)
  omega
theorem Iv.rows {V : VV} (h : Iv V) : V 3 0 ≤ 12000 := by
  obtain ⟨a, _, _, _, _, _, _, r, l, _⟩ := h
  have := cE_le V (V 16 0)
  omega
theorem Iv.lat {V : VV} (h : Iv V) : V 4 0 ≤ 60 := by
  obtain ⟨a, _, _, _, _, _, _, r, l, _⟩ := h
  have := cE_le V (V 16 0)
  omega
theorem cE_cong {V U : VV} {n : Nat} (h : ∀ i, i < n → (3 ≤ U 8 i ↔ 3 ≤ V 8 i)) : cE U n = cE V n := ct_cong fun k hk => by
  by_cases q : 3 ≤ V 8 k
  · rw [decide_eq_true q, decide_eq_true ((h k hk).mpr q)]
  · rw [decide_eq_false q, decide_eq_false (fun z => q ((h k hk).mp z))]
theorem cE_end {V : VV} {t z n : Nat} (ht : t < n) (h1 : V 8 t < 3) (hz : 3 ≤ z) : cE (u2 V 8 t z) n = cE V n + 1 := by
  refine ct_one (t := t) (fun k hk => ?_) ht (decide_eq_false (by omega)) (decide_eq_true (by rw [u2_same]; exact hz))
  show decide (3 ≤ u2 V 8 t z 8 k) = _
  rw [u2_ni _ _ _ _ hk]
theorem vEnd_k {V : VV} {t z k : Nat} (h8 : k ≠ 8) (h17 : k ≠ 17) (h18 : k ≠ 18) (h20 : k ≠ 20) : vEnd V t z k = V k := by
  unfold vEnd
  rw [vEnq_k _ _ _ _ _ h18 h20, vClr_k h17]
  unfold u2
  rw [if_neg h8]
theorem vEnd_8 {V : VV} {t z i : Nat} : vEnd V t z 8 i = u2 V 8 t z 8 i := by
  unfold vEnd
  rw [vEnq_k _ _ _ _ _ (by decide) (by decide), vClr_k (by decide)]
theorem vEnd_17 {V : VV} {t z i : Nat} : vEnd V t z 17 i = vClr V t 200 17 i := by
  unfold vEnd
  rw [vEnq_k _ _ _ _ _ (by decide) (by decide)]
  rfl
theorem vEnd_q (V : VV) (t z : Nat) : V 20 0 ≤ vEnd V t z 20 0 ∧ vEnd V t z 20 0 ≤ V 20 0 + V 16 0 ∧ (∀ j, j < V 20 0 → vEnd V t z 18 j = V 18 j) ∧ ∀ j, V 20 0 ≤ j → j < vEnd V t z 20 0 → vEnd V t z 18 j < V 16 0 ∧ u2 V 8 t z 8 (vEnd V t z 18 j) = 1 ∧ V 11 (vEnd V t z 18 j) = t + 1 := by
  obtain ⟨h1, h2, h3, h4⟩ := vEnq_q 61 (vClr (u2 V 8 t z) t 200) t 0
  have h5 := vCw_le (vClr (u2 V 8 t z) t 200) t 0 (V 16 0)
  refine ⟨h1, Nat.le_trans h2 (Nat.add_le_add_left h5 _), h3, fun j ha hb => ?_⟩
  obtain ⟨q1, q2, q3, _⟩ := h4 j ha hb
  exact ⟨q1, q2, q3⟩
theorem Iv.endV {V : VV} {t z : Nat} (h : Iv V) (ht : t < V 16 0) (h1 : V 8 t < 3) (hz : 3 ≤ z) : Iv (vEnd V t z) := by
  obtain ⟨a, b, c, d, e, f, g, r, l, o⟩ := h
  obtain ⟨q1, q2, q3, q4⟩ := vEnd_q V t z
  have e16 : vEnd V t z 16 0 = V 16 0 := by rw [vEnd_k (by decide) (by decide) (by decide) (by decide)]
  have e19 : vEnd V t z 19 0 = V 19 0 := by rw [vEnd_k (by decide) (by decide) (by decide) (by decide)]
  have eC : cE (vEnd V t z) (V 16 0) = cE V (V 16 0) + 1 := by
    rw [← cE_end (V := V) ht h1 hz]
    exact cE_cong fun i _ => by rw [vEnd_8]
  unfold Iv
  rw [e16, e19, eC]
  refine ⟨a, fun i hi hs => ?_, fun k hk => ?_, fun j hj1 hj2 => ?_, by omega, by omega, ?_, ?_, ?_, fun j => ?_⟩
  · rw [vEnd_8] at hs
    have hne : i ≠ t := fun q => by rw [q, u2_same] at hs; omega
    rw [u2_ni _ _ _ _ hne] at hs
    rw [vEnd_k (k := 11) (by decide) (by decide) (by decide) (by decide), vEnd_k (k := 12) (by decide) (by decide) (by decide) (by decide), vEnd_k (k := 13) (by decide) (by decide) (by decide) (by decide)]
    exact b i hi hs
  · rw [vEnd_17]
    exact Nat.le_trans (vClr_le _ _ _ _ _) (c k hk)
  · rcases Nat.lt_or_ge j (V 20 0) with hj | hj
    · rw [q3 j hj]; exact d j hj1 hj
    · exact (q4 j hj hj2).1
  · rw [vEnd_k (by decide) (by decide) (by decide) (by decide)]; exact g
  · rw [vEnd_k (k := 3) (by decide) (by decide) (by decide) (by decide), vEnd_k (k := 4) (by decide) (by decide) (by decide) (by decide)]; exact r
  · rw [vEnd_k (by decide) (by decide) (by decide) (by decide)]; omega
  · rw [vEnd_k (by decide) (by decide) (by decide) (by decide)]; exact o j
theorem pth_lt {V : VV} {t : Nat} (hb : ∀ i, i < V 16 0 → V 8 i = 1 → 0 < V 11 i ∧ V 11 i ≤ V 16 0 ∧ V 12 i < 200 ∧ V 13 i ≤ 1) (ht : t < V 16 0) : ∀ n, (∀ i, i < n → V 8 (pth V t i) = 1) → pth V t n < V 16 0
  | 0, _ => ht
  | n + 1, h => by
    rw [pth_succ]
    have h1 := pth_lt hb ht n (fun i hi => h i (by omega))
    have h2 := hb _ h1 (h n (by omega))
    omega
theorem pth_22 (V : VV) (v : Nat) : ∀ i a, pth (u2 V 22 0 v) a i = pth V a i
  | 0, a => rfl
  | i + 1, a => pth_22 V v i (V 11 a - 1)
/-- what a ring's greatest one is: one that waits -/
theorem vTake_victim {V : VV} {t : Nat} (hb : ∀ i, i < V 16 0 → V 8 i = 1 → 0 < V 11 i ∧ V 11 i ≤ V 16 0 ∧ V 12 i < 200 ∧ V 13 i ≤ 1) (ht : t < V 16 0) (hl : 0 < vLk V t 60 t 0) :
    vTk (vLk V t 60 t 0) (u2 V 22 0 0) t 22 0 = vLk V t 60 t 0 ∧ vTk (vLk V t 60 t 0) (u2 V 22 0 0) t 21 (vLk V t 60 t 0 - 1) < V 16 0 ∧ V 8 (vTk (vLk V t 60 t 0) (u2 V 22 0 0) t 21 (vLk V t 60 t 0 - 1)) = 1 := by
  obtain ⟨h1, h2, h3, h4⟩ := vLk_pth V t 60 t 0 hl
  obtain ⟨q1, q2⟩ := vTk_P (P := fun x => x < V 16 0 ∧ V 8 x = 1) (vLk V t 60 t 0) (u2 V 22 0 0) t (fun i hi => by
    rw [pth_22]
    exact ⟨pth_lt hb ht i (fun j hj => h3 j (by omega)), h3 i (by omega)⟩) (fun j hj => by rw [u2_same] at hj; omega)
  rw [u2_same] at q1 q2
  have q3 := q2 (vLk V t 60 t 0 - 1) (by omega)
  exact ⟨by rw [q1]; omega, q3.1, q3.2⟩
theorem Iv.ringV {V : VV} {t : Nat} (h : Iv V) (ht : t < V 16 0) : Iv (vRing V t) := by
  unfold vRing
  split
  · exact h
  · rename_i hl
    have hl : 0 < vLk V t 60 t 0 := Nat.pos_of_ne_zero hl
    obtain ⟨v1, v2, v3⟩ := vTake_victim h.2.1 ht hl
    obtain ⟨_, h2, _, _⟩ := vLk_pth V t 60 t 0 hl
    unfold vTake
    have ek : ∀ b, b ≠ 21 → b ≠ 22 → vTk (vLk V t 60 t 0) (u2 V 22 0 0) t b = V b := fun b h1 h2 => by
      rw [vTk_k _ _ _ _ h1 h2]
      show (if b = 22 then _ else _) = _
      rw [if_neg h2]
    refine Iv.endV ?_ ?_ ?_ (by decide)
    · obtain ⟨a, b, c, d, e, f, g, r, l, o⟩ := h
      unfold Iv
      have eC : cE (vTk (vLk V t 60 t 0) (u2 V 22 0 0) t) (V 16 0) = cE V (V 16 0) := cE_cong fun i _ => by rw [ek 8 (by decide) (by decide)]
      rw [ek 16 (by decide) (by decide), ek 8 (by decide) (by decide), ek 11 (by decide) (by decide), ek 12 (by decide) (by decide), ek 13 (by decide) (by decide), ek 17 (by decide) (by decide), ek 18 (by decide) (by decide), ek 19 (by decide) (by decide), ek 20 (by decide) (by decide), ek 3 (by decide) (by decide), ek 4 (by decide) (by decide), ek 9 (by decide) (by decide), eC, v1]
      exact ⟨a, b, c, d, e, f, by omega, r, l, o⟩
    · rw [ek 16 (by decide) (by decide)]; exact v2
    · rw [ek 8 (by decide) (by decide)]; omega
/-- numbers that agree but for one transaction's state (not ended before, not behind), what it waits for, counts, holders -/
theorem Iv.of {V U : VV} {t : Nat} (h : Iv V) (h8 : ∀ i, i ≠ t → U 8 i = V 8 i) (hl : V 8 t < 3) (hl2 : U 8 t < 3)
    (hw : U 8 t = 1 → 0 < U 11 t ∧ U 11 t ≤ V 16 0 ∧ U 12 t < 200 ∧ U 13 t ≤ 1) (hk : ∀ k i, k = 11 ∨ k = 12 ∨ k = 13 → i ≠ t → U k i = V k i)
    (h17 : ∀ k, k < 200 → U 17 k ≤ V 16 0) (hc : ∀ k, k = 3 ∨ k = 4 ∨ k = 9 ∨ k = 16 ∨ k = 18 ∨ k = 20 ∨ k = 22 → U k = V k) (h19 : V 19 0 ≤ U 19 0 ∧ U 19 0 ≤ V 20 0) : Iv U := by
  obtain ⟨a, b, c, d, e, f, g, r, l, o⟩ := h
  have eC : cE U (V 16 0) = cE V (V 16 0) := cE_cong fun i _ => by
    by_cases q : i = t
    · subst q; omega
    · rw [h8 i q]
  unfold Iv
  rw [hc 16 (by simp), hc 3 (by simp), hc 4 (by simp), hc 9 (by simp), hc 18 (by simp), hc 20 (by simp), hc 22 (by simp), eC]
  refine ⟨a, fun i hi hs => ?_, h17, fun j hj1 hj2 => d j (by omega) hj2, by omega, f, g, r, l, o⟩
  by_cases q : i = t
  · subst q; exact hw hs
  · rw [hk 11 i (by simp) q, hk 12 i (by simp) q, hk 13 i (by simp) q]
    exact b i hi (by rw [← h8 i q]; exact hs)
theorem Iv.wtV {V : VV} {t k b : Nat} (h : Iv V) (ht : t < V 16 0) (hl : V 8 t < 3) (hk : k < 200) (hb : b ≤ 1) (h17 : 0 < V 17 k) : Iv (vWt (u2 (u2 V 11 t 0) 8 t 0) t k b) := by
  have hc := h.2.2.1
  have hfr := h.2.2.2.2.1
  refine h.of (t := t) (fun i hi => ?_) hl ?_ (fun _ => ?_) (fun a i ha hi => ?_) (fun a ha => hc a ha) (fun a ha => ?_) ⟨Nat.le_refl _, hfr⟩
  · show u2 (u2 (u2 V 11 t 0) 8 t 0) 8 t 1 8 i = V 8 i
    rw [u2_ni _ _ _ _ hi, u2_ni _ _ _ _ hi]; rfl
  · show u2 (u2 (u2 V 11 t 0) 8 t 0) 8 t 1 8 t < 3
    rw [u2_same]; decide
  · have e1 : vWt (u2 (u2 V 11 t 0) 8 t 0) t k b 11 t = V 17 k := by
      show u2 _ 11 t _ 11 t = _
      rw [u2_same]; rfl
    have e2 : vWt (u2 (u2 V 11 t 0) 8 t 0) t k b 12 t = k := by
      show u2 _ 12 t _ 12 t = _
      rw [u2_same]
    have e3 : vWt (u2 (u2 V 11 t 0) 8 t 0) t k b 13 t = b := by
      show u2 _ 13 t _ 13 t = _
      rw [u2_same]
    rw [e1, e2, e3]
    exact ⟨h17, hc k hk, hk, hb⟩
  · unfold vWt
    rcases ha with rfl | rfl | rfl <;> simp [u2_eq, hi]
  · rcases ha with rfl | rfl | rfl | rfl | rfl | rfl | rfl <;> rfl
theorem Iv.wrV {V : VV} {t k b : Nat} (h : Iv V) (ht : t < V 16 0) (hl : V 8 t < 3) (hk : k < 200) (hb : b ≤ 1) : Iv (vWr V t k b) := by
  have hc := h.2.2.1
  have hfr := h.2.2.2.2.1
  unfold vWr
  split
  · refine h.of (t := t) (fun i hi => ?_) hl ?_ (fun q => ?_) (fun a i ha hi => ?_) (fun a ha => hc a ha) (fun a ha => ?_) ⟨Nat.le_refl _, hfr⟩
    · show u2 (u2 (u2 V 11 t 0) 8 t 0) 8 t 2 8 i = V 8 i
      rw [u2_ni _ _ _ _ hi, u2_ni _ _ _ _ hi]; rfl
    · show u2 (u2 (u2 V 11 t 0) 8 t 0) 8 t 2 8 t < 3
      rw [u2_same]; decide
    · have q : u2 (u2 (u2 V 11 t 0) 8 t 0) 8 t 2 8 t = 1 := q
      rw [u2_same] at q
      exact absurd q (by decide)
    · rcases ha with rfl | rfl | rfl <;> simp [u2_eq, hi]
    · rcases ha with rfl | rfl | rfl | rfl | rfl | rfl | rfl <;> rfl
  · split
    · rename_i hw
      exact Iv.ringV (h.wtV ht hl hk hb hw.1) ht
    · refine h.of (t := t) (fun i hi => ?_) hl ?_ (fun q => ?_) (fun a i ha hi => ?_) (fun a ha => ?_) (fun a ha => ?_) ⟨Nat.le_refl _, hfr⟩
      · show u2 (u2 V 11 t 0) 8 t 0 8 i = V 8 i
        rw [u2_ni _ _ _ _ hi]; rfl
      · show u2 (u2 V 11 t 0) 8 t 0 8 t < 3
        rw [u2_same]; decide
      · have q : u2 (u2 V 11 t 0) 8 t 0 8 t = 1 := q
        rw [u2_same] at q
        exact absurd q (by decide)
      · rcases ha with rfl | rfl | rfl <;> simp [u2_eq, hi]
      · show u2 (u2 (u2 V 11 t 0) 8 t 0) 17 k (t + 1) 17 a ≤ _
        rw [u2_eq]
        split
        · omega
        · exact hc a ha
      · rcases ha with rfl | rfl | rfl | rfl | rfl | rfl | rfl <;> rfl
theorem Iv.next {V : VV} (h : Iv V) (h1 : V 19 0 < V 20 0) : Iv (u2 V 19 0 (V 19 0 + 1)) := by
  obtain ⟨a, b, c, d, e, f, g, r, l, o⟩ := h
  unfold Iv
  refine ⟨a, b, c, fun j hj1 hj2 => d j ?_ hj2, ?_, f, g, r, l, o⟩
  · rw [u2_same] at hj1; omega
  · rw [u2_same]; exact h1
theorem Iv.go1 {V : VV} (h : Iv V) (h1 : V 19 0 < V 20 0) : Iv (vGo1 V) := by
  have hq := h.2.2.2.1 (V 19 0) (Nat.le_refl _) h1
  unfold vGo1
  split
  · rename_i hs
    have hb := h.2.1 _ hq hs
    exact Iv.wrV (h.next h1) hq (show V 8 _ < 3 by omega) hb.2.2.1 hb.2.2.2
  · exact h.next h1
theorem vWr_19 (V : VV) (t k b : Nat) : vWr V t k b 19 = V 19 := by
  unfold vWr
  split
  · rfl
  · split
    · unfold vRing
      split
      · rfl
      · unfold vTake
        rw [vEnd_k (by decide) (by decide) (by decide) (by decide), vTk_k _ _ _ _ (by decide) (by decide)]
        rfl
    · rfl
theorem vGo1_19 (V : VV) : vGo1 V 19 0 = V 19 0 + 1 := by
  unfold vGo1
  split
  · rw [vWr_19, u2_same]
  · rw [u2_same]
theorem BdN.endV {V : VV} {N t z : Nat} (h : BdN V N) (h1 : V 16 0 ≤ 60) (h2 : V 20 0 + 60 ≤ 4000) (h3 : 20000 ≤ N) (hz : z ≤ 4) : BdN (vEnd V t z) N := by
  unfold vEnd
  refine BdN.enq 61 ((h.up (by omega)).clr) h1 ?_ h3
  have h9 := vCw_le (vClr (u2 V 8 t z) t 200) t 0 (V 16 0)
  show V 20 0 + vCw _ t 0 (V 16 0) ≤ 4000
  omega
theorem BdN.ringV {V : VV} {N t : Nat} (h : BdN V N) (h1 : V 16 0 ≤ 60) (h2 : V 20 0 + 60 ≤ 4000) (h3 : 20000 ≤ N) (ht : t < 60) : BdN (vRing V t) N := by
  unfold vRing
  split
  · exact h
  · rename_i hl
    obtain ⟨_, h5, _, _⟩ := vLk_pth V t 60 t 0 (Nat.pos_of_ne_zero hl)
    unfold vTake
    have ek : ∀ b, b ≠ 21 → b ≠ 22 → vTk (vLk V t 60 t 0) (u2 V 22 0 0) t b = V b := fun b h1 h2 => by
      rw [vTk_k _ _ _ _ h1 h2]
      show (if b = 22 then _ else _) = _
      rw [if_neg h2]
    refine BdN.endV (BdN.tk _ (h.up (by omega)) (by omega) ?_) ?_ ?_ h3 (by decide)
    · rw [u2_same]; omega
    · rw [ek 16 (by decide) (by decide)]; exact h1
    · rw [ek 20 (by decide) (by decide)]; exact h2
theorem BdN.wrV {V : VV} {N t k b : Nat} (h : BdN V N) (h1 : V 16 0 ≤ 60) (h2 : V 20 0 + 60 ≤ 4000) (h3 : 20000 ≤ N) (ht : t < 60) (hk : k < 200) (hb : b ≤ 1) : BdN (vWr V t k b) (N + 1) := by
  have hM := h.mono (Nat.le_succ N)
  have hU : BdN (u2 (u2 V 11 t 0) 8 t 0) (N + 1) := (hM.up (by omega)).up (by omega)
  unfold vWr
  split
  · exact (hU.up (by omega)).up (Nat.succ_lt_succ (h 23 k))
  · split
    · refine BdN.ringV ?_ h1 h2 (by omega) ht
      unfold vWt
      exact (((((hU.up (by omega)).up (hM 17 k)).up (by omega)).up (by omega)).up (hM 15 0)).up (Nat.succ_lt_succ (h 15 0))
    · exact (hU.up (by omega)).up (by omega)
theorem BdN.go1 {V : VV} {N : Nat} (hI : Iv V) (hq : V 19 0 < V 20 0) (h : BdN V N) (h3 : 20000 ≤ N) : BdN (vGo1 V) (N + 1) := by
  have h2 := hI.q
  have ht := hI.2.2.2.1 (V 19 0) (Nat.le_refl _) hq
  have hC := hI.1
  unfold vGo1
  split
  · rename_i hs
    have hb := hI.2.1 _ ht hs
    refine BdN.wrV (h.up (by omega)) hC ?_ h3 (by omega) hb.2.2.1 hb.2.2.2
    show V 20 0 + 60 ≤ 4000
    omega
  · exact (h.mono (Nat.le_succ N)).up (by omega)
theorem vAb_cong {V U : VV} {t v : Nat} (h0 : U 0 = V 0) (h1 : U 1 = V 1) : ∀ n, vAb U t v n = vAb V t v n
  | 0 => rfl
  | n + 1 => by
    unfold vAb
    rw [vAb_cong h0 h1 n, h0, h1]
