/-! counting, and what the parts of an end leave as it is -/
def ct (p : Nat → Bool) : Nat → Nat
  | 0 => 0
  | k + 1 => ct p k + (if p k = true then 1 else 0)
theorem ct_le (p : Nat → Bool) : ∀ n, ct p n ≤ n
  | 0 => Nat.le_refl _
  | n + 1 => by
    have := ct_le p n
    unfold ct
    split <;> omega
theorem ct_mono {p q : Nat → Bool} : ∀ {n : Nat}, (∀ k, k < n → p k = true → q k = true) → ct p n ≤ ct q n
  | 0, _ => Nat.le_refl _
  | n + 1, h => by
    have h1 := ct_mono (n := n) (fun k hk => h k (by omega))
    have h2 := h n (by omega)
    unfold ct
    by_cases hp : p n = true
    · rw [if_pos hp, if_pos (h2 hp)]; omega
    · rw [if_neg hp]; split <;> omega
theorem ct_lt {p q : Nat → Bool} {w : Nat} : ∀ {n : Nat}, (∀ k, k < n → p k = true → q k = true) → w < n → q w = true → p w = false → ct p n < ct q n
  | 0, _, hw, _, _ => by omega
  | n + 1, h, hw, hq, hp => by
    unfold ct
    rcases (show w < n ∨ w = n by omega) with h1 | h1
    · have h2 := ct_lt (n := n) (fun k hk => h k (by omega)) h1 hq hp
      have h3 := h n (by omega)
      by_cases hp2 : p n = true
      · rw [if_pos hp2, if_pos (h3 hp2)]; omega
      · rw [if_neg hp2]; split <;> omega
    · subst h1
      have h2 := ct_mono (n := w) (p := p) (q := q) (fun k hk => h k (by omega))
      rw [hp, if_neg (by decide), if_pos hq]
      omega
theorem ct_cong {p q : Nat → Bool} : ∀ {n : Nat}, (∀ k, k < n → p k = q k) → ct p n = ct q n
  | 0, _ => rfl
  | n + 1, h => by
    unfold ct
    rw [ct_cong (n := n) (fun k hk => h k (by omega)), h n (by omega)]
theorem ct_one {p q : Nat → Bool} {t : Nat} : ∀ {n : Nat}, (∀ k, k ≠ t → q k = p k) → t < n → p t = false → q t = true → ct q n = ct p n + 1
  | 0, _, ht, _, _ => by omega
  | n + 1, h, ht, hp, hq => by
    unfold ct
    rcases (show t < n ∨ t = n by omega) with h1 | h1
    · rw [ct_one (n := n) h h1 hp hq, h n (by omega)]
      omega
    · subst h1
      rw [ct_cong (n := t) (p := q) (q := p) (fun k hk => h k (by omega)), hp, hq, if_pos rfl, if_neg (by decide)]
def cE (V : VV) (n : Nat) : Nat := ct (fun i => decide (3 ≤ V 8 i)) n
def vCw (V : VV) (t lp n : Nat) : Nat := ct (fun w => decide (V 8 w = 1 ∧ V 11 w = t + 1 ∧ lp ≤ V 14 w)) n
theorem vNx_spec (V : VV) (t lp : Nat) : ∀ n, 0 < vNx V t lp n → vNx V t lp n ≤ n ∧ V 8 (vNx V t lp n - 1) = 1 ∧ V 11 (vNx V t lp n - 1) = t + 1 ∧ lp ≤ V 14 (vNx V t lp n - 1)
  | 0, h => by unfold vNx at h; omega
  | n + 1, h => by
    unfold vNx at h ⊢
    by_cases q : V 8 n = 1 ∧ V 11 n = t + 1 ∧ lp ≤ V 14 n ∧ (vNx V t lp n = 0 ∨ V 14 n < V 14 (vNx V t lp n - 1))
    · rw [if_pos q]
      exact ⟨Nat.le_refl _, q.1, q.2.1, q.2.2.1⟩
    · rw [if_neg q] at h ⊢
      obtain ⟨h1, h2⟩ := vNx_spec V t lp n h
      exact ⟨by omega, h2⟩
theorem vNx_push (V : VV) (t lp w : Nat) : ∀ n, vNx (vPush V w) t lp n = vNx V t lp n
  | 0 => rfl
  | n + 1 => by
    unfold vNx
    rw [vNx_push V t lp w n]
    rfl
theorem vCw_less {V : VV} {t lp n : Nat} (h : 0 < vNx V t lp n) : vCw V t (V 14 (vNx V t lp n - 1) + 1) n < vCw V t lp n := by
  obtain ⟨h1, h2, h3, h4⟩ := vNx_spec V t lp n h
  refine ct_lt (w := vNx V t lp n - 1) (fun k _ hk => ?_) (by omega) ?_ ?_
  · rw [decide_eq_true_eq] at hk ⊢
    exact ⟨hk.1, hk.2.1, by omega⟩
  · rw [decide_eq_true_eq]
    exact ⟨h2, h3, h4⟩
  · rw [decide_eq_false_iff_not]
    exact fun q => by have := q.2.2; omega
theorem vCw_le (V : VV) (t lp n : Nat) : vCw V t lp n ≤ n := ct_le _ n
theorem vEnq_k : ∀ (f : Nat) (V : VV) (t lp k : Nat), k ≠ 18 → k ≠ 20 → vEnq f V t lp k = V k
  | 0, V, t, lp, k, _, _ => rfl
  | f + 1, V, t, lp, k, h1, h2 => by
    unfold vEnq
    split
    · rfl
    · rw [vEnq_k f _ _ _ k h1 h2]
      unfold vPush u2
      rw [if_neg h2, if_neg h1]
theorem vEnq_q : ∀ (f : Nat) (V : VV) (t lp : Nat), V 20 0 ≤ vEnq f V t lp 20 0 ∧ vEnq f V t lp 20 0 ≤ V 20 0 + vCw V t lp (V 16 0) ∧ (∀ j, j < V 20 0 → vEnq f V t lp 18 j = V 18 j) ∧ ∀ j, V 20 0 ≤ j → j < vEnq f V t lp 20 0 → vEnq f V t lp 18 j < V 16 0 ∧ V 8 (vEnq f V t lp 18 j) = 1 ∧ V 11 (vEnq f V t lp 18 j) = t + 1 ∧ lp ≤ V 14 (vEnq f V t lp 18 j)
  | 0, V, t, lp => ⟨Nat.le_refl _, Nat.le_add_right _ _, fun _ _ => rfl, fun j h1 h2 => by have h2 : j < V 20 0 := h2; omega⟩
  | f + 1, V, t, lp => by
    unfold vEnq
    split
    · exact ⟨Nat.le_refl _, Nat.le_add_right _ _, fun _ _ => rfl, fun j h1 h2 => by omega⟩
    · rename_i hb
      have hb : 0 < vNx V t lp (V 16 0) := Nat.pos_of_ne_zero hb
      have hs := vNx_spec V t lp _ hb
      have hl := vCw_less hb
      obtain ⟨w, hw⟩ : ∃ w, w = vNx V t lp (V 16 0) - 1 := ⟨_, rfl⟩
      rw [← hw] at hs hl ⊢
      obtain ⟨h1, h2, h3, h4⟩ := vEnq_q f (vPush V w) t (V 14 w + 1)
      have e1 : vPush V w 20 0 = V 20 0 + 1 := by unfold vPush; rw [u2_same]
      have e2 : vCw (vPush V w) t (V 14 w + 1) (vPush V w 16 0) = vCw V t (V 14 w + 1) (V 16 0) := rfl
      rw [e1] at h1 h2 h3 h4
      rw [e2] at h2
      refine ⟨by omega, by omega, fun j hj => ?_, fun j hj1 hj2 => ?_⟩
      · rw [h3 j (by omega)]
        unfold vPush
        rw [u2_nk _ _ _ _ (by decide), u2_ni _ _ _ _ (by omega)]
      · rcases (show j = V 20 0 ∨ V 20 0 + 1 ≤ j by omega) with e | e
        · have : vEnq f (vPush V w) t (V 14 w + 1) 18 j = w := by
            rw [h3 j (by omega), e]
            unfold vPush
            rw [u2_nk _ _ _ _ (by decide), u2_same]
          rw [this]
          exact ⟨by omega, hs.2.1, hs.2.2.1, hs.2.2.2⟩
        · have h5 := h4 j e hj2
          exact ⟨h5.1, h5.2.1, h5.2.2.1, by have h6 : V 14 w + 1 ≤ V 14 (vEnq f (vPush V w) t (V 14 w + 1) 18 j) := h5.2.2.2; have := hs.2.2.2; omega⟩
theorem vClr_k {V : VV} {t n k : Nat} (h : k ≠ 17) : vClr V t n k = V k := by
  funext i
  unfold vClr
  rw [if_neg (fun q => h q.1)]
theorem vClr_0 (V : VV) (t : Nat) : vClr V t 0 = V := by
  funext k i
  unfold vClr
  rw [if_neg (fun q => by have := q.2.1; omega)]
theorem vClr_at (V : VV) (t k : Nat) : vClr V t k 17 k = V 17 k := by
  unfold vClr
  rw [if_neg (fun q => by have := q.2.1; omega)]
theorem vClr_yes {V : VV} {t k : Nat} (h : V 17 k = t + 1) : vClr V t (k + 1) = u2 (vClr V t k) 17 k 0 := by
  funext a i
  rw [u2_eq]
  unfold vClr
  by_cases ha : a = 17
  · subst ha
    by_cases hi : i = k
    · subst hi
      rw [if_pos ⟨rfl, by omega, h⟩, if_pos ⟨rfl, rfl⟩]
    · rw [if_neg (show ¬ (17 = 17 ∧ i = k) from fun q => hi q.2)]
      by_cases q : i < k ∧ V 17 i = t + 1
      · rw [if_pos ⟨rfl, by omega, q.2⟩, if_pos ⟨rfl, q.1, q.2⟩]
      · rw [if_neg (fun z => q ⟨by have := z.2.1; omega, z.2.2⟩), if_neg (fun z => q z.2)]
  · rw [if_neg (fun q => ha q.1), if_neg (fun q => ha q.1), if_neg (fun q => ha q.1)]
theorem vClr_no {V : VV} {t k : Nat} (h : ¬ V 17 k = t + 1) : vClr V t (k + 1) = vClr V t k := by
  funext a i
  unfold vClr
  by_cases ha : a = 17
  · subst ha
    by_cases hi : i = k
    · subst hi
      rw [if_neg (fun q => h q.2.2), if_neg (fun q => h q.2.2)]
    · by_cases q : i < k ∧ V 17 i = t + 1
      · rw [if_pos ⟨rfl, by omega, q.2⟩, if_pos ⟨rfl, q.1, q.2⟩]
      · rw [if_neg (fun z => q ⟨by have := z.2.1; omega, z.2.2⟩), if_neg (fun z => q z.2)]
  · rw [if_neg (fun q => ha q.1), if_neg (fun q => ha q.1)]
theorem vClr_le (V : VV) (t n k i : Nat) : vClr V t n k i ≤ V k i := by
  unfold vClr
  split <;> omega
theorem sh_le {a b : Nat} (ha : a < 2 ^ 31) (hb : b < 2 ^ 31) : nI a ≤ nI b - 1 ↔ a < b := by
  rcases Nat.eq_zero_or_pos b with h | h
  · subst h
    rw [sh0]
    exact ⟨fun q => absurd (Int32.le_trans (nI_pos' ha) q) (by decide), fun q => by omega⟩
  · rw [sh_pos h, nI_leI ha (by omega)]
    omega
theorem BdN.clr {V : VV} {N t n : Nat} (h : BdN V N) : BdN (vClr V t n) N := fun k i => Nat.lt_of_le_of_lt (vClr_le V t n k i) (h k i)
theorem BdN.push {V : VV} {N w : Nat} (h : BdN V N) (hw : w < N) (hq : V 20 0 + 1 < N) : BdN (vPush V w) N := (h.up hw).up hq
theorem BdN.enq : ∀ (f : Nat) {V : VV} {N t lp : Nat}, BdN V N → V 16 0 ≤ 60 → V 20 0 + vCw V t lp (V 16 0) ≤ 4000 → 20000 ≤ N → BdN (vEnq f V t lp) N
  | 0, V, N, t, lp, h, _, _, _ => h
  | f + 1, V, N, t, lp, h, h1, h2, h3 => by
    unfold vEnq
    split
    · exact h
    · rename_i hb
      have hb : 0 < vNx V t lp (V 16 0) := Nat.pos_of_ne_zero hb
      have hs := vNx_spec V t lp _ hb
      have hl := vCw_less hb
      refine BdN.enq f (h.push (by omega) (by omega)) h1 ?_ h3
      show vPush V _ 20 0 + vCw V t _ (V 16 0) ≤ 4000
      unfold vPush
      rw [u2_same]
      omega
