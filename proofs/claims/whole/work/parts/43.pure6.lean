/-! free: what a chain becomes, and that the reference's rows tell the same -/
def drL : List (Nat × Nat) → Nat → List (Nat × Nat)
  | [], _ => []
  | q :: l, v => if v < q.1 then q :: drL l v else if 0 < q.2 then [q] else []
/-- a list whose versions fall -/
def dsc : List (Nat × Nat) → Prop
  | [] => True
  | q :: l => (∀ p ∈ l, p.1 < q.1) ∧ dsc l
def bsL : List (Nat × Nat) → Nat → Nat
  | [], _ => 0
  | q :: l, v => if q.1 ≤ v then q.1 + 1 else bsL l v
def goP (q : Nat × Nat) (B : Nat) : Bool := decide (q.1 + 1 < B) || (decide (q.1 + 1 = B) && decide (q.2 = 0))
theorem chV_mem {V : VV} {k : Nat} : ∀ n (p : Nat × Nat), p ∈ chV V k n → ∃ r, r < n ∧ V 0 r = k ∧ p = (V 1 r, V 2 r)
  | 0, p, h => by unfold chV at h; exact absurd h List.not_mem_nil
  | n + 1, p, h => by
    unfold chV at h
    by_cases q : V 0 n = k
    · rw [if_pos q] at h
      rcases List.mem_cons.mp h with h | h
      · exact ⟨n, by omega, q, h⟩
      · obtain ⟨r, h1, h2⟩ := chV_mem n p h
        exact ⟨r, by omega, h2⟩
    · rw [if_neg q] at h
      obtain ⟨r, h1, h2⟩ := chV_mem n p h
      exact ⟨r, by omega, h2⟩
theorem chV_dsc {V : VV} {k : Nat} (h : Rs V) : ∀ n, n ≤ V 3 0 → dsc (chV V k n)
  | 0, _ => trivial
  | n + 1, hn => by
    unfold chV
    by_cases q : V 0 n = k
    · rw [if_pos q]
      refine ⟨fun p hp => ?_, chV_dsc h n (by omega)⟩
      obtain ⟨r, h1, h2, h3⟩ := chV_mem n p hp
      rw [h3]
      exact h r n h1 (by omega) (by rw [h2, q])
    · rw [if_neg q]
      exact chV_dsc h n (by omega)
theorem vRow_sp (V : VV) (k v : Nat) : ∀ n, 0 < vRow V k v n → vRow V k v n ≤ n ∧ V 0 (vRow V k v n - 1) = k ∧ V 1 (vRow V k v n - 1) ≤ v
  | 0, h => by unfold vRow at h; omega
  | n + 1, h => by
    unfold vRow at h ⊢
    by_cases q : V 0 n = k ∧ V 1 n ≤ v ∧ (vRow V k v n = 0 ∨ V 1 (vRow V k v n - 1) < V 1 n)
    · rw [if_pos q]
      exact ⟨Nat.le_refl _, q.1, q.2.1⟩
    · rw [if_neg q] at h ⊢
      obtain ⟨h1, h2⟩ := vRow_sp V k v n h
      exact ⟨by omega, h2⟩
theorem bsL_row {V : VV} {k v : Nat} (h : Rs V) : ∀ n, n ≤ V 3 0 → bsL (chV V k n) v = if vRow V k v n = 0 then 0 else V 1 (vRow V k v n - 1) + 1
  | 0, _ => rfl
  | n + 1, hn => by
    have ih := bsL_row (k := k) (v := v) h n (by omega)
    have hc : chV V k (n + 1) = if V 0 n = k then (V 1 n, V 2 n) :: chV V k n else chV V k n := rfl
    have hr : vRow V k v (n + 1) = if V 0 n = k ∧ V 1 n ≤ v ∧ (vRow V k v n = 0 ∨ V 1 (vRow V k v n - 1) < V 1 n) then n + 1 else vRow V k v n := rfl
    by_cases q : V 0 n = k
    · rw [hc, if_pos q]
      show (if V 1 n ≤ v then V 1 n + 1 else bsL (chV V k n) v) = _
      by_cases q2 : V 1 n ≤ v
      · have hlt : vRow V k v n = 0 ∨ V 1 (vRow V k v n - 1) < V 1 n := by
          rcases Nat.eq_zero_or_pos (vRow V k v n) with z | z
          · exact Or.inl z
          · have hs := vRow_sp V k v n z
            exact Or.inr (h _ n (by omega) (by omega) (by rw [hs.2.1, q]))
        rw [if_pos ⟨q, q2, hlt⟩] at hr
        rw [if_pos q2, hr, if_neg (by omega)]
        rfl
      · rw [if_neg (fun z => q2 z.2.1)] at hr
        rw [if_neg q2, hr, ih]
    · rw [if_neg (fun z => q z.1)] at hr
      rw [hc, if_neg q, hr, ih]
theorem drL_low : ∀ (l : List (Nat × Nat)) (B : Nat), (∀ p ∈ l, p.1 + 1 < B) → l.filter (fun q => !goP q B) = []
  | [], B, _ => rfl
  | q :: l, B, h => by
    have h1 : goP q B = true := by unfold goP; rw [decide_eq_true (h q List.mem_cons_self)]; rfl
    rw [List.filter_cons_of_neg (by rw [h1]; decide)]
    exact drL_low l B (fun p hp => h p (List.mem_cons_of_mem _ hp))
theorem bsL_le : ∀ (l : List (Nat × Nat)) (v : Nat), bsL l v ≤ v + 1
  | [], v => Nat.zero_le _
  | q :: l, v => by
    unfold bsL
    split
    · omega
    · exact bsL_le l v
/-- what stays of a chain is what the reference keeps -/
theorem drL_filter : ∀ (l : List (Nat × Nat)) (v : Nat), dsc l → l.filter (fun q => !goP q (bsL l v)) = drL l v
  | [], v, _ => rfl
  | q :: l, v, h => by
    unfold drL bsL
    by_cases hq : q.1 ≤ v
    · rw [if_pos hq, if_neg (by omega)]
      have hl := drL_low l (q.1 + 1) (fun p hp => by have := h.1 p hp; omega)
      by_cases hb : 0 < q.2
      · rw [if_pos hb]
        have h1 : goP q (q.1 + 1) = false := by unfold goP; rw [decide_eq_false (by omega), decide_eq_false (show ¬ q.2 = 0 by omega)]; simp
        rw [List.filter_cons_of_pos (by rw [h1]; decide), hl]
      · rw [if_neg hb]
        have h1 : goP q (q.1 + 1) = true := by unfold goP; rw [decide_eq_true (show q.2 = 0 by omega)]; simp
        rw [List.filter_cons_of_neg (by rw [h1]; decide), hl]
    · rw [if_neg hq, if_pos (by omega)]
      have hb := bsL_le l v
      have h1 : goP q (bsL l v) = false := by unfold goP; rw [decide_eq_false (by omega), decide_eq_false (show ¬ q.1 + 1 = bsL l v by omega)]; rfl
      rw [List.filter_cons_of_pos (by rw [h1]; decide), drL_filter l v h.2]
/-- the rows that the reference keeps, as chains -/
theorem chV_fs {E : VV} {k : Nat} : ∀ n, chV (vFs E n) k (vFk E n) = (chV E k n).filter (fun q => !goP q (E 26 k))
  | 0 => rfl
  | n + 1 => by
    have ih := chV_fs (E := E) (k := k) n
    have hg : vGoB E n = goP (E 1 n, E 2 n) (E 26 (E 0 n)) := rfl
    have hs : vFs E (n + 1) = if vGoB E n = true then vFs E n else u2 (u2 (u2 (vFs E n) 0 (vFk E n) (E 0 n)) 1 (vFk E n) (E 1 n)) 2 (vFk E n) (E 2 n) := rfl
    have hk : vFk E (n + 1) = if vGoB E n = true then vFk E n else vFk E n + 1 := rfl
    by_cases hgo : vGoB E n = true
    · rw [hs, hk, if_pos hgo, if_pos hgo, ih]
      show _ = (if E 0 n = k then (E 1 n, E 2 n) :: chV E k n else chV E k n).filter _
      by_cases q : E 0 n = k
      · rw [if_pos q]
        rw [hg, q] at hgo
        rw [List.filter_cons_of_neg (by rw [hgo]; decide)]
      · rw [if_neg q]
    · rw [hs, hk, if_neg hgo, if_neg hgo]
      have ht : ∀ m, m ≤ vFk E n → chV (u2 (u2 (u2 (vFs E n) 0 (vFk E n) (E 0 n)) 1 (vFk E n) (E 1 n)) 2 (vFk E n) (E 2 n)) k m = chV (vFs E n) k m := by
        intro m
        induction m with
        | zero => intro _; rfl
        | succ m ihm =>
          intro hm
          unfold chV
          rw [ihm (by omega)]
          have hne : m ≠ vFk E n := by omega
          rw [u2_ni _ _ _ _ hne, u2_ni _ _ _ _ hne, u2_ni _ _ _ _ hne, u2_ni _ _ _ _ hne, u2_ni _ _ _ _ hne, u2_ni _ _ _ _ hne, u2_ni _ _ _ _ hne, u2_ni _ _ _ _ hne, u2_ni _ _ _ _ hne]
      have e0 : u2 (u2 (u2 (vFs E n) 0 (vFk E n) (E 0 n)) 1 (vFk E n) (E 1 n)) 2 (vFk E n) (E 2 n) 0 (vFk E n) = E 0 n := by simp [u2_eq]
      have e1 : u2 (u2 (u2 (vFs E n) 0 (vFk E n) (E 0 n)) 1 (vFk E n) (E 1 n)) 2 (vFk E n) (E 2 n) 1 (vFk E n) = E 1 n := by simp [u2_eq]
      have e2 : u2 (u2 (u2 (vFs E n) 0 (vFk E n) (E 0 n)) 1 (vFk E n) (E 1 n)) 2 (vFk E n) (E 2 n) 2 (vFk E n) = E 2 n := by simp [u2_eq]
      show (if _ = k then _ :: chV _ k (vFk E n) else chV _ k (vFk E n)) = (if E 0 n = k then (E 1 n, E 2 n) :: chV E k n else chV E k n).filter _
      rw [e0, e1, e2, ht _ (Nat.le_refl _), ih]
      by_cases q : E 0 n = k
      · rw [if_pos q, if_pos q]
        rw [hg, q] at hgo
        rw [List.filter_cons_of_pos (by cases hz : goP (E 1 n, E 2 n) (E 26 k) with | false => rfl | true => exact absurd hz hgo)]
      · rw [if_neg q, if_neg q]
/-- sums over the triples -/
def sm (f : Nat → Nat) : Nat → Nat
  | 0 => 0
  | n + 1 => sm f n + f n
theorem sm_cong {f h : Nat → Nat} : ∀ n, (∀ k, k < n → f k = h k) → sm f n = sm h n
  | 0, _ => rfl
  | n + 1, e => by
    unfold sm
    rw [sm_cong n (fun k hk => e k (by omega)), e n (by omega)]
theorem sm_one {f h : Nat → Nat} {t : Nat} : ∀ n, t < n → (∀ k, k ≠ t → h k = f k) → h t = f t + 1 → sm h n = sm f n + 1
  | 0, ht, _, _ => by omega
  | n + 1, ht, e, e1 => by
    unfold sm
    rcases (show t < n ∨ t = n by omega) with y | y
    · rw [sm_one n y e e1, e n (by omega)]
      omega
    · subst y
      rw [sm_cong (f := h) (h := f) t (fun k hk => e k (by omega)), e1]
      omega
theorem sm_zero (n : Nat) : sm (fun _ => 0) n = 0 := by
  induction n with
  | zero => rfl
  | succ n ih => unfold sm; rw [ih]
theorem sm_chV {V : VV} : ∀ r, (∀ j, j < r → V 0 j < 200) → sm (fun k => (chV V k r).length) 200 = r
  | 0, _ => sm_zero 200
  | r + 1, h => by
    have h1 : ∀ k, k ≠ V 0 r → (chV V k (r + 1)).length = (chV V k r).length := fun k hk => by
      show (if V 0 r = k then (V 1 r, V 2 r) :: chV V k r else chV V k r).length = _
      rw [if_neg (Ne.symm hk)]
    have h2 : (chV V (V 0 r) (r + 1)).length = (chV V (V 0 r) r).length + 1 := by
      show (if V 0 r = V 0 r then (V 1 r, V 2 r) :: chV V (V 0 r) r else chV V (V 0 r) r).length = _
      rw [if_pos rfl]
      rfl
    rw [sm_one (f := fun k => (chV V k r).length) (h := fun k => (chV V k (r + 1)).length) (t := V 0 r) 200 (h r (by omega)) h1 h2, sm_chV r (fun j hj => h j (by omega))]
theorem drL_len : ∀ (l : List (Nat × Nat)) (v : Nat), (drL l v).length ≤ l.length
  | [], v => Nat.le_refl _
  | q :: l, v => by
    unfold drL
    have := drL_len l v
    split
    · simp only [List.length_cons]; omega
    · split
      · simp only [List.length_cons, List.length_nil]; omega
      · simp only [List.length_cons, List.length_nil]; omega
theorem sm_sub {f h : Nat → Nat} : ∀ n, (∀ k, k < n → h k ≤ f k) → sm (fun k => f k - h k) n + sm h n = sm f n
  | 0, _ => rfl
  | n + 1, e => by
    have h1 := sm_sub n (fun k hk => e k (by omega))
    have h2 := e n (by omega)
    unfold sm
    omega
theorem vBs_26 (V : VV) (v : Nat) {k : Nat} : ∀ {n}, k < n → vBs V v n 26 k = if vRow V k v (V 3 0) = 0 then 0 else V 1 (vRow V k v (V 3 0) - 1) + 1
  | 0, h => by omega
  | n + 1, h => by
    unfold vBs
    rcases (show k < n ∨ k = n by omega) with y | y
    · rw [u2_ni _ _ _ _ (by omega)]
      exact vBs_26 V v y
    · subst y
      rw [u2_same]
/-- free, over the chains: of each triple what stays -/
theorem chV_free {V : VV} (h : Rw V) {k : Nat} (hk : k < 200) : chV (vFree V) k (vFree V 3 0) = drL (chV V k (V 3 0)) (vLK V) := by
  have e3 : vFree V 3 0 = vFk (vBs V (vLK V) 200) (V 3 0) := by unfold vFree; rw [u2_same]
  rw [e3]
  have e9 : chV (vFree V) k (vFk (vBs V (vLK V) 200) (V 3 0)) = chV (vFs (vBs V (vLK V) 200) (V 3 0)) k (vFk (vBs V (vLK V) 200) (V 3 0)) := by
    have ex : ∀ x, x ≠ 3 → vFree V x = vFs (vBs V (vLK V) 200) (V 3 0) x := fun x hx => by
      unfold vFree
      show (if x = 3 then _ else _) = _
      rw [if_neg hx]
    exact chV_cong (ex 0 (by decide)) (ex 1 (by decide)) (ex 2 (by decide)) _
  rw [e9, chV_fs]
  have hb : ∀ b, b ≠ 26 → vBs V (vLK V) 200 b = V b := fun b h9 => vBs_k V _ h9 200
  rw [chV_cong (hb 0 (by decide)) (hb 1 (by decide)) (hb 2 (by decide)), vBs_26 V _ hk, ← bsL_row h.2 _ (Nat.le_refl _)]
  exact drL_filter _ _ (chV_dsc h.2 _ (Nat.le_refl _))
theorem vFree_k (V : VV) {b : Nat} (h0 : b ≠ 0) (h1 : b ≠ 1) (h2 : b ≠ 2) (h3 : b ≠ 3) (h26 : b ≠ 26) : vFree V b = V b := by
  unfold vFree
  show (if b = 3 then _ else _) = _
  rw [if_neg h3, vFs_k _ h0 h1 h2, vBs_k _ _ h26]
/-- the reference's rows behind free are rows of before, in their order -/
theorem Rw.free {V : VV} (h : Rw V) : Rw (vFree V) := by
  obtain ⟨E, hE⟩ : ∃ E, E = vBs V (vLK V) 200 := ⟨_, rfl⟩
  have hEk : ∀ b, b ≠ 26 → E b = V b := fun b hb => by rw [hE]; exact vBs_k V _ hb 200
  have key : ∀ n, n ≤ V 3 0 → (∀ r, r < vFk E n → ∃ j, j < n ∧ vFs E n 0 r = V 0 j ∧ vFs E n 1 r = V 1 j ∧ vFs E n 2 r = V 2 j) ∧ ∀ r s, r < s → s < vFk E n → vFs E n 0 r = vFs E n 0 s → vFs E n 1 r < vFs E n 1 s := by
    intro n
    induction n with
    | zero => intro _; exact ⟨fun r hr => absurd hr (Nat.not_lt_zero _), fun r s _ hs => absurd hs (Nat.not_lt_zero _)⟩
    | succ n ih =>
      intro hn
      obtain ⟨a, b⟩ := ih (by omega)
      have hs : vFs E (n + 1) = if vGoB E n = true then vFs E n else u2 (u2 (u2 (vFs E n) 0 (vFk E n) (E 0 n)) 1 (vFk E n) (E 1 n)) 2 (vFk E n) (E 2 n) := rfl
      have hk : vFk E (n + 1) = if vGoB E n = true then vFk E n else vFk E n + 1 := rfl
      rw [hs, hk]
      by_cases hg : vGoB E n = true
      · rw [if_pos hg, if_pos hg]
        exact ⟨fun r hr => by obtain ⟨j, h1, h2⟩ := a r hr; exact ⟨j, by omega, h2⟩, b⟩
      · rw [if_neg hg, if_neg hg]
        have old : ∀ r, r < vFk E n → ∀ x, u2 (u2 (u2 (vFs E n) 0 (vFk E n) (E 0 n)) 1 (vFk E n) (E 1 n)) 2 (vFk E n) (E 2 n) x r = vFs E n x r := fun r hr x => by
          have hne : r ≠ vFk E n := by omega
          rw [u2_ni _ _ _ _ hne, u2_ni _ _ _ _ hne, u2_ni _ _ _ _ hne]
        have e0 : u2 (u2 (u2 (vFs E n) 0 (vFk E n) (E 0 n)) 1 (vFk E n) (E 1 n)) 2 (vFk E n) (E 2 n) 0 (vFk E n) = V 0 n := by simp [u2_eq, hEk]
        have e1 : u2 (u2 (u2 (vFs E n) 0 (vFk E n) (E 0 n)) 1 (vFk E n) (E 1 n)) 2 (vFk E n) (E 2 n) 1 (vFk E n) = V 1 n := by simp [u2_eq, hEk]
        have e2 : u2 (u2 (u2 (vFs E n) 0 (vFk E n) (E 0 n)) 1 (vFk E n) (E 1 n)) 2 (vFk E n) (E 2 n) 2 (vFk E n) = V 2 n := by simp [u2_eq, hEk]
        refine ⟨fun r hr => ?_, fun r s hrs hs heq => ?_⟩
        · rcases (show r < vFk E n ∨ r = vFk E n by omega) with y | y
          · rw [old r y, old r y, old r y]
            obtain ⟨j, h1, h2⟩ := a r y
            exact ⟨j, by omega, h2⟩
          · rw [y, e0, e1, e2]
            exact ⟨n, by omega, rfl, rfl, rfl⟩
        · rcases (show s < vFk E n ∨ s = vFk E n by omega) with y | y
          · rw [old r (by omega), old s y] at heq
            rw [old r (by omega), old s y]
            exact b r s hrs y heq
          · subst y
            rw [old r hrs, e0] at heq
            rw [old r hrs, e1]
            obtain ⟨j, h1, h2, h3, h4⟩ := a r hrs
            rw [h3]
            exact h.2 j n h1 (by omega) (by rw [← h2]; exact heq)
  obtain ⟨a, b⟩ := key (V 3 0) (Nat.le_refl _)
  have e3 : vFree V 3 0 = vFk E (V 3 0) := by unfold vFree; rw [u2_same, hE]
  have ex : ∀ x, x ≠ 3 → vFree V x = vFs E (V 3 0) x := fun x hx => by
    unfold vFree
    show (if x = 3 then _ else _) = _
    rw [if_neg hx, hE]
  have e4 : vFree V 4 0 = V 4 0 := by rw [vFree_k V (by decide) (by decide) (by decide) (by decide) (by decide)]
  refine ⟨fun r hr => ?_, fun r s hrs hs heq => ?_⟩
  · rw [e3] at hr
    obtain ⟨j, h1, h2, h3, h4⟩ := a r hr
    rw [ex 0 (by decide), ex 1 (by decide), ex 2 (by decide), e4, h2, h3, h4]
    exact h.1 j h1
  · rw [e3] at hs
    rw [ex 0 (by decide)] at heq
    rw [ex 1 (by decide)]
    exact b r s hrs hs heq
