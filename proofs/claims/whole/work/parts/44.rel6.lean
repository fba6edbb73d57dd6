/-! a chain cut: the walk to the first row not above v -/
def wkC (O : OO) (v : Nat) : List (Nat × Nat) → Option Nat → Option Nat → Option Nat × Option Nat
  | [], ab, _ => (ab, none)
  | q :: l, ab, o => if v < q.1 then wkC O v l o (O 5 (o.getD 0)) else (ab, o)
theorem wkC_row {I : VV} {O : OO} {L : List Nat} {K own : Nat → Nat} {k v : Nat} : ∀ {l : List (Nat × Nat)} {ab o : Option Nat} {r : Nat}, Ch I O L K own k o l → (wkC O v l ab o).2 = some r → I 10 r ≤ v
  | [], ab, o, r, _, h => by simp [wkC] at h
  | q :: l, ab, o, r, hc, h => by
    obtain ⟨a, ha, haL, haK, ho, h10, h11, hn⟩ := hc
    unfold wkC at h
    by_cases y : v < q.1
    · rw [if_pos y, ha] at h
      exact wkC_row hn h
    · rw [if_neg y] at h
      have h : o = some r := h
      have : a = r := Option.some.inj (ha.symm.trans h)
      subst this
      omega
theorem wkC_ab {I : VV} {O : OO} {L : List Nat} {K own : Nat → Nat} {k v : Nat} : ∀ {l : List (Nat × Nat)} {a0 b : Nat} {o : Option Nat}, Ch I O L K own k o l → dsc l → (∀ p ∈ l, p.1 < I 10 a0) → (wkC O v l (some a0) o).1 = some b → I 10 b ≤ I 10 a0
  | [], a0, b, o, _, _, _, h => by
    have h : some a0 = some b := h
    rw [Option.some.inj h]
    exact Nat.le_refl _
  | q :: l, a0, b, o, hc, hd, hp, h => by
    obtain ⟨a, ha, haL, haK, ho, h10, h11, hn⟩ := hc
    unfold wkC at h
    have hq := hp q List.mem_cons_self
    by_cases y : v < q.1
    · rw [if_pos y, ha] at h
      have := wkC_ab hn hd.2 (fun p h9 => by rw [h10]; exact hd.1 p h9) h
      omega
    · rw [if_neg y] at h
      have h : some a0 = some b := h
      rw [Option.some.inj h]
      exact Nat.le_refl _
theorem wkC_none {I : VV} {O : OO} {L : List Nat} {K own : Nat → Nat} {k v : Nat} : ∀ {l : List (Nat × Nat)} {ab o : Option Nat}, Ch I O L K own k o l → (wkC O v l ab o).2 = none → drL l v = l
  | [], _, _, _, _ => rfl
  | q :: l, ab, o, hc, h => by
    obtain ⟨a, ha, haL, haK, ho, h10, h11, hn⟩ := hc
    unfold wkC at h
    unfold drL
    by_cases y : v < q.1
    · rw [if_pos y, ha] at h
      rw [if_pos y, wkC_none hn h]
    · rw [if_neg y] at h
      have h : o = none := h
      rw [ha] at h
      exact absurd h (by simp)
/-- the row that counts tells: only what is below it goes -/
theorem wkC_keep {I : VV} {O : OO} {L : List Nat} {K own : Nat → Nat} {k v : Nat} : ∀ {l : List (Nat × Nat)} {ab o : Option Nat} {r : Nat}, Ch I O L K own k o l → (wkC O v l ab o).2 = some r → 0 < I 11 r → Ch I (u2 O 5 r none) L K own k o (drL l v)
  | [], ab, o, r, _, h, _ => by simp [wkC] at h
  | q :: l, ab, o, r, hc, h, h1 => by
    obtain ⟨a, ha, haL, haK, ho, h10, h11, hn⟩ := hc
    unfold wkC at h
    unfold drL
    by_cases y : v < q.1
    · rw [if_pos y, ha] at h
      rw [if_pos y]
      have hr := wkC_row hn h
      refine ⟨a, ha, haL, haK, ho, h10, h11, ?_⟩
      rw [u2_ni _ _ _ _ (fun z => by rw [z] at h10; omega)]
      exact wkC_keep hn h h1
    · rw [if_neg y] at h
      have h : o = some r := h
      have e : a = r := Option.some.inj (ha.symm.trans h)
      subst e
      rw [if_neg y, if_pos (by omega)]
      refine ⟨a, ha, haL, haK, ho, h10, h11, ?_⟩
      rw [u2_same]
      rfl
theorem wkC_cutA {I : VV} {O : OO} {L : List Nat} {K own : Nat → Nat} {k v : Nat} : ∀ {l : List (Nat × Nat)} {a0 b r : Nat} {o : Option Nat}, Ch I O L K own k o l → dsc l → (∀ p ∈ l, p.1 < I 10 a0) → v < I 10 a0 → O 5 a0 = o → (wkC O v l (some a0) o) = (some b, some r) → I 11 r = 0 → Ch I (u2 (u2 O 5 r none) 5 b none) L K own k (u2 (u2 O 5 r none) 5 b none 5 a0) (drL l v)
  | [], a0, b, r, o, _, _, _, _, _, h, _ => by simp [wkC] at h
  | q :: l, a0, b, r, o, hc, hd, hp, hv, h5, h, h1 => by
    obtain ⟨a, ha, haL, haK, ho, h10, h11, hn⟩ := hc
    unfold wkC at h
    unfold drL
    have hq := hp q List.mem_cons_self
    by_cases y : v < q.1
    · rw [if_pos y, ha] at h
      have h : wkC O v l (some a) (O 5 a) = (some b, some r) := h
      rw [if_pos y]
      have hpa : ∀ p ∈ l, p.1 < I 10 a := fun p h9 => by rw [h10]; exact hd.1 p h9
      have hr := wkC_row hn (show (wkC O v l (some a) (O 5 a)).2 = some r by rw [h])
      have hb := wkC_ab hn hd.2 hpa (show (wkC O v l (some a) (O 5 a)).1 = some b by rw [h])
      have ih := wkC_cutA hn hd.2 hpa (by omega) rfl h h1
      rw [u2_ni _ _ _ _ (show a0 ≠ b from fun z => by rw [z] at hq; omega), u2_ni _ _ _ _ (show a0 ≠ r from fun z => by rw [z] at hv; omega), h5]
      exact ⟨a, ha, haL, haK, ho, h10, h11, ih⟩
    · rw [if_neg y] at h
      have e1 : some a0 = some b := congrArg Prod.fst h
      have e2 : o = some r := congrArg Prod.snd h
      have e3 : a = r := Option.some.inj (ha.symm.trans e2)
      have e4 : a0 = b := Option.some.inj e1
      subst e4
      subst e3
      rw [if_neg y, if_neg (by omega), u2_same]
      rfl
/-- the row that counts doesn't tell: it goes too -/
theorem wkC_cut {I : VV} {O : OO} {L : List Nat} {K own : Nat → Nat} {k v : Nat} {l : List (Nat × Nat)} {b r : Nat} {o : Option Nat} (hc : Ch I O L K own k o l) (hd : dsc l) (h : wkC O v l none o = (some b, some r)) (h1 : I 11 r = 0) : Ch I (u2 (u2 O 5 r none) 5 b none) L K own k o (drL l v) := by
  cases l with
  | nil => simp [wkC] at h
  | cons q l =>
    obtain ⟨a, ha, haL, haK, ho, h10, h11, hn⟩ := hc
    unfold wkC at h
    unfold drL
    by_cases y : v < q.1
    · rw [if_pos y, ha] at h
      have h : wkC O v l (some a) (O 5 a) = (some b, some r) := h
      rw [if_pos y]
      exact ⟨a, ha, haL, haK, ho, h10, h11, wkC_cutA hn hd.2 (fun p h9 => by rw [h10]; exact hd.1 p h9) (by omega) rfl h h1⟩
    · rw [if_neg y] at h
      exact absurd (congrArg Prod.fst h) (by simp)
theorem wkC_top {I : VV} {O : OO} {L : List Nat} {K own : Nat → Nat} {k v : Nat} {l : List (Nat × Nat)} {r : Nat} {o : Option Nat} (hc : Ch I O L K own k o l) (h : wkC O v l none o = (none, some r)) (h1 : I 11 r = 0) : drL l v = [] := by
  cases l with
  | nil => simp [wkC] at h
  | cons q l =>
    obtain ⟨a, ha, haL, haK, ho, h10, h11, hn⟩ := hc
    unfold wkC at h
    unfold drL
    by_cases y : v < q.1
    · rw [if_pos y, ha] at h
      have h : wkC O v l (some a) (O 5 a) = (none, some r) := h
      have hh : ∀ (l : List (Nat × Nat)) (z : Nat) (o : Option Nat), Ch I O L K own k o l → (wkC O v l (some z) o).1 ≠ none := by
        intro l
        induction l with
        | nil => intro z o _; simp [wkC]
        | cons q l ih =>
          intro z o hc
          obtain ⟨a, ha, -, -, -, -, -, hn⟩ := hc
          unfold wkC
          by_cases y : v < q.1
          · rw [if_pos y, ha]
            exact ih a _ hn
          · rw [if_neg y]
            simp
      exact absurd (congrArg Prod.fst h) (hh l a _ hn)
    · rw [if_neg y] at h
      have e2 : o = some r := congrArg Prod.snd h
      have e3 : a = r := Option.some.inj (ha.symm.trans e2)
      subst e3
      rw [if_neg y, if_neg (by omega)]
