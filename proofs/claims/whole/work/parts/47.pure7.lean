/-! who holds, and what was written: what stays so -/
def Gh (V : VV) : Prop := (∀ i k, i < V 16 0 → k < 200 → V 8 i < 3 → (0 < V 10 (200 * i + k) ↔ V 17 k = i + 1)) ∧ (∀ j, V 10 j ≤ 2) ∧ (∀ i, V 8 i ≤ 4) ∧ ∀ i k, V 16 0 ≤ i → k < 200 → V 10 (200 * i + k) = 0
def Gk (V : VV) : Prop := (∀ i, i < V 16 0 → V 7 i ≤ V 4 0) ∧ (∀ v, V 4 0 < v → V 5 v = 0) ∧ ∀ i, V 16 0 ≤ i → V 9 i = 0
theorem Gh.cong {V U : VV} (h : Gh V) (h8 : U 8 = V 8) (h10 : U 10 = V 10) (h16 : U 16 = V 16) (h17 : U 17 = V 17) : Gh U := by
  unfold Gh
  rw [h8, h10, h16, h17]
  exact h
theorem Gk.cong {V U : VV} (h : Gk V) (h4 : U 4 = V 4) (h5 : U 5 = V 5) (h7 : U 7 = V 7) (h9 : U 9 = V 9) (h16 : U 16 = V 16) : Gk U := by
  unfold Gk
  rw [h4, h5, h7, h9, h16]
  exact h
theorem vClr_17 (V : VV) (t k : Nat) (hk : k < 200) : vClr V t 200 17 k = if V 17 k = t + 1 then 0 else V 17 k := by
  unfold vClr
  by_cases q : V 17 k = t + 1
  · rw [if_pos ⟨rfl, hk, q⟩, if_pos q]
  · rw [if_neg (fun z => q z.2.2), if_neg q]
theorem Gh.endV {V : VV} {t z : Nat} (h : Gh V) (hz3 : 3 ≤ z) (hz : z ≤ 4) : Gh (vEnd V t z) := by
  obtain ⟨a, b, c, d⟩ := h
  have e10 : vEnd V t z 10 = V 10 := vEnd_k (by decide) (by decide) (by decide) (by decide)
  have e16 : vEnd V t z 16 = V 16 := vEnd_k (by decide) (by decide) (by decide) (by decide)
  unfold Gh
  rw [e10, e16]
  refine ⟨fun i k hi hk hl => ?_, b, fun i => ?_, d⟩
  · rw [vEnd_8] at hl
    have hne : i ≠ t := fun y => by rw [y, u2_same] at hl; omega
    rw [u2_ni _ _ _ _ hne] at hl
    rw [vEnd_17, vClr_17 V t k hk, a i k hi hk hl]
    by_cases q : V 17 k = t + 1
    · rw [if_pos q]; omega
    · rw [if_neg q]
  · rw [vEnd_8, u2_eq]
    split
    · exact hz
    · exact c i
theorem Gh.st {V U : VV} {t : Nat} (h : Gh V) (hl : V 8 t < 3) (h8 : ∀ i, i ≠ t → U 8 i = V 8 i) (h8t : U 8 t ≤ 4) (h10 : U 10 = V 10) (h16 : U 16 = V 16) (h17 : U 17 = V 17) : Gh U := by
  obtain ⟨a, b, c, d⟩ := h
  unfold Gh
  rw [h10, h16, h17]
  refine ⟨fun i k hi hk h9 => ?_, b, fun i => ?_, d⟩
  · by_cases y : i = t
    · rw [y] at hi ⊢; exact a t k hi hk hl
    · rw [h8 i y] at h9; exact a i k hi hk h9
  · by_cases y : i = t
    · rw [y]; exact h8t
    · rw [h8 i y]; exact c i
theorem vRing_ex (V : VV) (t : Nat) : vRing V t = V ∨ ∃ W w, W = vTk (vLk V t 60 t 0) (u2 V 22 0 0) t ∧ vRing V t = vEnd W w 4 := by
  unfold vRing
  by_cases q : vLk V t 60 t 0 = 0
  · rw [if_pos q]; exact Or.inl rfl
  · rw [if_neg q]
    exact Or.inr ⟨_, _, rfl, rfl⟩
theorem vTk2_k (V : VV) (n t : Nat) {b : Nat} (h1 : b ≠ 21) (h2 : b ≠ 22) : vTk n (u2 V 22 0 0) t b = V b := by
  rw [vTk_k n _ t b h1 h2]
  simp only [u2, if_neg h2]
theorem Gh.ringV {V : VV} {t : Nat} (h : Gh V) : Gh (vRing V t) := by
  rcases vRing_ex V t with e | ⟨W, w, hW, e⟩
  · rw [e]; exact h
  · rw [e]
    refine Gh.endV ?_ (by decide) (by decide)
    rw [hW]
    exact h.cong (vTk2_k V _ t (by decide) (by decide)) (vTk2_k V _ t (by decide) (by decide)) (vTk2_k V _ t (by decide) (by decide)) (vTk2_k V _ t (by decide) (by decide))
theorem vWt_8 (V : VV) (t k b i : Nat) : vWt (u2 (u2 V 11 t 0) 8 t 0) t k b 8 i = if i = t then 1 else V 8 i := by
  unfold vWt
  simp [u2_eq]
  by_cases y : i = t <;> simp [y]
theorem Gh.wrV {V : VV} {t k b : Nat} (h : Gh V) (ht : t < V 16 0) (hl : V 8 t < 3) (hk : k < 200) (hb : b ≤ 1) : Gh (vWr V t k b) := by
  unfold vWr
  split
  · exact h.st hl (fun i hi => by simp [u2_eq, hi]) (by simp [u2_eq]) rfl rfl rfl
  · split
    · refine Gh.ringV (h.st hl (fun i hi => ?_) ?_ rfl rfl rfl)
      · rw [vWt_8, if_neg hi]
      · rw [vWt_8, if_pos rfl]; decide
    · rename_i h17
      obtain ⟨a, hb2, c, d⟩ := h
      have e8 : ∀ i, u2 (u2 (u2 (u2 V 11 t 0) 8 t 0) 17 k (t + 1)) 10 (200 * t + k) (b + 1) 8 i = if i = t then 0 else V 8 i := fun i => by simp [u2_eq]
      have e17 : ∀ j, u2 (u2 (u2 (u2 V 11 t 0) 8 t 0) 17 k (t + 1)) 10 (200 * t + k) (b + 1) 17 j = if j = k then t + 1 else V 17 j := fun j => by simp [u2_eq]
      have e10 : ∀ j, u2 (u2 (u2 (u2 V 11 t 0) 8 t 0) 17 k (t + 1)) 10 (200 * t + k) (b + 1) 10 j = if j = 200 * t + k then b + 1 else V 10 j := fun j => by simp [u2_eq]
      have e16 : u2 (u2 (u2 (u2 V 11 t 0) 8 t 0) 17 k (t + 1)) 10 (200 * t + k) (b + 1) 16 0 = V 16 0 := rfl
      unfold Gh
      rw [e16]
      refine ⟨fun i j hi hj h9 => ?_, fun j => ?_, fun i => ?_, fun i j hi hj => ?_⟩
      · rw [e8] at h9
        rw [e10, e17]
        by_cases y : i = t
        · subst y
          by_cases z : j = k
          · subst z; rw [if_pos rfl, if_pos rfl]; omega
          · rw [if_neg (by omega), if_neg z]; exact a i j hi hj hl
        · rw [if_neg y] at h9
          rw [if_neg (by omega), a i j hi hj h9]
          by_cases z : j = k
          · subst z; rw [if_pos rfl]; omega
          · rw [if_neg z]
      · rw [e10]
        split
        · omega
        · exact hb2 j
      · rw [e8]
        split
        · omega
        · exact c i
      · rw [e10, if_neg (by omega)]
        exact d i j hi hj
/-- the queue worked off: what each write keeps -/
theorem vGo_ind {P : VV → Prop} (hs : ∀ V z, P V → P (u2 V 19 0 z)) (hs2 : ∀ V z, P V → P (u2 V 20 0 z)) (hw : ∀ V t k b, P V → t < V 16 0 → V 8 t = 1 → k < 200 → b ≤ 1 → P (vWr V t k b)) : ∀ f V, Iv V → P V → P (vGo f V)
  | 0, V, _, h => h
  | f + 1, V, hI, h => by
    unfold vGo
    by_cases q : V 19 0 < V 20 0
    · rw [if_pos q]
      refine vGo_ind hs hs2 hw f (vGo1 V) (hI.go1 q) ?_
      unfold vGo1
      by_cases q8 : V 8 (V 18 (V 19 0)) = 1
      · rw [if_pos q8]
        have ht := hI.2.2.2.1 (V 19 0) (Nat.le_refl _) q
        have h9 := hI.2.1 _ ht q8
        exact hw (u2 V 19 0 (V 19 0 + 1)) _ _ _ (hs V _ h) ht q8 h9.2.2.1 h9.2.2.2
      · rw [if_neg q8]
        exact hs V _ h
    · rw [if_neg q]
      exact hs2 _ _ (hs V _ h)
theorem Gh.goA {V : VV} (h : Gh V) (hI : Iv V) : Gh (vGoA V) := vGo_ind (P := Gh) (fun V z h => h.cong rfl rfl rfl rfl) (fun V z h => h.cong rfl rfl rfl rfl) (fun V t k b h h1 h2 h3 h4 => h.wrV h1 (by omega) h3 h4) 3601 V hI h
/-- a write commits nobody -/
theorem vWr_3 {V : VV} {t k b i : Nat} (h : vWr V t k b 8 i = 3) : V 8 i = 3 := by
  unfold vWr at h
  split at h
  · simp only [u2_eq] at h
    by_cases y : i = t
    · simp [y] at h
    · simp [y] at h; exact h
  · split at h
    · have key : ∀ j, vWt (u2 (u2 V 11 t 0) 8 t 0) t k b 8 j = 3 → V 8 j = 3 := fun j hj => by
        rw [vWt_8] at hj
        split at hj
        · omega
        · exact hj
      rcases vRing_ex (vWt (u2 (u2 V 11 t 0) 8 t 0) t k b) t with e | ⟨W, w, hW, e⟩
      · rw [e] at h; exact key i h
      · rw [e, vEnd_8, u2_eq] at h
        split at h
        · omega
        · rw [hW, vTk2_k _ _ t (by decide) (by decide)] at h
          exact key i h
    · simp only [u2_eq] at h
      by_cases y : i = t
      · simp [y] at h
      · simp [y] at h; exact h
theorem vGoA_3 {V : VV} {i : Nat} (hI : Iv V) (h : vGoA V 8 i = 3) : V 8 i = 3 :=
  vGo_ind (P := fun U => U 8 i = 3 → V 8 i = 3) (fun _ _ h => h) (fun _ _ h => h) (fun U t k b h _ _ _ _ h9 => h (vWr_3 h9)) 3601 V hI id h
/-- one that has ended stays so, and its writes stay -/
theorem vWr_end {V : VV} {t k b e : Nat} (he : 3 ≤ V 8 e) (hl : V 8 t < 3) (hk : k < 200) : 3 ≤ vWr V t k b 8 e ∧ ∀ j, j < 200 → vWr V t k b 10 (200 * e + j) = V 10 (200 * e + j) := by
  have hne : e ≠ t := fun y => by rw [y] at he; omega
  unfold vWr
  split
  · exact ⟨by simp [u2_eq, hne]; exact he, fun j hj => rfl⟩
  · split
    · have k8 : 3 ≤ vWt (u2 (u2 V 11 t 0) 8 t 0) t k b 8 e := by rw [vWt_8, if_neg hne]; exact he
      rcases vRing_ex (vWt (u2 (u2 V 11 t 0) 8 t 0) t k b) t with x | ⟨W, w, hW, x⟩
      · rw [x]; exact ⟨k8, fun j hj => rfl⟩
      · rw [x]
        refine ⟨?_, fun j hj => ?_⟩
        · rw [vEnd_8, u2_eq]
          split
          · decide
          · rw [hW, vTk2_k _ _ t (by decide) (by decide)]; exact k8
        · rw [vEnd_k (by decide) (by decide) (by decide) (by decide), hW, vTk2_k _ _ t (by decide) (by decide)]
          rfl
    · refine ⟨by simp [u2_eq, hne]; exact he, fun j hj => ?_⟩
      rw [u2_ni _ _ _ _ (by omega)]
      rfl
theorem vGoA_end {V : VV} {e : Nat} (hI : Iv V) (he : 3 ≤ V 8 e) : 3 ≤ vGoA V 8 e ∧ ∀ j, j < 200 → vGoA V 10 (200 * e + j) = V 10 (200 * e + j) :=
  vGo_ind (P := fun U => 3 ≤ U 8 e ∧ ∀ j, j < 200 → U 10 (200 * e + j) = V 10 (200 * e + j)) (fun _ _ h => h) (fun _ _ h => h) (fun U t k b h _ h8 hk _ => by
    have h9 := vWr_end (b := b) h.1 (show U 8 t < 3 by omega) hk
    exact ⟨h9.1, fun j hj => (h9.2 j hj).trans (h.2 j hj)⟩) 3601 V hI ⟨he, fun _ _ => rfl⟩
theorem vWc_cong {V U : VV} {t : Nat} : ∀ n, n ≤ 200 → (∀ j, j < 200 → U 10 (200 * t + j) = V 10 (200 * t + j)) → vWc U t n = vWc V t n
  | 0, _, _ => rfl
  | n + 1, hn, h => by
    unfold vWc
    rw [vWc_cong n (by omega) h, h n (by omega)]
theorem Iv.same {V U : VV} (h : Iv V) (h3 : U 3 0 ≤ V 3 0) (h4 : U 4 = V 4) (h8 : U 8 = V 8) (h9 : ∀ j, U 9 j < 16) (h11 : U 11 = V 11) (h12 : U 12 = V 12) (h13 : U 13 = V 13) (h16 : U 16 = V 16) (h17 : U 17 = V 17) (h18 : U 18 = V 18) (h19 : U 19 = V 19) (h20 : U 20 = V 20) (h22 : U 22 = V 22) : Iv U := by
  obtain ⟨a, b, c, d, e, f, g, r, l, o⟩ := h
  have eC : cE U (V 16 0) = cE V (V 16 0) := cE_cong fun i _ => by rw [h8]
  unfold Iv
  rw [h16, h11, h12, h13, h8, h17, h18, h19, h20, h22, eC, h4]
  exact ⟨a, b, c, d, e, f, g, by omega, l, h9⟩
/-! all that holds between two calls -/
def Inv (V : VV) : Prop := Iv V ∧ Rw V ∧ Gh V ∧ Gk V ∧ V 19 0 = V 20 0
theorem Inv.jq {V : VV} (h : Inv V) : Jq V := ⟨fun j h1 h2 => by have := h.2.2.2.2; omega, fun i j h1 h2 h3 => by have := h.2.2.2.2; omega⟩
theorem Inv.noq {V : VV} (h : Inv V) (t : Nat) : ∀ j, V 19 0 ≤ j → j < V 20 0 → V 18 j ≠ t := fun j h1 h2 => by have := h.2.2.2.2; omega
theorem Inv.thrown {V : VV} (h : Inv V) (c : Nat) : Inv (u2 V 25 0 c) := by
  obtain ⟨a, b, d, e, f⟩ := h
  exact ⟨a.same (Nat.le_refl _) rfl rfl a.2.2.2.2.2.2.2.2.2 rfl rfl rfl rfl rfl rfl rfl rfl rfl, b.cong rfl rfl rfl rfl rfl, d.cong rfl rfl rfl rfl, e.cong rfl rfl rfl rfl rfl, f⟩
theorem Gk.of {V U : VV} (h : Gk V) (hk : ∀ b, b = 4 ∨ b = 5 ∨ b = 7 ∨ b = 9 ∨ b = 16 → U b = V b) : Gk U := h.cong (hk 4 (by decide)) (hk 5 (by decide)) (hk 7 (by decide)) (hk 9 (by decide)) (hk 16 (by decide))
theorem Inv.putV {V : VV} {t k b : Nat} (h : Inv V) (ht : t < V 16 0) (hl : V 8 t < 3) (hk : k < 200) (hb : b ≤ 1) : Inv (vGoA (vWr V t k b)) := by
  obtain ⟨hI, hR, hG, hK, hq⟩ := h
  have hI2 := hI.wrV ht hl hk hb
  obtain ⟨hI3, z1, z2⟩ := hI2.goA
  have ek : ∀ x, x ≤ 7 ∨ x = 9 ∨ x = 16 ∨ x = 24 → vGoA (vWr V t k b) x = V x := fun x hx => by
    rw [vGoA_k _ hx, vWr_k V t k b (by omega)]
  exact ⟨hI3, hR.cong (ek 0 (by decide)) (ek 1 (by decide)) (ek 2 (by decide)) (ek 3 (by decide)) (ek 4 (by decide)), (hG.wrV ht hl hk hb).goA hI2, hK.of (fun x hx => ek x (by omega)), by rw [z1, z2]⟩
theorem Inv.endA {V U : VV} {t z : Nat} (h : Inv V) (hz3 : 3 ≤ z) (hz : z ≤ 4) (hIE : Iv (vEnd U t z)) (hRU : Rw U) (hU : ∀ b, 5 ≤ b → b ≠ 24 → U b = V b) (h4 : V 4 0 ≤ U 4 0) : Inv (vGoA (vEnd U t z)) := by
  obtain ⟨hI, hR, hG, hK, hq⟩ := h
  obtain ⟨hI3, z1, z2⟩ := hIE.goA
  have ek : ∀ x, x ≤ 7 ∨ x = 9 ∨ x = 16 ∨ x = 24 → vGoA (vEnd U t z) x = U x := fun x hx => by
    rw [vGoA_k _ hx, vEnd_k (by omega) (by omega) (by omega) (by omega)]
  have hGU : Gh U := hG.cong (hU 8 (by decide) (by decide)) (hU 10 (by decide) (by decide)) (hU 16 (by decide) (by decide)) (hU 17 (by decide) (by decide))
  refine ⟨hI3, hRU.cong (ek 0 (by decide)) (ek 1 (by decide)) (ek 2 (by decide)) (ek 3 (by decide)) (ek 4 (by decide)), (hGU.endV hz3 hz).goA hIE, ?_, by rw [z1, z2]⟩
  unfold Gk
  rw [ek 4 (by decide), ek 5 (by decide), ek 7 (by decide), ek 9 (by decide), ek 16 (by decide), hU 5 (by decide) (by decide), hU 7 (by decide) (by decide), hU 9 (by decide) (by decide), hU 16 (by decide) (by decide)]
  exact ⟨fun i hi => Nat.le_trans (hK.1 i hi) h4, fun v hv => hK.2.1 v (by omega), hK.2.2⟩
theorem Inv.abortV {V : VV} {t : Nat} (h : Inv V) (ht : t < V 16 0) (hl : V 8 t < 3) : Inv (vGoA (vEnd V t 4)) := h.endA (by decide) (by decide) (h.1.endV ht hl (by decide)) h.2.1 (fun _ _ _ => rfl) (Nat.le_refl _)
theorem vRef_k (V : VV) (t : Nat) {b : Nat} (h : b ≠ 24) : vRef V t b = V b := by
  unfold vRef
  split
  · rfl
  · simp only [u2, if_neg h]
theorem Inv.refuseV {V : VV} {t : Nat} (h : Inv V) (ht : t < V 16 0) (hl : V 8 t < 3) : Inv (vGoA (vEnd (vRef V t) t 4)) := by
  have e : ∀ b, b ≠ 24 → vRef V t b = V b := fun b hb => vRef_k V t hb
  refine h.endA (by decide) (by decide) ((h.1.refV).endV (by rw [e 16 (by decide)]; exact ht) (by rw [e 8 (by decide)]; exact hl) (by decide)) (h.2.1.cong (e 0 (by decide)) (e 1 (by decide)) (e 2 (by decide)) (e 3 (by decide)) (e 4 (by decide))) (fun b _ hb => e b hb) (by rw [e 4 (by decide)]; exact Nat.le_refl _)
theorem vRwA_4 (V : VV) (t : Nat) : V 4 0 ≤ vRwA V t 4 0 := by
  unfold vRwA
  split
  · rw [vRws_k V t _ (by decide) (by decide) (by decide) (by decide)]; exact Nat.le_refl _
  · rw [u2_same]; omega
theorem Inv.commitV {V : VV} {t : Nat} (h : Inv V) (ht : t < V 16 0) (hl : V 8 t < 3) : Inv (vGoA (vEnd (vRwA V t) t 3)) := h.endA (by decide) (by decide) (h.1.commitV ht hl) h.2.1.rwA (fun b hb _ => vRwA_k V t (by omega) (by omega) (by omega) (by omega) (by omega)) (vRwA_4 V t)
theorem Inv.pinV {V : VV} {j v : Nat} (h : Inv V) (hj : j ≤ V 4 0) : Inv (u2 V 5 j v) := by
  obtain ⟨a, b, d, e, f⟩ := h
  refine ⟨a.same (Nat.le_refl _) rfl rfl a.2.2.2.2.2.2.2.2.2 rfl rfl rfl rfl rfl rfl rfl rfl rfl, b.cong rfl rfl rfl rfl rfl, d.cong rfl rfl rfl rfl, ⟨e.1, fun w hw => ?_, e.2.2⟩, f⟩
  have hw : V 4 0 < w := hw
  rw [u2_ni _ _ _ _ (by omega)]
  exact e.2.1 w hw
theorem Inv.noteV {V : VV} {t v : Nat} (h : Inv V) (ht : t < V 16 0) (hv : v < 16) : Inv (u2 V 9 t v) := by
  obtain ⟨a, b, d, e, f⟩ := h
  refine ⟨a.same (Nat.le_refl _) rfl rfl (fun j => ?_) rfl rfl rfl rfl rfl rfl rfl rfl rfl, b.cong rfl rfl rfl rfl rfl, d.cong rfl rfl rfl rfl, ⟨e.1, e.2.1, fun i hi => ?_⟩, f⟩
  · rw [u2_eq]
    split
    · exact hv
    · exact a.2.2.2.2.2.2.2.2.2 j
  · have hi : V 16 0 ≤ i := hi
    rw [u2_ni _ _ _ _ (by omega)]
    exact e.2.2 i hi
theorem Inv.freeV {V : VV} (h : Inv V) : Inv (vFree V) := by
  obtain ⟨a, b, d, e, f⟩ := h
  have ek : ∀ x, x ≠ 0 → x ≠ 1 → x ≠ 2 → x ≠ 3 → x ≠ 26 → vFree V x = V x := fun x h0 h1 h2 h3 h4 => vFree_k V h0 h1 h2 h3 h4
  have e9 := ek 9 (by decide) (by decide) (by decide) (by decide) (by decide)
  have h3 : vFree V 3 0 ≤ V 3 0 := by
    unfold vFree
    rw [u2_same]
    exact vFk_le _ _
  refine ⟨a.same h3 ?_ ?_ (by rw [e9]; exact a.2.2.2.2.2.2.2.2.2) ?_ ?_ ?_ ?_ ?_ ?_ ?_ ?_ ?_, b.free, d.cong ?_ ?_ ?_ ?_, e.cong ?_ ?_ ?_ ?_ ?_, by rw [ek 19 (by decide) (by decide) (by decide) (by decide) (by decide), ek 20 (by decide) (by decide) (by decide) (by decide) (by decide)]; exact f⟩
  all_goals (refine ek _ ?_ ?_ ?_ ?_ ?_ <;> decide)
theorem Inv.startV {V : VV} {b v : Nat} (h : Inv V) (hc : V 16 0 < 60) (hv : v ≤ V 4 0) : Inv (vStart V b v) := by
  obtain ⟨hI, hR, hG, hK, hq⟩ := h
  obtain ⟨x1, x2, x3, x4, x5, x6, x7, x8, x9, x10⟩ := hI
  have e8 : ∀ i, vStart V b v 8 i = if i = V 16 0 then 0 else V 8 i := fun i => by unfold vStart; simp [u2_eq]
  have e7 : ∀ i, vStart V b v 7 i = if i = V 16 0 then v else V 7 i := fun i => by unfold vStart; simp [u2_eq]
  have e11 : ∀ i, vStart V b v 11 i = if i = V 16 0 then 0 else V 11 i := fun i => by unfold vStart; simp [u2_eq]
  have e16 : vStart V b v 16 0 = V 16 0 + 1 := by unfold vStart; rw [u2_same]
  have eC : cE (vStart V b v) (V 16 0 + 1) = cE V (V 16 0) := by
    have h1 : cE (vStart V b v) (V 16 0) = cE V (V 16 0) := cE_cong fun i hi => by rw [e8, if_neg (by omega)]
    have h2 : cE (vStart V b v) (V 16 0 + 1) = cE (vStart V b v) (V 16 0) := by
      unfold cE
      show ct _ (V 16 0) + (if decide (3 ≤ vStart V b v 8 (V 16 0)) = true then 1 else 0) = _
      rw [e8, if_pos rfl]
      rfl
    rw [h2, h1]
  refine ⟨?_, hR.cong rfl rfl rfl rfl rfl, ?_, ?_, hq⟩
  · unfold Iv
    rw [e16, eC]
    refine ⟨by omega, fun i hi h1 => ?_, fun k hk => Nat.le_succ_of_le (x3 k hk), fun j h1 h2 => Nat.lt_succ_of_lt (x4 j h1 h2), x5, x6, x7, x8, x9, x10⟩
    rw [e8] at h1
    split at h1
    · omega
    · rename_i hne
      have h9 := x2 i (by omega) h1
      rw [e11, if_neg hne]
      exact ⟨h9.1, Nat.le_succ_of_le h9.2.1, h9.2.2⟩
  · obtain ⟨a, c, d, f⟩ := hG
    unfold Gh
    rw [e16]
    refine ⟨fun i k hi hk hl => ?_, c, fun i => ?_, fun i k hi hk => f i k (by omega) hk⟩
    · show 0 < V 10 (200 * i + k) ↔ V 17 k = i + 1
      by_cases y : i = V 16 0
      · have h1 := f i k (by omega) hk
        have h2 := x3 k hk
        omega
      · rw [e8, if_neg y] at hl
        exact a i k (by omega) hk hl
    · rw [e8]
      split
      · omega
      · exact d i
  · unfold Gk
    rw [e16]
    refine ⟨fun i hi => ?_, hK.2.1, fun i hi => hK.2.2 i (by omega)⟩
    show vStart V b v 7 i ≤ V 4 0
    rw [e7]
    split
    · exact hv
    · exact hK.1 i (by omega)
