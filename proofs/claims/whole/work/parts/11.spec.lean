/-! what the calls mean, over numbers: V k i is place i of the reference's field k (holders, waitsFor, best: one more, 0 for none) -/
abbrev VV : Type := Nat → Nat → Nat
def BdN (V : VV) (N : Nat) : Prop := ∀ k i, V k i < N
theorem bd {V : VV} {N : Nat} (hB : BdN V N) (hN : N ≤ 2 ^ 30) (k i : Nat) : V k i < 2 ^ 31 := Nat.lt_trans (Nat.lt_of_lt_of_le (hB k i) hN) (by decide)
theorem BdN.up {V : VV} {N k i v : Nat} (h : BdN V N) (hv : v < N) : BdN (u2 V k i v) N := fun a b => by
  rw [u2_eq]
  by_cases q : a = k ∧ b = i
  · rw [if_pos q]; exact hv
  · rw [if_neg q]; exact h a b
theorem BdN.mono {V : VV} {N M : Nat} (h : BdN V N) (hM : N ≤ M) : BdN V M := fun a b => Nat.lt_of_lt_of_le (h a b) hM
/-- the row that counts, and one; 0 where there is none -/
def vRow (V : VV) (t v : Nat) : Nat → Nat
  | 0 => 0
  | k + 1 => if V 0 k = t ∧ V 1 k ≤ v ∧ (vRow V t v k = 0 ∨ V 1 (vRow V t v k - 1) < V 1 k) then k + 1 else vRow V t v k
def vThere (V : VV) (t v : Nat) : Prop := 0 < vRow V t v (V 3 0) ∧ 0 < V 2 (vRow V t v (V 3 0) - 1)
def vAb (V : VV) (t v : Nat) : Nat → Bool
  | 0 => false
  | k + 1 => vAb V t v k || (decide (V 0 k = t) && decide (v < V 1 k))
def vLT (V : VV) : Nat → Nat
  | 0 => V 4 0
  | k + 1 => if V 8 k < 3 ∧ V 7 k < vLT V k then V 7 k else vLT V k
def vLP (V : VV) : Nat → Nat
  | 0 => vLT V (V 16 0)
  | k + 1 => if 0 < V 5 k ∧ k < vLP V k then k else vLP V k
def vLK (V : VV) : Nat := vLP V 64
/-- one ends: it holds nothing -/
def vClr (V : VV) (t n : Nat) : VV := fun k i => if k = 17 ∧ i < n ∧ V 17 i = t + 1 then 0 else V k i
/-- the next that waits for t, from since lp on, and one; 0 where there is none -/
def vNx (V : VV) (t lp : Nat) : Nat → Nat
  | 0 => 0
  | k + 1 => if V 8 k = 1 ∧ V 11 k = t + 1 ∧ lp ≤ V 14 k ∧ (vNx V t lp k = 0 ∨ V 14 k < V 14 (vNx V t lp k - 1)) then k + 1 else vNx V t lp k
def vPush (V : VV) (w : Nat) : VV := u2 (u2 V 18 (V 20 0) w) 20 0 (V 20 0 + 1)
def vEnq : Nat → VV → Nat → Nat → VV
  | 0, V, _, _ => V
  | f + 1, V, t, lp => if vNx V t lp (V 16 0) = 0 then V else vEnq f (vPush V (vNx V t lp (V 16 0) - 1)) t (V 14 (vNx V t lp (V 16 0) - 1) + 1)
def vEnd (V : VV) (t s : Nat) : VV := vEnq 61 (vClr (u2 V 8 t s) t 200) t 0
/-- the way back to t from a, n steps gone: how many in all; 0 where it isn't come to -/
def vLk (V : VV) (t : Nat) : Nat → Nat → Nat → Nat
  | 0, _, _ => 0
  | f + 1, a, n => if V 8 a = 1 then (if V 11 a - 1 = t then n + 1 else vLk V t f (V 11 a - 1) (n + 1)) else 0
def vIns (x : Nat) : Nat → VV → VV
  | 0, V => u2 V 21 0 x
  | k + 1, V => if x < V 21 k then vIns x k (u2 V 21 (k + 1) (V 21 k)) else u2 V 21 (k + 1) x
def vTk : Nat → VV → Nat → VV
  | 0, V, _ => V
  | k + 1, V, a => vTk k (u2 (vIns a (V 22 0) V) 22 0 (V 22 0 + 1)) (V 11 a - 1)
def vTake (V : VV) (t n : Nat) : VV := vEnd (vTk n (u2 V 22 0 0) t) (vTk n (u2 V 22 0 0) t 21 (n - 1)) 4
def vRing (V : VV) (t : Nat) : VV := if vLk V t 60 t 0 = 0 then V else vTake V t (vLk V t 60 t 0)
def vWt (V : VV) (t k b : Nat) : VV := u2 (u2 (u2 (u2 (u2 (u2 V 8 t 1) 11 t (V 17 k)) 12 t k) 13 t b) 14 t (V 15 0)) 15 0 (V 15 0 + 1)
def vWr (V : VV) (t k b : Nat) : VV :=
  if vAb V k (V 7 t) (V 3 0) = true then u2 (u2 (u2 (u2 V 11 t 0) 8 t 0) 8 t 2) 23 k (V 23 k + 1)
  else if 0 < V 17 k ∧ V 17 k ≠ t + 1 then vRing (vWt (u2 (u2 V 11 t 0) 8 t 0) t k b) t
  else u2 (u2 (u2 (u2 V 11 t 0) 8 t 0) 17 k (t + 1)) 10 (200 * t + k) (b + 1)
def vGo1 (V : VV) : VV := if V 8 (V 18 (V 19 0)) = 1 then vWr (u2 V 19 0 (V 19 0 + 1)) (V 18 (V 19 0)) (V 12 (V 18 (V 19 0))) (V 13 (V 18 (V 19 0))) else u2 V 19 0 (V 19 0 + 1)
def vGo : Nat → VV → VV
  | 0, V => V
  | f + 1, V => if V 19 0 < V 20 0 then vGo f (vGo1 V) else u2 (u2 V 19 0 0) 20 0 0
def vGoA (V : VV) : VV := vGo 3601 V
def vWc (V : VV) (t : Nat) : Nat → Nat
  | 0 => 0
  | k + 1 => vWc V t k + (if 0 < V 10 (200 * t + k) then 1 else 0)
def vAny (V : VV) (lo v : Nat) : Nat → Bool
  | 0 => false
  | k + 1 => vAny V lo v k || vAb V (lo + k) v (V 3 0)
def vBit (x g : Nat) : Nat := x / 2 ^ g % 2
/-- the least noted graph from g on that has changed, and one; 0 where there is none -/
def vCh (V : VV) (t : Nat) : Nat → Nat → Nat
  | 0, _ => 0
  | f + 1, g => if vBit (V 9 t) g = 1 ∧ vAny V (50 * g) (V 7 t) 50 = true then g + 1 else vCh V t f (g + 1)
/-- one more transaction -/
def vStart (V : VV) (b v : Nat) : VV := u2 (u2 (u2 (u2 (u2 V 6 (V 16 0) b) 7 (V 16 0) v) 8 (V 16 0) 0) 11 (V 16 0) 0) 16 0 (V 16 0 + 1)
/-- a row that a commit makes -/
def vAdd1 (V : VV) (k nx b : Nat) : VV := u2 (u2 (u2 (u2 V 0 (V 3 0) k) 1 (V 3 0) nx) 2 (V 3 0) b) 3 0 (V 3 0 + 1)
def vChg (V : VV) (t k : Nat) : Prop := 0 < V 10 (200 * t + k) ∧ ¬ (V 10 (200 * t + k) = 2 ↔ vThere V k (V 7 t))
/-- where a place of a row lies behind the rows that go -/
def vGoes (V : VV) (k : Nat) : Prop := V 1 k + 1 < V 26 (V 0 k) ∨ (V 1 k + 1 = V 26 (V 0 k) ∧ V 2 k = 0)
def MC (l : Launch) (y : MethodName) (wy : List Cond) (rm : Room) (D : va_G) (g : Nat → ClassId) (A : Nat → Prop) (xm : Nat → Nat) (av : List Value) (V : VV) (Qm : Option Value → VV → Prop) : Prop :=
  Met l y wy rm (kPre D (tyG g) A av (mW g xm V)) (kPost D (tyG g) A (fun r w => ∃ V', w = mW g xm V' ∧ Qm r V')) 0 0 A
theorem g_callM {p : Program} {l : Launch} {e : Env} {R : Room} {s : State} {m : MethodId} {args : Array Value} {below : List Frame} {meth : Method} {c : Code} {Q : State → Prop} {cc : ByteArray} {nL : Nat} {Ts : List Cond} {own : String} {D : va_G} {A : Nat → Prop} {H0 : Heap} {ret : Option FieldType} {cells slots pc : Nat} {lv : List (Nat × Value)} {st : List Value} {g : Nat → ClassId} {xm : Nat → Nat} {V : VV}
    (C : CX p s m args meth c cc nL Ts own D (tyG g) A H0 ret) {y : MethodName} {wy wy' : List Cond} {rm : Room} {maxL index n : Nat} {bytes : ByteArray} {rt : Option FieldType} {As rest : List Value} {Qm : Option Value → VV → Prop}
    (hM : MC l y wy rm D g A xm (Value.ref (xm 0) :: As) V Qm) (hG : GoodIn Ts (wsV own index RX3 y wy)) (hd : decode cc pc = .ok (.invokevirtual index, 3)) (hw : wy = Cond.code y bytes maxL rt :: wy') (hrc : rm.cells = 0) (hrs : rm.slots = 0)
    (hdy : y.cls = RX3 ∧ y.cls ≠ "java/lang/invoke/MethodHandle" ∧ y.cls ≠ "java/lang/invoke/VarHandle" ∧ (parseMethodDescriptor y.desc).map (fun d => d.parameters.length) = some n) (hR : rm.frames + 1 ≤ R.frames ∧ 8 + (maxL + 11) + rm.locals ≤ R.locals)
    (hn : As.length = n) (hst : st = As.reverse ++ .ref (xm 0) :: rest) (hcat : (rest.map fun v => v.category).sum ≤ 8) (hf : cells ≤ R.cells ∧ slots ≤ R.slots)
    (kk : ∀ (r : Option Value) (V' : VV), Qm r V' → GG p l e R s m args below meth c Q nL D A H0 (mW g xm V') cells slots (pc + 3) lv (r.toList ++ rest)) : GG p l e R s m args below meth c Q nL D A H0 (mW g xm V) cells slots pc lv st :=
  g_callV C (Cl := RX3) (ci := 3) hM hG hw hrc hrs hdy hR (List.mem_of_getElem? (i := 0) rfl) rfl rfl hn hst hcat hd hf (fun r w hq => by
    obtain ⟨V', rfl, hq⟩ := hq
    exact kk r V' hq)
theorem vAb_iff (V : VV) (t v : Nat) : ∀ n, vAb V t v n = true ↔ ∃ k, k < n ∧ V 0 k = t ∧ v < V 1 k
  | 0 => by
    unfold vAb
    exact ⟨fun h => by simp at h, fun ⟨k, h, _⟩ => by omega⟩
  | n + 1 => by
    unfold vAb
    rw [Bool.or_eq_true, vAb_iff V t v n, Bool.and_eq_true, decide_eq_true_eq, decide_eq_true_eq]
    constructor
    · rintro (⟨k, h1, h2⟩ | h)
      · exact ⟨k, by omega, h2⟩
      · exact ⟨n, by omega, h⟩
    · rintro ⟨k, h1, h2⟩
      rcases (show k < n ∨ k = n by omega) with h | h
      · exact Or.inl ⟨k, h, h2⟩
      · subst h; exact Or.inr h2
theorem vAb_true {V : VV} {t v k n : Nat} (h1 : k < n) (h2 : V 0 k = t) (h3 : v < V 1 k) : vAb V t v n = true := (vAb_iff V t v n).mpr ⟨k, h1, h2, h3⟩
theorem vRow_le (V : VV) (t v : Nat) : ∀ n, vRow V t v n ≤ n
  | 0 => Nat.le_refl _
  | n + 1 => by
    unfold vRow
    split
    · exact Nat.le_refl _
    · exact Nat.le_succ_of_le (vRow_le V t v n)
