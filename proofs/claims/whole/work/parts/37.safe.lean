/-! THE SAFEST AGES: the fewest odds of n people with k years above LEAST -/
def mnV (h : Nat → Int) (lo : Nat) : Nat → Int := itF (fun i b => min b (h (lo + i))) 100000000
theorem mnV_s (h : Nat → Int) (lo c : Nat) : mnV h lo (c + 1) = min (mnV h lo c) (h (lo + c)) := rfl
theorem mnV_le (h : Nat → Int) (lo : Nat) : ∀ c, mnV h lo c ≤ 100000000 ∧ ∀ i, i < c → mnV h lo c ≤ h (lo + i) := by
  intro c
  induction c with
  | zero => exact ⟨Int.le_refl _, fun i hi => absurd hi (Nat.not_lt_zero _)⟩
  | succ c ih =>
    rw [mnV_s]
    refine ⟨by omega, fun i hi => ?_⟩
    by_cases hic : i = c
    · subst hic; omega
    · have := ih.2 i (by omega); omega
theorem mnV_at (h : Nat → Int) (lo : Nat) : ∀ c, mnV h lo c = 100000000 ∨ ∃ i, i < c ∧ mnV h lo c = h (lo + i) := by
  intro c
  induction c with
  | zero => exact Or.inl rfl
  | succ c ih =>
    rw [mnV_s]
    by_cases hm : mnV h lo c ≤ h (lo + c)
    · have e : min (mnV h lo c) (h (lo + c)) = mnV h lo c := by omega
      rw [e]
      rcases ih with ih | ⟨i, h1, h2⟩
      · exact Or.inl ih
      · exact Or.inr ⟨i, by omega, h2⟩
    · exact Or.inr ⟨c, by omega, by omega⟩
def Vs (g : Nat → Int) (s : Nat) : Nat → Nat → Int
  | 0, k => if k = 0 then 0 else 100000000
  | n + 1, k => mnV (fun a => g a + Vs g s n (k - a)) (k - n * s) (min s k + 1 - (k - n * s))
def hV (g : Nat → Int) (s n k : Nat) (a : Nat) : Int := g a + Vs g s n (k - a)
theorem Vs_s (g : Nat → Int) (s n k : Nat) : Vs g s (n + 1) k = mnV (hV g s n k) (k - n * s) (min s k + 1 - (k - n * s)) := rfl
theorem Vs_no (g : Nat → Int) (s : Nat) {n k : Nat} (h : n * s < k) : Vs g s n k = 100000000 := by
  cases n with
  | zero =>
    rw [Nat.zero_mul] at h
    exact if_neg (by omega)
  | succ n =>
    rw [Nat.succ_mul] at h
    rw [Vs_s, show min s k + 1 - (k - n * s) = 0 by omega]
    rfl
theorem Vs_R {g : Nat → Int} {s : Nat} (hg : ∀ a, a ≤ s → 0 ≤ g a ∧ g a ≤ 100) : ∀ n k, k ≤ n * s → 0 ≤ Vs g s n k ∧ Vs g s n k ≤ 100 * (n : Int) ∨ 1000000 ≤ n := by
  intro n
  induction n with
  | zero =>
    intro k hk
    rw [Nat.zero_mul] at hk
    exact Or.inl (by rw [show Vs g s 0 k = 0 from if_pos (by omega)]; omega)
  | succ n ih =>
    intro k hk
    by_cases hn : 1000000 ≤ n + 1
    · exact Or.inr hn
    refine Or.inl ?_
    rw [Nat.succ_mul] at hk
    have hb : ∀ a, k - n * s ≤ a → a ≤ s → a ≤ k → 0 ≤ hV g s n k a ∧ hV g s n k a ≤ 100 * (n : Int) + 100 := fun a h1 h2 h3 => by
      have a1 := hg a h2
      have a2 := ih (k - a) (by omega)
      unfold hV
      omega
    rw [Vs_s]
    have a1 := (mnV_le (hV g s n k) (k - n * s) (min s k + 1 - (k - n * s))).2 0 (by omega)
    have a2 := hb (k - n * s + 0) (by omega) (by omega) (by omega)
    rcases mnV_at (hV g s n k) (k - n * s) (min s k + 1 - (k - n * s)) with a3 | ⟨i, h1, h2⟩
    · omega
    · have a4 := hb (k - n * s + i) (by omega) (by omega) (by omega)
      omega
theorem Vs_r {g : Nat → Int} {s : Nat} (hg : ∀ a, a ≤ s → 0 ≤ g a ∧ g a ≤ 100) {n k : Nat} (hn : n ≤ 8) (hk : k ≤ n * s) : 0 ≤ Vs g s n k ∧ Vs g s n k ≤ 800 := by
  have := Vs_R hg n k hk
  omega
/-- the first that is best -/
def argI (g : Nat → Int) (s n k : Nat) : Nat := (fIdx (fun i => decide (hV g s n k (k - n * s + i) = Vs g s (n + 1) k)) (min s k + 1 - (k - n * s))).getD 0
def argA (g : Nat → Int) (s n k : Nat) : Nat := k - n * s + argI g s n k
theorem argI_of {g : Nat → Int} {s n k i : Nat} (h1 : i < min s k + 1 - (k - n * s)) (h2 : hV g s n k (k - n * s + i) = Vs g s (n + 1) k) (h3 : ∀ j, j < i → hV g s n k (k - n * s + j) ≠ Vs g s (n + 1) k) : argI g s n k = i := by
  unfold argI
  rw [fIdx_at (i := i) (decide_eq_true h2) (fun j hj => decide_eq_false (h3 j hj)) h1]
  rfl
theorem argI_ok {g : Nat → Int} {s n k : Nat} (hg : ∀ a, a ≤ s → 0 ≤ g a ∧ g a ≤ 100) (hn : n < 8) (hk : k ≤ (n + 1) * s) : argI g s n k < min s k + 1 - (k - n * s) ∧ hV g s n k (argA g s n k) = Vs g s (n + 1) k ∧ ∀ j, j < argI g s n k → hV g s n k (k - n * s + j) ≠ Vs g s (n + 1) k := by
  have hr := Vs_r hg (n := n + 1) (by omega) hk
  rcases mnV_at (hV g s n k) (k - n * s) (min s k + 1 - (k - n * s)) with h | ⟨i, h1, h2⟩
  · rw [← Vs_s] at h; omega
  · unfold argA argI
    cases hf : fIdx (fun i => decide (hV g s n k (k - n * s + i) = Vs g s (n + 1) k)) (min s k + 1 - (k - n * s)) with
    | none =>
      have := fIdx_no hf i h1
      rw [decide_eq_false_iff_not] at this
      exact absurd h2.symm this
    | some j =>
      obtain ⟨b1, b2, b3⟩ := fIdx_some hf
      exact ⟨b1, of_decide_eq_true b2, fun q hq => of_decide_eq_false (b3 q hq)⟩
theorem argA_le {g : Nat → Int} {s n k : Nat} (hg : ∀ a, a ≤ s → 0 ≤ g a ∧ g a ≤ 100) (hn : n < 8) (hk : k ≤ (n + 1) * s) : argA g s n k ≤ s ∧ argA g s n k ≤ k ∧ k - argA g s n k ≤ n * s := by
  have := (argI_ok hg hn hk).1
  unfold argA
  omega
/-! of a town -/
def sfG (T : TW) (R : Nat → RL) (v : Nat → Int) (a : Nat) : Int := oddV T R v (T 0 3 + a)
def sfS (T : TW) : Nat := (T 0 4 - T 0 3).toNat
def sfA (v : Nat → Int) (p : Nat) : Bool := alv v p
def sfC (T : TW) (v : Nat → Int) : Nat := cntN (sfA v) (T 0 0).toNat
def sfY (T : TW) (v : Nat → Int) : Nat → Nat := itF (fun p y => if sfA v p = true then y + (v p - T 0 3).toNat else y) 0
def sfL (T : TW) (R : Nat → RL) (v : Nat → Int) : Nat → Nat := itF (fun p y => if sfA v p = true then y - argA (sfG T R v) (sfS T) (sfC T v - cntN (sfA v) p - 1) y else y) (sfY T v (T 0 0).toNat)
def layV (T : TW) (R : Nat → RL) (v : Nat → Int) (p : Nat) : Int := if sfA v p = true then T 0 3 + (argA (sfG T R v) (sfS T) (sfC T v - cntN (sfA v) p - 1) (sfL T R v p) : Int) else -1
def safeA (T : TW) (R : Nat → RL) (v : Nat → Int) : Int × List Int := (Vs (sfG T R v) (sfS T) (sfC T v) (sfY T v (T 0 0).toNat), (List.range (T 0 0).toNat).map (layV T R v))
theorem sfG_R (T : TW) (R : Nat → RL) (v : Nat → Int) (a : Nat) : 0 ≤ sfG T R v a ∧ sfG T R v a ≤ 100 := oddV_R T R v _
theorem sfS_R {T : TW} {R : Nat → RL} {v : Nat → Int} (ho : WO T R v) : T 0 3 + (sfS T : Int) = T 0 4 ∧ sfS T ≤ 150 := by
  have o := ho.1.1
  unfold sfS; omega
theorem sfY_s (T : TW) (v : Nat → Int) (p : Nat) : sfY T v (p + 1) = if sfA v p = true then sfY T v p + (v p - T 0 3).toNat else sfY T v p := rfl
theorem sfY_le {T : TW} {R : Nat → RL} {v : Nat → Int} (ho : WO T R v) : ∀ p, p ≤ (T 0 0).toNat → sfY T v p ≤ cntN (sfA v) p * sfS T := by
  intro p
  induction p with
  | zero => intro _; exact Nat.zero_le _
  | succ p ih =>
    intro hp
    rw [sfY_s, cntN_s]
    have h1 := ih (by omega)
    have h2 := ho.2.2.2.1 p (by omega)
    have h3 := sfS_R ho
    split
    · rw [Nat.succ_mul]; omega
    · exact h1
theorem cnt8 (v : Nat → Int) {n p : Nat} (hp : p ≤ n) : cntN (sfA v) p ≤ cntN (sfA v) n := by
  induction n with
  | zero => rw [show p = 0 by omega]; exact Nat.le_refl _
  | succ n ih =>
    by_cases h : p = n + 1
    · rw [h]; exact Nat.le_refl _
    · rw [cntN_s]; have := ih (by omega); omega
theorem sfL_s (T : TW) (R : Nat → RL) (v : Nat → Int) (p : Nat) : sfL T R v (p + 1) = if sfA v p = true then sfL T R v p - argA (sfG T R v) (sfS T) (sfC T v - cntN (sfA v) p - 1) (sfL T R v p) else sfL T R v p := rfl
/-- what is left of the years: enough, and not more than those behind can bear -/
theorem sfL_ok {T : TW} {R : Nat → RL} {v : Nat → Int} (ho : WO T R v) : ∀ p, p ≤ (T 0 0).toNat → sfL T R v p ≤ (sfC T v - cntN (sfA v) p) * sfS T ∧ sfL T R v p ≤ sfY T v (T 0 0).toNat ∧ sfY T v (T 0 0).toNat ≤ sfL T R v p + cntN (sfA v) p * sfS T := by
  have o := ho.1.1
  intro p
  induction p with
  | zero =>
    intro _
    have := sfY_le ho (T 0 0).toNat (Nat.le_refl _)
    refine ⟨?_, Nat.le_refl _, ?_⟩
    · rw [cntN_0, Nat.sub_zero]; exact this
    · rw [cntN_0, Nat.zero_mul]; exact Nat.le_refl _
  | succ p ih =>
    intro hp
    obtain ⟨h1, h2, h3⟩ := ih (by omega)
    have hc := cnt8 v hp
    have hC : cntN (sfA v) (T 0 0).toNat = sfC T v := rfl
    rw [hC] at hc
    have h8 := cntN_le (sfA v) (T 0 0).toNat
    rw [hC] at h8
    rw [sfL_s, cntN_s]
    rw [cntN_s] at hc
    by_cases ha : sfA v p = true
    · rw [if_pos ha] at hc
      rw [if_pos ha, if_pos ha]
      have e : sfC T v - cntN (sfA v) p = (sfC T v - cntN (sfA v) p - 1) + 1 := by omega
      rw [e] at h1
      have h4 := argA_le (n := sfC T v - cntN (sfA v) p - 1) (fun a _ => sfG_R T R v a) (by omega) h1
      refine ⟨?_, by omega, ?_⟩
      · rw [← Nat.sub_sub]; exact h4.2.2
      · rw [Nat.succ_mul]; omega
    · rw [if_neg ha] at hc
      rw [if_neg ha, if_neg ha]
      exact ⟨h1, h2, h3⟩
theorem mul_w {x y : Nat} (hx : x ≤ 8) (hy : y ≤ 150) : w32 ((x : Int) * (y : Int)) = ((x * y : Nat) : Int) ∧ x * y ≤ 1200 := by
  have h : x * y ≤ 8 * 150 := Nat.mul_le_mul hx hy
  have e : (x : Int) * (y : Int) = ((x * y : Nat) : Int) := (Int.natCast_mul x y).symm
  rw [e]
  exact ⟨w32e (by omega) (by omega), by omega⟩
theorem mul_1201 {x : Nat} (hx : x ≤ 8) : w32 ((x : Int) * 1201) = ((x * 1201 : Nat) : Int) ∧ w32 (1201 * (x : Int)) = ((x * 1201 : Nat) : Int) := by
  constructor
  · rw [w32e (by omega) (by omega)]; omega
  · rw [w32e (by omega) (by omega)]; omega
