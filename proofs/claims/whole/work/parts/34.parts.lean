/-! EVEN PARTS: the most of them, group by group -/
theorem itF_congr {σ : Type} {f g : Nat → σ → σ} {s0 : σ} : ∀ {n : Nat}, (∀ i, i < n → ∀ s, f i s = g i s) → itF f s0 n = itF g s0 n := by
  intro n
  induction n with
  | zero => intro _; rfl
  | succ n ih =>
    intro h
    show f n (itF f s0 n) = g n (itF g s0 n)
    rw [ih (fun i hi => h i (by omega)), h n (by omega)]
theorem itF_stop {σ : Type} {f : Nat → σ → σ} {s0 : σ} {n : Nat} : ∀ k, (∀ i, n ≤ i → i < n + k → ∀ s, f i s = s) → itF f s0 (n + k) = itF f s0 n := by
  intro k
  induction k with
  | zero => intro _; rfl
  | succ k ih =>
    intro h
    show f (n + k) (itF f s0 (n + k)) = _
    rw [h (n + k) (by omega) (by omega), ih (fun i h1 h2 => h i h1 (by omega))]
theorem tb_bt (g p : Nat) : bt (g : Int) p = g.testBit p := rfl
theorem tb_le : ∀ g : Nat, g < 256 → ∀ p : Nat, p < 8 → g.testBit p = true → 2 ^ p ≤ g := by decide +kernel
theorem tb_sub : ∀ g : Nat, g < 256 → ∀ p : Nat, p < 8 → g.testBit p = true → ∀ q : Nat, q < 8 → (g - 2 ^ p).testBit q = (g.testBit q && !decide (q = p)) := by decide +kernel
theorem tb_add : ∀ g : Nat, g < 256 → ∀ p : Nat, p < 8 → g.testBit p = false → g + 2 ^ p < 256 ∧ ∀ q : Nat, q < 8 → (g + 2 ^ p).testBit q = (g.testBit q || decide (q = p)) := by decide +kernel
theorem tb_ext {a b : Nat} (ha : a < 256) (hb : b < 256) (h : ∀ p, p < 8 → a.testBit p = b.testBit p) : a = b := by
  refine Nat.eq_of_testBit_eq fun i => ?_
  by_cases hi : i < 8
  · exact h i hi
  · rw [Nat.testBit_lt_two_pow (Nat.lt_of_lt_of_le (by omega : a < 2 ^ 8) (Nat.pow_le_pow_right (by omega) (by omega))), Nat.testBit_lt_two_pow (Nat.lt_of_lt_of_le (by omega : b < 2 ^ 8) (Nat.pow_le_pow_right (by omega) (by omega)))]
theorem tb_some {g : Nat} (hg : g < 256) (h : g ≠ 0) : ∃ p, p < 8 ∧ g.testBit p = true := by
  refine Classical.byContradiction fun hn => h (tb_ext hg (by omega) fun p hp => ?_)
  rw [Nat.zero_testBit]
  cases hb : g.testBit p with
  | false => rfl
  | true => exact absurd ⟨p, hp, hb⟩ hn
def ns1 (w : Nat → Int) (g p : Nat) : Int := if g.testBit p = true then w p else 0
def nsum (w : Nat → Int) (g : Nat) : Int := itF (fun p s => s + ns1 w g p) 0 8
theorem nsum_0 (w : Nat → Int) : nsum w 0 = 0 := by simp [nsum, itF, ns1]
theorem nsum_sub (w : Nat → Int) {g p : Nat} (hg : g < 256) (hp : p < 8) (hb : g.testBit p = true) : nsum w (g - 2 ^ p) + w p = nsum w g := by
  have e : ∀ q, q < 8 → ns1 w (g - 2 ^ p) q = if q = p then 0 else ns1 w g q := fun q hq => by
    unfold ns1
    rw [tb_sub g hg p hp hb q hq]
    by_cases hqp : q = p
    · simp [hqp]
    · simp [hqp]
  have ep : ns1 w g p = w p := by unfold ns1; rw [if_pos hb]
  unfold nsum
  simp only [itF]
  rw [e 0 (by omega), e 1 (by omega), e 2 (by omega), e 3 (by omega), e 4 (by omega), e 5 (by omega), e 6 (by omega), e 7 (by omega), ← ep]
  have : p = 0 ∨ p = 1 ∨ p = 2 ∨ p = 3 ∨ p = 4 ∨ p = 5 ∨ p = 6 ∨ p = 7 := by omega
  rcases this with rfl | rfl | rfl | rfl | rfl | rfl | rfl | rfl <;> simp <;> omega
def mx1 (F : Nat → Int) (g p : Nat) (m : Int) : Int := if g.testBit p = true then max m (F (g - 2 ^ p)) else m
def mxN (F : Nat → Int) (g : Nat) : Nat → Int := itF (mx1 F g) 0
theorem mxN_s (F : Nat → Int) (g n : Nat) : mxN F g (n + 1) = if g.testBit n = true then max (mxN F g n) (F (g - 2 ^ n)) else mxN F g n := rfl
theorem mxN_le (F : Nat → Int) (g : Nat) : ∀ n, 0 ≤ mxN F g n ∧ ∀ p, p < n → g.testBit p = true → F (g - 2 ^ p) ≤ mxN F g n := by
  intro n
  induction n with
  | zero => exact ⟨Int.le_refl _, fun p hp => absurd hp (Nat.not_lt_zero _)⟩
  | succ n ih =>
    rw [mxN_s]
    split
    · rename_i hb
      refine ⟨by omega, fun p hp hbp => ?_⟩
      by_cases hpn : p = n
      · subst hpn; omega
      · have := ih.2 p (by omega) hbp; omega
    · rename_i hb
      refine ⟨ih.1, fun p hp hbp => ?_⟩
      by_cases hpn : p = n
      · subst hpn; exact absurd hbp hb
      · exact ih.2 p (by omega) hbp
theorem mxN_at (F : Nat → Int) (g : Nat) : ∀ n, mxN F g n = 0 ∨ ∃ p, p < n ∧ g.testBit p = true ∧ mxN F g n = F (g - 2 ^ p) := by
  intro n
  induction n with
  | zero => exact Or.inl rfl
  | succ n ih =>
    have keep : mxN F g (n + 1) = mxN F g n → mxN F g (n + 1) = 0 ∨ ∃ p, p < n + 1 ∧ g.testBit p = true ∧ mxN F g (n + 1) = F (g - 2 ^ p) := fun e => by
      rcases ih with h | ⟨p, h1, h2, h3⟩
      · exact Or.inl (e.trans h)
      · exact Or.inr ⟨p, by omega, h2, e.trans h3⟩
    by_cases hb : g.testBit n = true
    · by_cases hm : F (g - 2 ^ n) ≤ mxN F g n
      · exact keep (by rw [mxN_s, if_pos hb]; omega)
      · exact Or.inr ⟨n, by omega, hb, by rw [mxN_s, if_pos hb]; omega⟩
    · exact keep (by rw [mxN_s, if_neg hb])
theorem mxN_congr {F G : Nat → Int} {g : Nat} : ∀ {n : Nat}, (∀ p, p < n → g.testBit p = true → F (g - 2 ^ p) = G (g - 2 ^ p)) → mxN F g n = mxN G g n := by
  intro n h
  refine itF_congr fun i hi m => ?_
  unfold mx1
  split
  · rename_i hb; rw [h i hi hb]
  · rfl
theorem mxN_stop (F : Nat → Int) {g n : Nat} (h8 : n ≤ 8) (h : ∀ p, n ≤ p → g.testBit p = false) : mxN F g 8 = mxN F g n := by
  have e : 8 = n + (8 - n) := by omega
  rw [e]
  refine itF_stop _ fun i hi _ m => ?_
  unfold mx1
  rw [h i hi]
  rfl
def stS (w : Nat → Int) (g : Nat) (F : Nat → Int) : Int := mxN F g 8 + if g ≠ 0 ∧ nsum w g = 0 then 1 else 0
def Stab (w : Nat → Int) : Nat → Nat → Int := itF (fun g F => vset F g (stS w g F)) fun _ => 0
def Sg (w : Nat → Int) (g : Nat) : Int := Stab w (g + 1) g
theorem Stab_keep (w : Nat → Int) {g : Nat} : ∀ {n : Nat}, g < n → Stab w n g = Sg w g := by
  intro n
  induction n with
  | zero => intro h; omega
  | succ n ih =>
    intro h
    by_cases hg : g = n
    · subst hg; rfl
    · show vset (Stab w n) n (stS w n (Stab w n)) g = _
      unfold vset
      rw [if_neg hg]
      exact ih (by omega)
theorem Sg_rec (w : Nat → Int) {g : Nat} (hg : g < 256) : Sg w g = mxN (Sg w) g 8 + if g ≠ 0 ∧ nsum w g = 0 then 1 else 0 := by
  have e : Sg w g = stS w g (Stab w g) := by
    show vset (Stab w g) g (stS w g (Stab w g)) g = _
    unfold vset
    rw [if_pos rfl]
  rw [e]
  unfold stS
  rw [mxN_congr (G := Sg w) fun p hp hb => Stab_keep w (by have := tb_le g hg p hp hb; have := Nat.two_pow_pos p; omega)]
theorem Sg_0 (w : Nat → Int) : Sg w 0 = 0 := by
  rw [Sg_rec w (by omega), if_neg (by simp)]
  rcases mxN_at (Sg w) 0 8 with h | ⟨p, h1, h2, h3⟩
  · omega
  · rw [Nat.zero_testBit] at h2; cases h2
theorem Sg_pos (w : Nat → Int) {g : Nat} (hg : g < 256) : 0 ≤ Sg w g := by
  rw [Sg_rec w hg]
  have := (mxN_le (Sg w) g 8).1
  split <;> omega
/-- one whose net is 0 is a part of his own -/
theorem Sg_zero (w : Nat → Int) {z : Nat} (hz : z < 8) (h0 : w z = 0) : ∀ g : Nat, g < 256 → g.testBit z = false → Sg w (g + 2 ^ z) = Sg w g + 1 := by
  intro g
  induction g using Nat.strongRecOn with
  | ind g ih =>
    intro hg hb
    obtain ⟨hh, hq⟩ := tb_add g hg z hz hb
    have hbz : (g + 2 ^ z).testBit z = true := by rw [hq z hz]; simp
    have e1 : g + 2 ^ z - 2 ^ z = g := by omega
    have es : nsum w (g + 2 ^ z) = nsum w g := by
      have := nsum_sub w hh hz hbz
      rw [e1] at this
      omega
    have hne : g + 2 ^ z ≠ 0 := by have := Nat.two_pow_pos z; omega
    rw [Sg_rec w hh, es]
    by_cases hg0 : g = 0
    · subst hg0
      rw [Sg_0, nsum_0]
      have e2 : mxN (Sg w) (0 + 2 ^ z) 8 = 0 := by
        rcases mxN_at (Sg w) (0 + 2 ^ z) 8 with h | ⟨p, h1, h2, h3⟩
        · exact h
        · rw [hq p h1, Nat.zero_testBit, Bool.false_or, decide_eq_true_eq] at h2
          subst h2
          rw [h3, e1, Sg_0]
      rw [e2, if_pos ⟨hne, rfl⟩]
    · have hS := Sg_rec w hg
      have c1 : (if g + 2 ^ z ≠ 0 ∧ nsum w g = 0 then (1 : Int) else 0) = if nsum w g = 0 then 1 else 0 := ifc ⟨fun q => q.2, fun q => ⟨hne, q⟩⟩
      have c2 : (if g ≠ 0 ∧ nsum w g = 0 then (1 : Int) else 0) = if nsum w g = 0 then 1 else 0 := ifc ⟨fun q => q.2, fun q => ⟨hg0, q⟩⟩
      rw [c2] at hS
      rw [c1]
      have c01 : (if nsum w g = 0 then (1 : Int) else 0) ≤ 1 := by split <;> omega
      have eP : ∀ p, p < 8 → g.testBit p = true → Sg w (g + 2 ^ z - 2 ^ p) = Sg w (g - 2 ^ p) + 1 := fun p hp hbp => by
        have hle := tb_le g hg p hp hbp
        have hpp := Nat.two_pow_pos p
        have hpz : p ≠ z := fun e => by subst e; rw [hb] at hbp; cases hbp
        have hzz := Nat.two_pow_pos z
        have e3 : g + 2 ^ z - 2 ^ p = (g - 2 ^ p) + 2 ^ z := by omega
        rw [e3]
        refine ih (g - 2 ^ p) (by omega) (by omega) ?_
        rw [tb_sub g hg p hp hbp z hz, hb]; rfl
      have up := mxN_le (Sg w) (g + 2 ^ z) 8
      have lo := mxN_le (Sg w) g 8
      have hbg : ∀ p, p < 8 → g.testBit p = true → (g + 2 ^ z).testBit p = true := fun p hp hbp => by rw [hq p hp, hbp]; rfl
      have ge : mxN (Sg w) g 8 + 1 ≤ mxN (Sg w) (g + 2 ^ z) 8 := by
        rcases mxN_at (Sg w) g 8 with h | ⟨p, h1, h2, h3⟩
        · obtain ⟨p, h1, h2⟩ := tb_some hg hg0
          have a1 := up.2 p h1 (hbg p h1 h2)
          rw [eP p h1 h2] at a1
          have a2 := Sg_pos w (g := g - 2 ^ p) (Nat.lt_of_le_of_lt (Nat.sub_le _ _) hg)
          omega
        · have a1 := up.2 p h1 (hbg p h1 h2)
          rw [eP p h1 h2] at a1
          omega
      have le : mxN (Sg w) (g + 2 ^ z) 8 ≤ mxN (Sg w) g 8 + 1 := by
        rcases mxN_at (Sg w) (g + 2 ^ z) 8 with h | ⟨p, h1, h2, h3⟩
        · omega
        · by_cases hpz : p = z
          · subst hpz
            rw [e1] at h3
            omega
          · have hbp : g.testBit p = true := by
              rw [hq p h1] at h2
              simpa [hpz] using h2
            rw [eP p h1 hbp] at h3
            have := lo.2 p h1 hbp
            omega
      omega
/-- all together: those with no net are added one by one -/
def Dk (w : Nat → Int) (full : Nat) : Nat → Nat := itF (fun p s => if w p = 0 then s + 2 ^ p else s) full
theorem Dk_ok (w : Nat → Int) {full n : Nat} (hn : n ≤ 8) (hf : full < 256) (hb : ∀ p, p < 8 → full.testBit p = (decide (p < n) && decide (w p ≠ 0))) : ∀ k, k ≤ n → Dk w full k < 256 ∧ (∀ p, p < 8 → (Dk w full k).testBit p = (decide (p < n) && (decide (w p ≠ 0) || decide (p < k)))) ∧ Sg w (Dk w full k) = Sg w full + (k - cntN (fun p => decide (w p ≠ 0)) k : Int) := by
  intro k
  induction k with
  | zero => intro _; exact ⟨hf, fun p hp => by show full.testBit p = _; rw [hb p hp]; simp, by show Sg w full = _; rw [cntN_0]; simp⟩
  | succ k ih =>
    intro hk
    obtain ⟨h1, h2, h3⟩ := ih (by omega)
    have e : Dk w full (k + 1) = if w k = 0 then Dk w full k + 2 ^ k else Dk w full k := rfl
    rw [e, cntN_s]
    by_cases hw : w k = 0
    · have hbk : (Dk w full k).testBit k = false := by rw [h2 k (by omega)]; simp [hw]
      obtain ⟨a1, a2⟩ := tb_add _ h1 k (by omega) hbk
      rw [if_pos hw]
      refine ⟨a1, fun p hp => ?_, ?_⟩
      · rw [a2 p hp, h2 p hp]
        by_cases hpk : p = k
        · subst hpk; simp; omega
        · by_cases hpn : p < n
          · by_cases hwp : w p = 0
            · by_cases h5 : p < k
              · simp [hwp, hpk, hpn, h5]; omega
              · simp [hwp, hpk, hpn, h5]; omega
            · simp [hwp, hpk, hpn]
          · simp [hpk, hpn]
      · rw [Sg_zero w (by omega) hw _ h1 hbk, h3]
        simp [hw]
        omega
    · rw [if_neg hw]
      refine ⟨h1, fun p hp => ?_, ?_⟩
      · rw [h2 p hp]
        by_cases hpk : p = k
        · subst hpk; simp [hw]
        · have : decide (p < k + 1) = decide (p < k) := decide_eq_decide.mpr (by omega)
          rw [this]
      · rw [h3]
        simp [hw]
        omega
theorem tb_full : ∀ n : Nat, n ≤ 8 → ∀ p : Nat, p < 8 → (2 ^ n - 1).testBit p = decide (p < n) := by decide +kernel
theorem two_le256 : ∀ n : Nat, n ≤ 8 → 2 ^ n ≤ 256 := by decide +kernel
theorem parts_total (w : Nat → Int) {full n : Nat} (hn : n ≤ 8) (hf : full < 256) (hb : ∀ p, p < 8 → full.testBit p = (decide (p < n) && decide (w p ≠ 0))) : (n : Int) - Sg w (2 ^ n - 1) = (cntN (fun p => decide (w p ≠ 0)) n : Int) - Sg w full := by
  obtain ⟨h1, h2, h3⟩ := Dk_ok w hn hf hb n (Nat.le_refl _)
  have e : Dk w full n = 2 ^ n - 1 := by
    refine tb_ext h1 (by have := two_le256 n hn; omega) fun p hp => ?_
    rw [h2 p hp, tb_full n hn p hp]
    by_cases hpn : p < n <;> simp [hpn]
  rw [e] at h3
  omega
