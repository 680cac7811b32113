/-! YEAR BY YEAR from whom it costs least -/
def nr1 (w : Nat → Int) (r : Nat → Nat) (o : Nat) (s : Int × Int) : Int × Int := if 0 < r o ∧ w o < s.1 then (w o, (o : Int)) else s
def nrO (w : Nat → Int) (r : Nat → Nat) : Nat → Int × Int := itF (nr1 w r) (100000000, -1)
theorem nrO_s (w : Nat → Int) (r : Nat → Nat) (n : Nat) : nrO w r (n + 1) = if 0 < r n ∧ w n < (nrO w r n).1 then (w n, (n : Int)) else nrO w r n := rfl
def isB (w : Nat → Int) (r : Nat → Nat) (n o : Nat) : Prop := o < n ∧ 0 < r o ∧ w o < 100000000 ∧ ∀ q, q < n → 0 < r q → w o ≤ w q ∧ (q < o → w o < w q)
theorem nrO_ok (w : Nat → Int) (r : Nat → Nat) : ∀ n, (nrO w r n = (100000000, -1) ∧ ∀ o, o < n → 0 < r o → 100000000 ≤ w o) ∨ ∃ o, nrO w r n = (w o, (o : Int)) ∧ isB w r n o := by
  intro n
  induction n with
  | zero => exact Or.inl ⟨rfl, fun o ho => absurd ho (Nat.not_lt_zero _)⟩
  | succ n ih =>
    rw [nrO_s]
    rcases ih with ⟨h1, h2⟩ | ⟨o, h1, h2, h3, h4, h5⟩
    · rw [h1]
      by_cases hc : 0 < r n ∧ w n < 100000000
      · rw [if_pos hc]
        refine Or.inr ⟨n, rfl, by omega, hc.1, hc.2, fun q hq hr => ?_⟩
        by_cases hqn : q = n
        · subst hqn; omega
        · have := h2 q (by omega) hr; omega
      · rw [if_neg hc]
        refine Or.inl ⟨rfl, fun o ho hr => ?_⟩
        by_cases hon : o = n
        · subst hon; omega
        · exact h2 o (by omega) hr
    · rw [h1]
      by_cases hc : 0 < r n ∧ w n < w o
      · rw [if_pos hc]
        refine Or.inr ⟨n, rfl, by omega, hc.1, by omega, fun q hq hr => ?_⟩
        by_cases hqn : q = n
        · subst hqn; omega
        · have := h5 q (by omega) hr; omega
      · rw [if_neg hc]
        refine Or.inr ⟨o, rfl, by omega, h3, h4, fun q hq hr => ?_⟩
        by_cases hqn : q = n
        · subst hqn; omega
        · exact h5 q (by omega) hr
def bestO (w : Nat → Int) (r : Nat → Nat) : Option Nat := if (nrO w r 8).2 = -1 then none else some (nrO w r 8).2.toNat
theorem bestO_some {w : Nat → Int} {r : Nat → Nat} {o : Nat} (h : bestO w r = some o) : isB w r 8 o ∧ (nrO w r 8).2 = (o : Int) := by
  unfold bestO at h
  rcases nrO_ok w r 8 with ⟨h1, h2⟩ | ⟨q, h1, h2⟩
  · rw [h1, if_pos rfl] at h; cases h
  · rw [h1] at h ⊢
    rw [if_neg (by show ¬ (q : Int) = -1; omega)] at h
    have e : (q : Int).toNat = o := Option.some.inj h
    rw [Int.toNat_natCast] at e
    subst e
    exact ⟨h2, rfl⟩
theorem bestO_none {w : Nat → Int} {r : Nat → Nat} (h : bestO w r = none) : (nrO w r 8).2 = -1 ∧ ∀ o, o < 8 → 0 < r o → 100000000 ≤ w o := by
  unfold bestO at h
  rcases nrO_ok w r 8 with ⟨h1, h2⟩ | ⟨q, h1, h2⟩
  · exact ⟨by rw [h1], h2⟩
  · rw [h1, if_neg (by show ¬ (q : Int) = -1; omega)] at h; cases h
theorem bestO_of {w : Nat → Int} {r : Nat → Nat} {o : Nat} (h : isB w r 8 o) : bestO w r = some o := by
  cases hb : bestO w r with
  | none =>
    have := (bestO_none hb).2 o h.1 h.2.1
    have := h.2.2.1
    omega
  | some q =>
    obtain ⟨g, _⟩ := bestO_some hb
    have a1 := h.2.2.2 q g.1 g.2.1
    have a2 := g.2.2.2 o h.1 h.2.1
    have : q = o := by omega
    rw [this]
def decR (r : Nat → Nat) (o t : Nat) : Nat → Nat := fun q => if q = o then r q - t else r q
def stepR (w : Nat → Int) (s : Int × (Nat → Nat)) : Option (Int × (Nat → Nat)) := match bestO w s.2 with
  | none => none
  | some o => some (s.1 + w o, decR s.2 o 1)
def fwS (w : Nat → Int) (c : Nat → Nat) : Nat → Option (Int × (Nat → Nat))
  | 0 => some (0, c)
  | i + 1 => (fwS w c i).bind (stepR w)
theorem fwS_s (w : Nat → Int) (c : Nat → Nat) (i : Nat) : fwS w c (i + 1) = (fwS w c i).bind (stepR w) := rfl
theorem fw_many {w : Nat → Int} {c r : Nat → Nat} {i o : Nat} {x : Int} (h : fwS w c i = some (x, r)) (ho : o < 8) (hw : w o < 100000000) (hm : ∀ q, q < 8 → 0 < r q → w o ≤ w q ∧ (q < o → w o < w q)) : ∀ t, t ≤ r o → fwS w c (i + t) = some (x + (t : Int) * w o, decR r o t) := by
  intro t
  induction t with
  | zero =>
    intro _
    rw [Nat.add_zero, h]
    congr 2
    · simp
    · funext q; unfold decR; split <;> simp
  | succ t ih =>
    intro ht
    rw [← Nat.add_assoc, fwS_s, ih (by omega)]
    show stepR w _ = _
    unfold stepR
    have hb : bestO w (decR r o t) = some o := bestO_of ⟨ho, by unfold decR; rw [if_pos rfl]; omega, hw, fun q hq hr => hm q hq (by unfold decR at hr; split at hr <;> omega)⟩
    dsimp only
    rw [hb]
    dsimp only
    congr 2
    · rw [show ((t + 1 : Nat) : Int) = (t : Int) + 1 by omega, Int.add_mul]; omega
    · funext q
      unfold decR
      split
      · omega
      · rfl
def capN (w : Nat → Int) (r : Nat → Nat) : Nat → Nat := itF (fun q s => if w q < 100000000 then s + r q else s) 0
theorem capN_s (w : Nat → Int) (r : Nat → Nat) (n : Nat) : capN w r (n + 1) = if w n < 100000000 then capN w r n + r n else capN w r n := rfl
theorem capN_dec {w : Nat → Int} {r : Nat → Nat} {o : Nat} (h0 : 0 < r o) (hw : w o < 100000000) : ∀ n, capN w (decR r o 1) n + (if o < n then 1 else 0) = capN w r n := by
  intro n
  induction n with
  | zero => rfl
  | succ n ih =>
    rw [capN_s, capN_s]
    have e : decR r o 1 n = if n = o then r n - 1 else r n := rfl
    rw [e]
    by_cases hno : n = o
    · subst hno
      rw [if_neg (by omega)] at ih
      rw [if_pos hw, if_pos hw, if_pos rfl, if_pos (by omega)]
      omega
    · rw [if_neg hno]
      have e2 : (if o < n + 1 then 1 else 0) = (if o < n then 1 else 0 : Nat) := ifc (by omega)
      rw [e2]
      split <;> omega
theorem capN_0 {w : Nat → Int} {r : Nat → Nat} : ∀ n, (∀ o, o < n → 0 < r o → 100000000 ≤ w o) → capN w r n = 0 := by
  intro n
  induction n with
  | zero => intro _; rfl
  | succ n ih =>
    intro h
    rw [capN_s, ih (fun o ho => h o (by omega))]
    split
    · rename_i hw
      by_cases hr : 0 < r n
      · have := h n (by omega) hr; omega
      · omega
    · rfl
theorem fw_cap (w : Nat → Int) (c : Nat → Nat) : ∀ i, (capN w c 8 < i ∧ fwS w c i = none) ∨ (i ≤ capN w c 8 ∧ ∃ s, fwS w c i = some s ∧ capN w s.2 8 + i = capN w c 8) := by
  intro i
  induction i with
  | zero => exact Or.inr ⟨Nat.zero_le _, (0, c), rfl, rfl⟩
  | succ i ih =>
    rcases ih with ⟨h1, h2⟩ | ⟨h1, s, h2, h3⟩
    · exact Or.inl ⟨by omega, by rw [fwS_s, h2]; rfl⟩
    · have e : fwS w c (i + 1) = stepR w s := by rw [fwS_s, h2]; rfl
      rw [e]
      unfold stepR
      cases hb : bestO w s.2 with
      | none =>
        have := capN_0 8 (bestO_none hb).2
        exact Or.inl ⟨by omega, rfl⟩
      | some o =>
        obtain ⟨g, _⟩ := bestO_some hb
        have := capN_dec g.2.1 g.2.2.1 8
        rw [if_pos g.1] at this
        exact Or.inr ⟨by omega, _, rfl, by dsimp only; omega⟩
theorem fw_R {w : Nat → Int} (hw : ∀ o, 0 ≤ w o ∧ (w o ≤ 25344 ∨ w o = 100000000)) (c : Nat → Nat) : ∀ i s, fwS w c i = some s → (0 ≤ s.1 ∧ s.1 ≤ 25344 * (i : Int)) ∧ ∀ o, s.2 o ≤ c o := by
  intro i
  induction i with
  | zero => intro s h; cases h; exact ⟨by dsimp only; omega, fun o => Nat.le_refl _⟩
  | succ i ih =>
    intro s h
    rw [fwS_s] at h
    cases hf : fwS w c i with
    | none => rw [hf] at h; cases h
    | some t =>
      rw [hf] at h
      have h' : stepR w t = some s := h
      unfold stepR at h'
      obtain ⟨g1, g2⟩ := ih t hf
      cases hb : bestO w t.2 with
      | none => rw [hb] at h'; cases h'
      | some o =>
        rw [hb] at h'
        have e := Option.some.inj h'
        obtain ⟨g, _⟩ := bestO_some hb
        have a1 := hw o
        have a2 := g.2.2.1
        rw [← e]
        refine ⟨by dsimp only; omega, fun q => ?_⟩
        have := g2 q
        dsimp only
        unfold decR
        split <;> omega
def feeV (w : Nat → Int) (c : Nat → Nat) (i : Nat) : Int := match fwS w c i with
  | some s => s.1
  | none => 100000000
theorem feeV_0 (w : Nat → Int) (c : Nat → Nat) : feeV w c 0 = 0 := rfl
theorem feeV_some {w : Nat → Int} {c : Nat → Nat} {i : Nat} {s : Int × (Nat → Nat)} (h : fwS w c i = some s) : feeV w c i = s.1 := by unfold feeV; rw [h]
theorem feeV_none {w : Nat → Int} {c : Nat → Nat} {i : Nat} (h : fwS w c i = none) : feeV w c i = 100000000 := by unfold feeV; rw [h]
theorem fwS_none {w : Nat → Int} {c : Nat → Nat} {i : Nat} (h : fwS w c i = none) : ∀ j, fwS w c (i + j) = none := by
  intro j
  induction j with
  | zero => exact h
  | succ j ih => rw [← Nat.add_assoc, fwS_s, ih]; rfl
theorem feeV_lt {w : Nat → Int} (hw : ∀ o, 0 ≤ w o ∧ (w o ≤ 25344 ∨ w o = 100000000)) (c : Nat → Nat) {i : Nat} (hi : i ≤ 150) : 0 ≤ feeV w c i ∧ feeV w c i ≤ 100000000 ∧ (feeV w c i < 100000000 ↔ i ≤ capN w c 8) := by
  rcases fw_cap w c i with ⟨h1, h2⟩ | ⟨h1, s, h2, h3⟩
  · rw [feeV_none h2]; omega
  · rw [feeV_some h2]
    have := (fw_R hw c i s h2).1
    omega
/-! of a town -/
def wF (T : TW) (v : Nat → Int) (up : Bool) (p o : Nat) : Int := if up = true then rdK T v 8 o p else rdK T v 8 p o
def cF (T : TW) (v : Nat → Int) (up : Bool) (p o : Nat) : Nat := if sfA v o = true ∧ o ≠ p then (if up = true then (v o - T 0 3).toNat else (T 0 4 - v o).toNat) else 0
theorem wF_R {T : TW} {R : Nat → RL} (hT : okT T R) (v : Nat → Int) (up : Bool) (p o : Nat) : 0 ≤ wF T v up p o ∧ (wF T v up p o ≤ 25344 ∨ wF T v up p o = 100000000) := by
  unfold wF
  split
  · have := rdK_8 hT v o p; omega
  · have := rdK_8 hT v p o; omega
theorem sfA_lt {T : TW} {v : Nat → Int} (hS : okS T v) {o : Nat} (h : sfA v o = true) : (o : Int) < T 0 0 := (alv_R hS h).2
theorem cF_R {T : TW} {R : Nat → RL} {v : Nat → Int} (ho : WO T R v) (up : Bool) (p o : Nat) : cF T v up p o ≤ 150 := by
  have o' := ho.1.1
  unfold cF
  split
  · rename_i h
    have := ho.2.2.2.1 o (sfA_lt ho.2 h.1)
    split <;> omega
  · omega
def feeA (T : TW) (v : Nat → Int) (p : Nat) (a : Int) : Int := if v p ≤ a then feeV (wF T v true p) (cF T v true p) (a - v p).toNat else feeV (wF T v false p) (cF T v false p) (v p - a).toNat
