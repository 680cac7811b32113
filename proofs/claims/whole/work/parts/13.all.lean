/-! ONE GIVES ALL -/
def bst (L : Nat → Nat) : Nat → Option Nat := itF (fun p b => if L p = 0 then b else match b with
  | none => some p
  | some q => if L p < L q then some p else some q) none
theorem bst_s (L : Nat → Nat) (p : Nat) : bst L (p + 1) = if L p = 0 then bst L p else match bst L p with
  | none => some p
  | some q => if L p < L q then some p else some q := rfl
theorem bst_none {L : Nat → Nat} : ∀ {n : Nat}, bst L n = none → ∀ p, p < n → L p = 0 := by
  intro n
  induction n with
  | zero => intro _ p h; omega
  | succ n ih =>
    intro h p hp
    rw [bst_s] at h
    by_cases hz : L n = 0
    · rw [if_pos hz] at h
      by_cases hpn : p = n
      · subst hpn; exact hz
      · exact ih h p (by omega)
    · rw [if_neg hz] at h
      cases hb : bst L n with
      | none => rw [hb] at h; cases h
      | some q => rw [hb] at h; dsimp only at h; split at h <;> cases h
theorem bst_some {L : Nat → Nat} : ∀ {n q : Nat}, bst L n = some q → q < n ∧ L q ≠ 0 ∧ ∀ p, p < n → L p ≠ 0 → L q ≤ L p := by
  intro n
  induction n with
  | zero => intro q h; cases h
  | succ n ih =>
    intro q h
    rw [bst_s] at h
    by_cases hz : L n = 0
    · rw [if_pos hz] at h
      obtain ⟨a, b, c⟩ := ih h
      refine ⟨by omega, b, fun p hp hp0 => ?_⟩
      by_cases hpn : p = n
      · subst hpn; exact absurd hz hp0
      · exact c p (by omega) hp0
    · rw [if_neg hz] at h
      cases hb : bst L n with
      | none =>
        rw [hb] at h
        cases h
        refine ⟨by omega, hz, fun p hp hp0 => ?_⟩
        by_cases hpn : p = n
        · subst hpn; exact Nat.le_refl _
        · exact absurd (bst_none hb p (by omega)) hp0
      | some k =>
        rw [hb] at h
        obtain ⟨a, b, c⟩ := ih hb
        dsimp only at h
        by_cases hlt : L n < L k
        · rw [if_pos hlt] at h
          cases h
          refine ⟨by omega, hz, fun p hp hp0 => ?_⟩
          by_cases hpn : p = n
          · subst hpn; exact Nat.le_refl _
          · have := c p (by omega) hp0; omega
        · rw [if_neg hlt] at h
          cases h
          refine ⟨by omega, b, fun p hp hp0 => ?_⟩
          by_cases hpn : p = n
          · subst hpn; omega
          · exact c p (by omega) hp0
theorem bst_more {L : Nat → Nat} {n : Nat} (h : ∀ p, n ≤ p → L p = 0) : ∀ k, bst L (n + k) = bst L n := by
  intro k
  induction k with
  | zero => rfl
  | succ k ih => rw [← Nat.add_assoc, bst_s, if_pos (h _ (by omega)), ih]
/-- as the first side looks: no more than left -/
def cst (L : Nat → Nat) (left : Int) : Nat → Int × Int := itF (fun p s => if L p ≠ 0 ∧ (L p : Int) ≤ s.2 - 1 then ((p : Int), (L p : Int)) else s) (-1, left + 1)
theorem cst_s (L : Nat → Nat) (left : Int) (p : Nat) : cst L left (p + 1) = if L p ≠ 0 ∧ (L p : Int) ≤ (cst L left p).2 - 1 then ((p : Int), (L p : Int)) else cst L left p := rfl
theorem cst_bst (L : Nat → Nat) (left : Int) : ∀ n, cst L left n = match bst L n with
  | none => (-1, left + 1)
  | some q => if (L q : Int) ≤ left then ((q : Int), (L q : Int)) else (-1, left + 1) := by
  intro n
  induction n with
  | zero => rfl
  | succ n ih =>
    rw [cst_s, bst_s]
    generalize cst L left n = z at ih ⊢
    by_cases hz : L n = 0
    · rw [if_pos hz, if_neg (fun q => q.1 hz)]; exact ih
    · rw [if_neg hz]
      cases hb : bst L n with
      | none =>
        rw [hb] at ih
        dsimp only at ih ⊢
        subst ih
        dsimp only
        by_cases hl : (L n : Int) ≤ left
        · rw [if_pos ⟨hz, by omega⟩, if_pos hl]
        · rw [if_neg (fun q => hl (by have := q.2; omega)), if_neg hl]
      | some k =>
        rw [hb] at ih
        dsimp only at ih ⊢
        by_cases hk : (L k : Int) ≤ left
        · rw [if_pos hk] at ih
          subst ih
          dsimp only
          by_cases hlt : L n < L k
          · rw [if_pos ⟨hz, by omega⟩, if_pos hlt]
            dsimp only
            rw [if_pos (by omega)]
          · rw [if_neg (fun q => hlt (by have := q.2; omega)), if_neg hlt]
            dsimp only
            rw [if_pos hk]
        · rw [if_neg hk] at ih
          subst ih
          dsimp only
          by_cases hlt : L n < L k
          · rw [if_pos hlt]
            dsimp only
            by_cases hl : (L n : Int) ≤ left
            · rw [if_pos ⟨hz, by omega⟩, if_pos hl]
            · rw [if_neg (fun q => hl (by have := q.2; omega)), if_neg hl]
          · rw [if_neg hlt]
            dsimp only
            rw [if_neg (fun q => by have := q.2; omega), if_neg hk]
abbrev AS : Type := (Nat → Nat) × Int × List Int
def astp (s : AS) : AS := match bst s.1 8 with
  | none => s
  | some q => if (s.1 q : Int) ≤ s.2.1 then (fun p => if p = q then 0 else s.1 p, s.2.1 - s.1 q, s.2.2 ++ [(q : Int)]) else s
def ait (L : Nat → Nat) (left : Int) : Nat → AS := itF (fun _ s => astp s) (L, left, [])
def astop (s : AS) : Prop := ∀ q, bst s.1 8 = some q → s.2.1 < (s.1 q : Int)
theorem astp_stop {s : AS} (h : astop s) : astp s = s := by
  unfold astp
  cases hb : bst s.1 8 with
  | none => rfl
  | some q => dsimp only; rw [if_neg (by have := h q hb; omega)]
theorem astp_go {s : AS} {q : Nat} (h : bst s.1 8 = some q) (h2 : (s.1 q : Int) ≤ s.2.1) : astp s = (fun p => if p = q then 0 else s.1 p, s.2.1 - s.1 q, s.2.2 ++ [(q : Int)]) := by
  unfold astp
  rw [h]
  dsimp only
  rw [if_pos h2]
theorem astop_or (s : AS) : astop s ∨ ∃ q, bst s.1 8 = some q ∧ (s.1 q : Int) ≤ s.2.1 := by
  cases hb : bst s.1 8 with
  | none => exact Or.inl (fun q hq => by rw [hb] at hq; cases hq)
  | some q =>
    by_cases h : (s.1 q : Int) ≤ s.2.1
    · exact Or.inr ⟨q, rfl, h⟩
    · refine Or.inl (fun k hk => ?_)
      rw [hb] at hk
      cases hk
      omega
def acnt (L : Nat → Nat) : Nat := cntN (fun p => decide (L p ≠ 0)) 8
theorem cnt_drop {L : Nat → Nat} {q : Nat} (hL : L q ≠ 0) : ∀ n, cntN (fun p => decide ((if p = q then 0 else L p) ≠ 0)) n + (if q < n then 1 else 0) = cntN (fun p => decide (L p ≠ 0)) n := by
  intro n
  induction n with
  | zero => rfl
  | succ n ih =>
    rw [cntN_s, cntN_s]
    by_cases hq : n = q
    · have e1 : decide ((if n = q then 0 else L n) ≠ 0) = false := by simp [hq]
      have e2 : decide (L n ≠ 0) = true := by subst hq; simp [hL]
      rw [e1, e2]
      rw [if_neg (by omega : ¬ q < n)] at ih
      rw [if_pos (by omega : q < n + 1)]
      simp only [Bool.false_eq_true, if_false, if_true]
      omega
    · have e1 : decide ((if n = q then 0 else L n) ≠ 0) = decide (L n ≠ 0) := by simp [hq]
      have e3 : (if q < n + 1 then 1 else 0) = (if q < n then 1 else 0 : Nat) := ifc (by omega)
      rw [e1, e3]
      omega
theorem acnt_0 {L : Nat → Nat} (h : acnt L = 0) : bst L 8 = none := by
  cases hb : bst L 8 with
  | none => rfl
  | some q =>
    obtain ⟨a, b, -⟩ := bst_some hb
    have := cntN_none h q a
    rw [decide_eq_true b] at this
    cases this
/-- what the rounds keep -/
def aok (n : Nat) (L0 : Nat → Nat) (left : Int) (k : Nat) (s : AS) : Prop :=
  (astop s ∨ acnt s.1 + k ≤ n) ∧ s.2.2.length ≤ k ∧ 0 ≤ s.2.1 ∧ s.2.1 ≤ left ∧ (∀ p, s.1 p = 0 ∨ s.1 p = L0 p) ∧ (astop s ∨ k < n ∧ s.2.2.length < n)
theorem cnt_le_n {L : Nat → Nat} {n : Nat} (hn : n ≤ 8) (h : ∀ p, n ≤ p → L p = 0) : acnt L ≤ n := by
  have e : (fun p => decide (L p ≠ 0)) = fun p => decide (p < n) && decide (L p ≠ 0) := by
    funext p
    by_cases hp : p < n
    · simp [hp]
    · simp [h p (by omega)]
  unfold acnt
  rw [e, show 8 = n + (8 - n) by omega, cntN_lt]
  exact cntN_le _ _
theorem ait_ok {n : Nat} {L0 : Nat → Nat} {left : Int} (hn : n ≤ 8) (h : ∀ p, n ≤ p → L0 p = 0) (hl : 0 ≤ left) : ∀ k, aok n L0 left k (ait L0 left k) := by
  have key : ∀ k s, (astop s ∨ acnt s.1 + k ≤ n) → s.2.2.length ≤ k → (astop s ∨ k < n ∧ s.2.2.length < n) := by
    intro k s h1 h2
    rcases h1 with h1 | h1
    · exact Or.inl h1
    · by_cases hc : acnt s.1 = 0
      · refine Or.inl (fun q hq => ?_)
        rw [acnt_0 hc] at hq; cases hq
      · exact Or.inr ⟨by omega, by omega⟩
  intro k
  induction k with
  | zero =>
    have h1 : astop (ait L0 left 0) ∨ acnt (ait L0 left 0).1 + 0 ≤ n := Or.inr (by have := cnt_le_n hn h; exact this)
    exact ⟨h1, Nat.le_refl 0, hl, Int.le_refl _, fun p => Or.inr rfl, key _ _ h1 (Nat.le_refl 0)⟩
  | succ k ih =>
    obtain ⟨h1, h2, h3, h4, h5, h6⟩ := ih
    show aok n L0 left (k + 1) (astp (ait L0 left k))
    rcases astop_or (ait L0 left k) with hs | ⟨q, hq, hle⟩
    · rw [astp_stop hs]
      exact ⟨Or.inl hs, by omega, h3, h4, h5, Or.inl hs⟩
    · obtain ⟨b1, b2, b3⟩ := bst_some hq
      have hns : ¬ astop (ait L0 left k) := fun hs => by have := hs q hq; omega
      rw [astp_go hq hle]
      have hc : acnt (ait L0 left k).1 + k ≤ n := h1.resolve_left hns
      have hd := cnt_drop b2 8
      rw [if_pos b1] at hd
      have h1' : astop (fun p => if p = q then 0 else (ait L0 left k).1 p, (ait L0 left k).2.1 - (ait L0 left k).1 q, (ait L0 left k).2.2 ++ [(q : Int)]) ∨ acnt (fun p => if p = q then 0 else (ait L0 left k).1 p) + (k + 1) ≤ n := Or.inr (by unfold acnt at hc ⊢; dsimp only; omega)
      have h2' : ((ait L0 left k).2.2 ++ [(q : Int)]).length ≤ k + 1 := by simp; omega
      refine ⟨h1', h2', by dsimp only; omega, by dsimp only; omega, fun p => ?_, key _ _ h1' h2'⟩
      dsimp only
      by_cases hp : p = q
      · rw [if_pos hp]; exact Or.inl rfl
      · rw [if_neg hp]; exact h5 p
theorem ait_stay {L0 : Nat → Nat} {left : Int} {k : Nat} (h : astop (ait L0 left k)) : ∀ j, ait L0 left (k + j) = ait L0 left k := by
  intro j
  induction j with
  | zero => rfl
  | succ j ih =>
    show astp (ait L0 left (k + j)) = _
    rw [ih, astp_stop h]
theorem ait_same {L0 : Nat → Nat} {left : Int} {j k : Nat} (h : astop (ait L0 left k)) (h2 : astop (ait L0 left j)) : ait L0 left k = ait L0 left j := by
  rcases Nat.le_total k j with hkj | hkj
  · rw [show j = k + (j - k) by omega, ait_stay h]
  · rw [show k = j + (k - j) by omega, ait_stay h2]
/-! -/
def lack0 (T : TW) (R : Nat → RL) (v : Nat → Int) (p0 r : Int) (p : Nat) : Nat := if (p : Int) < T 0 0 ∧ (frdV T p0 p).isSome = true then fewA T R v p r 150 else 0
theorem fewA_le {T : TW} {R : Nat → RL} {v : Nat → Int} (ho : WO T R v) {p r B : Int} (hB : B ≤ 150) (hp0 : 0 ≤ p) (hp1 : p < T 0 0) : fewA T R v p r B = if (fewA T R v p r 150 : Int) ≤ B then fewA T R v p r 150 else 0 := by
  have o := ho.1.1
  have ag := ho.2.2.2.1 p.toNat (by omega)
  unfold fewA
  by_cases hc : alv v p = true ∧ hasV T R v p r (v p.toNat) = 0
  · rw [if_pos hc, if_pos hc]
    unfold fewV
    have e : fewN T v p B ≤ fewN T v p 150 := by unfold fewN; omega
    rw [firstN_le e]
    by_cases hz : firstN (hasB T R v p r) (fewN T v p 150) = 0
    · rw [hz]; simp
    · have h1 := (firstN_spec hz).2.1
      generalize firstN (hasB T R v p r) (fewN T v p 150) = z at h1 hz ⊢
      unfold fewN at h1 ⊢
      exact ifc (by omega)
  · rw [if_neg hc, if_neg hc]; simp
theorem fewA_150 {T : TW} {R : Nat → RL} {v : Nat → Int} {p r : Int} : fewA T R v p r 150 ≤ 150 := by
  unfold fewA
  split
  · unfold fewV
    by_cases hz : firstN (hasB T R v p r) (fewN T v p 150) = 0
    · omega
    · have h1 := (firstN_spec hz).2.1
      unfold fewN at h1 ⊢
      omega
  · omega
def allV (T : TW) (R : Nat → RL) (v : Nat → Int) (p r : Int) : Nat → AS := ait (lack0 T R v p r) (v p.toNat - T 0 3)
def allA (T : TW) (R : Nat → RL) (v : Nat → Int) (p r : Int) : Int × List Int := if alv v p = true ∧ (0 ≤ r ∧ r < T 0 2) then (((allV T R v p r 8).2.2.length : Int), (allV T R v p r 8).2.2) else (-1, [])
theorem lack0_hi {T : TW} {R : Nat → RL} {v : Nat → Int} {p0 r : Int} {p : Nat} (h : (T 0 0).toNat ≤ p) : lack0 T R v p0 r p = 0 := by
  unfold lack0
  rw [if_neg (fun q => by have := q.1; omega)]
theorem X_cheapestToServe {T : TW} {R : Nat → RL} {v : Nat → Int} {M : KM} (h : WC T R v M) (ho : WO T R v) {p0 r left sv : Int} {L : Nat → Nat} (hl : 0 ≤ left) (hl2 : left ≤ 150) (hs0 : 0 ≤ sv) (hs1 : sv < 256) (hL : ∀ p, p < 8 → L p = if bt sv p = true then 0 else lack0 T R v p0 r p) (hL2 : ∀ p, (T 0 0).toNat ≤ p → L p = 0) :
    Ret (f_X_cheapestToServe p0 r left sv M) (fun q => q.1 = (match bst L 8 with | none => -1 | some k => if (L k : Int) ≤ left then (k : Int) else -1) ∧ Fp pV M q.2) := by
  have o := ho.1.1
  have eb : bst L 8 = bst L (T 0 0).toNat := by
    rw [show 8 = (T 0 0).toNat + (8 - (T 0 0).toNat) by omega]
    exact bst_more hL2 _
  unfold f_X_cheapestToServe
  rw [w32e (by omega) (by omega), letI_e]
  refine Ret.bind (R := fun q => q.1 = (cst L left (T 0 0).toNat).1 ∧ Fp pV M q.2) (Ret.loop (T 0 0).toNat (fun p s => s.1 = (cst L left p).1 ∧ s.2.1 = (cst L left p).2 ∧ s.2.2.1 = (p : Int) ∧ Fp pV M s.2.2.2) ⟨rfl, rfl, rfl, Fp.rf⟩ ?_ ?_) ?_
  · rintro p s hp ⟨h1, h2, h3, h4⟩
    have hp' : (p : Int) < T 0 0 := by omega
    have w1 := h.v h4
    have hcl : (cst L left p).2 ≤ left + 1 ∧ 0 ≤ (cst L left p).2 := by
      rw [cst_bst]
      cases bst L p with
      | none => dsimp only; omega
      | some k => dsimp only; split <;> dsimp only <;> omega
    rw [h3]
    refine Ret.t (by rw [w1.n]; exact hp') ?_
    rw [isInV_bt hs0 (by omega), Int.toNat_natCast, X_friendsOf w1 ho, ob_some, h2, w32e (n := (cst L left p).2 - 1) (by omega) (by omega), w32e (n := (p : Int) + 1) (by omega) (by omega)]
    refine Ret.bind (R := fun q => q.1 = (cst L left (p + 1)).1 ∧ q.2.1 = (cst L left (p + 1)).2 ∧ Fp pV M q.2.2) ?_ ?_
    · have hLp := hL p (by omega)
      rw [cst_s]
      by_cases hb : bt sv p = true
      · rw [if_pos hb] at hLp
        have hc1 : 0 ≤ (p : Int) ∧ bt sv p = true := ⟨by omega, hb⟩
        have hc2 : ¬ (L p ≠ 0 ∧ (L p : Int) ≤ (cst L left p).2 - 1) := fun q => q.1 hLp
        rw [if_pos hc1, if_neg hc2]
        exact Ret.f (by omega) (Ret.pure ⟨h1, rfl, h4⟩)
      · rw [if_neg hb] at hLp
        have hc1 : ¬ (0 ≤ (p : Int) ∧ bt sv p = true) := fun q => hb q.2
        rw [if_neg hc1]
        refine Ret.t rfl ?_
        unfold frdI
        cases hf : frdV T p0 p with
        | none =>
          have hz : L p = 0 := by
            rw [hLp]; unfold lack0; rw [hf, if_neg (fun q => by cases q.2)]
          have hc2 : ¬ (L p ≠ 0 ∧ (L p : Int) ≤ (cst L left p).2 - 1) := fun q => q.1 hz
          rw [if_neg hc2]
          exact Ret.t rfl (Ret.pure ⟨h1, rfl, h4⟩)
        | some f =>
          have hz : L p = fewA T R v p r 150 := by
            rw [hLp]; unfold lack0; rw [hf, if_pos ⟨hp', rfl⟩]
          dsimp only
          refine Ret.f (by omega) (Ret.bind (X_fewest w1 ho _ _ (by omega)) ?_)
          rintro q ⟨g1, g2⟩
          rw [fewA_le ho (by omega) (by omega) hp', ← hz] at g1
          by_cases hc : L p ≠ 0 ∧ (L p : Int) ≤ (cst L left p).2 - 1
          · rw [if_pos hc.2] at g1
            rw [if_pos hc]
            exact Ret.f (by omega) (Ret.pure ⟨rfl, g1, h4.tr g2⟩)
          · rw [if_neg hc]
            refine Ret.t ?_ (Ret.pure ⟨h1, rfl, h4.tr g2⟩)
            rw [g1]
            split
            · omega
            · omega
    · rintro q ⟨g1, g2, g3⟩
      exact Ret.pure ⟨g1, g2, by dsimp only; omega, g3⟩
  · rintro s ⟨h1, h2, h3, h4⟩
    have w1 := h.v h4
    exact Ret.f (by rw [h3, w1.n]; omega) (Ret.pure ⟨h1, h4⟩)
  · rintro q ⟨g1, g2⟩
    refine Ret.pure ⟨?_, g2⟩
    show q.1 = _
    rw [g1, cst_bst, eb]
    cases bst L (T 0 0).toNat with
    | none => rfl
    | some k => dsimp only; split <;> rfl
theorem X_all {T : TW} {R : Nat → RL} {v : Nat → Int} {M : KM} (h : WC T R v M) (ho : WO T R v) (p r : Int) : Ret (f_X_all p r M) (fun q => q.1 = (allA T R v p r).1 ∧ LC (allA T R v p r).2 q.2 ∧ Fp pVL M q.2) := by
  have o := ho.1.1
  unfold f_X_all
  rw [letM_e]
  have f0 : Fp pVL M (mupd M 0 16 0) := Fp.rf.upd (Or.inr (Or.inr ⟨rfl, rfl⟩))
  have w0 := h.vl f0
  rw [e_X_isAlive w0.n w0.alive ho.2, ob_some]
  unfold allA
  by_cases ha : alv v p = true
  · have hp := alv_R ho.2 ha
    have ag := ho.2.2.2.1 p.toNat (by omega)
    rw [if_pos ha]
    refine Ret.f (by omega) ?_
    rw [e_X_isRight, ob_some, w0.rights]
    by_cases hr : 0 ≤ r ∧ r < T 0 2
    · rw [if_pos hr, if_pos (And.intro ha hr)]
      refine Ret.f (by omega) ?_
      rw [w0.age ho hp.1 hp.2, w0.least, w32e (by omega) (by omega), letI_e]
      have hok : ∀ k, aok (T 0 0).toNat (lack0 T R v p r) (v p.toNat - T 0 3) k (allV T R v p r k) := ait_ok (n := (T 0 0).toNat) (L0 := lack0 T R v p r) (left := v p.toNat - T 0 3) (by omega) (fun q hq => lack0_hi hq) (by omega)
      have h8 : astop (allV T R v p r 8) := by
        rcases (hok 8).2.2.2.2.2 with hq | hq
        · exact hq
        · omega
      refine Ret.bind (R := Sum.elim (fun M' => LC (allV T R v p r 8).2.2 M' ∧ Fp pVL M M') (fun M' => LC (allV T R v p r 8).2.2 M' ∧ Fp pVL M M')) (Ret.loop (T 0 0).toNat (fun k s => s.1 = (allV T R v p r k).2.1 ∧ s.2.2.1 = (k : Int) ∧ (0 ≤ s.2.1 ∧ s.2.1 < 256 ∧ ∀ q, q < 8 → (allV T R v p r k).1 q = if bt s.2.1 q = true then 0 else lack0 T R v p r q) ∧ LC (allV T R v p r k).2.2 s.2.2.2 ∧ Fp pVL M s.2.2.2) ⟨rfl, rfl, ⟨Int.le_refl 0, by dsimp only; omega, fun q hq => by simp [bt]; rfl⟩, LC_nil M, f0⟩ ?_ ?_) ?_
      · rintro k s hk ⟨h1, h2, ⟨h3, h4, h5⟩, h6, h7⟩
        have w1 := h.vl h7
        obtain ⟨k1, k2, k3, k4, k5, k6⟩ := hok k
        rw [h2, h1]
        refine Ret.t (by rw [w1.n]; omega) (Ret.bind (X_cheapestToServe (L := (allV T R v p r k).1) w1 ho (p0 := p) (r := r) k3 (by omega) h3 h4 h5 (fun q hq => ?_)) ?_)
        · rcases k5 q with e | e
          · exact e
          · have := lack0_hi (R := R) (v := v) (p0 := p) (r := r) hq; rw [e, this]
        · rintro q ⟨g1, g2⟩
          have w2 := w1.v g2
          have l2 := h6.v g2
          have f2 : Fp pVL M q.2 := h7.tr g2.vl
          rcases astop_or (allV T R v p r k) with hs | ⟨m, hm, hle⟩
          · have e : (match bst (allV T R v p r k).1 8 with | none => (-1 : Int) | some k' => if ((allV T R v p r k).1 k' : Int) ≤ (allV T R v p r k).2.1 then (k' : Int) else -1) = -1 := by
              cases hb : bst (allV T R v p r k).1 8 with
              | none => rfl
              | some k' => dsimp only; rw [if_neg (by have := hs k' hb; omega)]
            rw [e] at g1
            have e8 : allV T R v p r k = allV T R v p r 8 := ait_same hs h8
            exact Ret.t g1 (Ret.pure ⟨by rw [← e8]; exact l2, f2⟩)
          · rw [hm] at g1
            dsimp only at g1
            rw [if_pos hle] at g1
            obtain ⟨b1, b2, b3⟩ := bst_some hm
            have hns : ¬ astop (allV T R v p r k) := fun hs => by have := hs m hm; omega
            have hm0 : (allV T R v p r k).1 m = lack0 T R v p r m := (k5 m).resolve_left b2
            have hmn : (m : Int) < T 0 0 := by
              by_cases hq : (m : Int) < T 0 0
              · exact hq
              · exact absurd (hm0.trans (lack0_hi (by omega))) b2
            have hm1 : (allV T R v p r k).1 m = fewA T R v m r 150 := by
              rw [hm0]; unfold lack0
              split
              · rfl
              · rename_i hq
                exfalso
                apply b2
                rw [hm0]; unfold lack0; rw [if_neg hq]
            refine Ret.f (by omega) (Ret.bind (X_fewest w2 ho _ _ (by omega)) ?_)
            rintro q2 ⟨g3, g4⟩
            rw [g1, fewA_le ho (by omega) (by omega) hmn, ← hm1, if_pos hle] at g3
            rw [g3, g1, w32e (n := (allV T R v p r k).2.1 - ((allV T R v p r k).1 m : Int)) (by omega) (by omega), letI_e, letI_e]
            have l3 := l2.v g4
            have hlen := (k6.resolve_left hns).2
            refine Ret.bind (X_lay l3 (by omega) _) ?_
            rintro M3 ⟨x1, y1⟩
            have eS : allV T R v p r (k + 1) = (fun q => if q = m then 0 else (allV T R v p r k).1 q, (allV T R v p r k).2.1 - (allV T R v p r k).1 m, (allV T R v p r k).2.2 ++ [(m : Int)]) := astp_go hm hle
            obtain ⟨z1, z2, z3⟩ := kior_bit (p := m) h3 (by omega) (by omega)
            refine Ret.pure ⟨by rw [eS], by dsimp only; rw [w32e (by omega) (by omega)]; omega, ⟨z1, ?_, fun q' hq' => ?_⟩, by rw [eS]; exact x1, (f2.tr g4.vl).tr (y1.mono fun _ _ => Or.inr)⟩
            · refine bt_lt8 z1 (n := 8) (fun i hi => ?_)
              rw [z3]
              have : bt s.2.1 i = false := Nat.testBit_lt_two_pow (Nat.lt_of_lt_of_le (by omega : s.2.1.toNat < 2 ^ 8) (Nat.pow_le_pow_right (by omega) hi))
              rw [this]; simp; omega
            · dsimp only
              rw [eS, z3]
              dsimp only
              by_cases hq2 : q' = m
              · rw [if_pos hq2]; simp [hq2]
              · rw [if_neg hq2, h5 q' hq']; simp [hq2]
      · rintro s ⟨h1, h2, ⟨h3, h4, h5⟩, h6, h7⟩
        have w1 := h.vl h7
        have hs : astop (allV T R v p r (T 0 0).toNat) := by
          rcases (hok (T 0 0).toNat).2.2.2.2.2 with hq | hq
          · exact hq
          · omega
        have e8 : allV T R v p r (T 0 0).toNat = allV T R v p r 8 := ait_same hs h8
        exact Ret.f (by rw [h2, w1.n]; omega) (Ret.pure ⟨by rw [← e8]; exact h6, h7⟩)
      · rintro (M1 | M1) ⟨h1, h2⟩
        · exact Ret.pure ⟨h1.2.1, h1, h2⟩
        · exact Ret.pure ⟨h1.2.1, h1, h2⟩
    · rw [if_neg hr, if_neg (fun q : alv v p = true ∧ (0 ≤ r ∧ r < T 0 2) => hr q.2)]
      exact Ret.t rfl (Ret.pure ⟨rfl, LC_nil M, f0⟩)
  · rw [if_neg ha, if_neg (fun q : alv v p = true ∧ (0 ≤ r ∧ r < T 0 2) => ha q.1)]
    exact Ret.t rfl (Ret.pure ⟨rfl, LC_nil M, f0⟩)
