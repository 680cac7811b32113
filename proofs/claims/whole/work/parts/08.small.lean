/-! SMALL QUESTIONS, THE MARKET -/
def itF {σ : Type} (f : Nat → σ → σ) (s0 : σ) : Nat → σ
  | 0 => s0
  | i + 1 => f i (itF f s0 i)
def personV (T : TW) (v : Nat → Int) (p w : Int) : Int := if 0 ≤ p ∧ p < T 0 0 then (if w = 0 then v p.toNat else if w = 1 then v (8 + p.toNat) else if w = 2 then (if alv v p = true then 1 else 0) else if w = 3 then T 3 p.toNat else if w = 4 then T 4 p.toNat else -1) else -1
theorem X_person {T : TW} {R : Nat → RL} {v : Nat → Int} {M : KM} (h : WC T R v M) (ho : WO T R v) (p w : Int) : f_X_person p w M = some (personV T v p w) := by
  unfold f_X_person personV
  rw [e_X_isPerson, ob_some, h.n]
  by_cases hp : 0 ≤ p ∧ p < T 0 0
  · rw [if_pos hp, if_pos hp, if_neg (by omega), h.age ho hp.1 hp.2, h.coin ho hp.1 hp.2, h.need ho hp.1 hp.2, h.family ho hp.1 hp.2, e_X_isAlive h.n h.alive ho.2, ob_some]
    by_cases h0 : w = 0
    · simp [h0]
    · by_cases h1 : w = 1
      · simp [h1]
      · by_cases h2 : w = 2
        · by_cases ha : alv v p = true <;> simp [h2, ha]
        · by_cases h3 : w = 3
          · simp [h3]
          · by_cases h4 : w = 4
            · simp [h4]
            · simp [h0, h1, h2, h3, h4]
  · rw [if_neg hp, if_neg hp]; rfl
theorem WM.n {b : Nat} {T : TW} {R : Nat → RL} {v : Nat → Int} {M : KM} (h : WM b T R v M) : M 385 b = T 0 0 := h.2.1.1.1
theorem M_isPerson {b : Nat} {T : TW} {R : Nat → RL} {v : Nat → Int} {M : KM} (h : WM b T R v M) (ho : WO T R v) (p : Int) : f_M_isPerson p M = some (if 0 ≤ p ∧ p < T 0 0 then 1 else 0) := by
  rw [e_M_isPerson h.1 p (by rw [h.n]; exact ho.1.1.1) (by rw [h.n]; exact ho.1.1.2.1), h.n]
theorem M_isRight {b : Nat} {T : TW} {R : Nat → RL} {v : Nat → Int} {M : KM} (h : WM b T R v M) (ho : WO T R v) (p : Int) : f_M_isRight p M = some (if 0 ≤ p ∧ p < T 0 2 then 1 else 0) := by
  have e : M 387 b = T 0 2 := h.2.1.1.2.2.1
  have := ho.1.1.2.2.2.2.1
  have := ho.1.1.2.2.2.2.2.1
  rw [e_M_isRight h.1 p (by omega) (by omega), e]
theorem M_isAge {b : Nat} {T : TW} {R : Nat → RL} {v : Nat → Int} {M : KM} (h : WM b T R v M) (p : Int) : f_M_isAge p M = some (if T 0 3 ≤ p ∧ p ≤ T 0 4 then 1 else 0) := by
  have e : M 390 b = T 0 3 := h.2.1.1.2.2.2.1
  have e2 : M 391 b = T 0 4 := h.2.1.1.2.2.2.2.1
  rw [e_M_isAge h.1 p, e, e2]
theorem WM.age {b : Nat} {T : TW} {R : Nat → RL} {v : Nat → Int} {M : KM} (h : WM b T R v M) (ho : WO T R v) {p : Int} (h0 : 0 ≤ p) (h1 : p < T 0 0) : w32 (0 + p) = p ∧ (0 ≤ p ∧ p < 171) ∧ M 411 p.toNat = v p.toNat := by
  have := ho.1.1.2.1
  refine ⟨by rw [Int.zero_add, w32e (by omega) (by omega)], by omega, h.all (by omega)⟩
theorem WM.coin {b : Nat} {T : TW} {R : Nat → RL} {v : Nat → Int} {M : KM} (h : WM b T R v M) (ho : WO T R v) {p : Int} (h0 : 0 ≤ p) (h1 : p < T 0 0) : w32 (8 + p) = 8 + p ∧ (0 ≤ 8 + p ∧ 8 + p < 171) ∧ M 411 (8 + p).toNat = v (8 + p.toNat) := by
  have := ho.1.1.2.1
  refine ⟨w32e (by omega) (by omega), by omega, ?_⟩
  rw [show (8 + p).toNat = 8 + p.toNat by omega]
  exact h.all (by omega)
theorem WM.bp {b : Nat} {T : TW} {R : Nat → RL} {v : Nat → Int} {M : KM} (h : WM b T R v M) (ho : WO T R v) {p : Int} (h0 : 0 ≤ p) (h1 : p < T 0 0) : w32 (w32 (8 * M 382 37) + p) = ((8 * b + p.toNat : Nat) : Int) ∧ (0 ≤ ((8 * b + p.toNat : Nat) : Int) ∧ ((8 * b + p.toNat : Nat) : Int) < 16) ∧ M 395 (8 * b + p.toNat) = T 3 p.toNat ∧ M 396 (8 * b + p.toNat) = T 4 p.toNat ∧ M 393 (8 * b + p.toNat) = T 1 p.toNat := by
  have := ho.1.1.2.1
  have hb := h.1.1
  have hh := h.2.1.2.1 p.toNat (by omega)
  refine ⟨?_, by omega, hh.2.2.1, hh.2.2.2, hh.1⟩
  rw [h.1.2, w32e (n := 8 * (b : Int)) (by omega) (by omega), w32e (by omega) (by omega)]
  omega
theorem M_person {b : Nat} {T : TW} {R : Nat → RL} {v : Nat → Int} {M : KM} (h : WM b T R v M) (ho : WO T R v) (p w : Int) : f_M_person p w M = some (personV T v p w) := by
  unfold f_M_person personV
  rw [M_isPerson h ho, ob_some]
  by_cases hp : 0 ≤ p ∧ p < T 0 0
  · have a1 := h.age ho hp.1 hp.2
    have a2 := h.coin ho hp.1 hp.2
    have a3 := h.bp ho hp.1 hp.2
    have hn := ho.1.1.2.1
    rw [if_pos hp, if_pos hp, if_neg (by omega), a1.1, a2.1, a3.1, if_pos a1.2.1, if_pos a2.2.1, if_pos a3.2.1, if_pos a3.2.1, a1.2.2, a2.2.2, Int.toNat_natCast, a3.2.2.1, a3.2.2.2.1, e_M_isAlive (h.all (by omega)) ho.2 hp.1 (by omega), ob_some]
    by_cases h0 : w = 0
    · simp [h0]
    · by_cases h1 : w = 1
      · simp [h1]
      · by_cases h2 : w = 2
        · by_cases ha : alv v p = true <;> simp [h2, ha]
        · by_cases h3 : w = 3
          · simp [h3]
          · by_cases h4 : w = 4
            · simp [h4]
            · simp [h0, h1, h2, h3, h4]
  · rw [if_neg hp, if_neg hp]; rfl
def hasA (T : TW) (R : Nat → RL) (v : Nat → Int) (p r : Int) : Int := if (0 ≤ p ∧ p < T 0 0) ∧ (0 ≤ r ∧ r < T 0 2) then hasV T R v p r (v p.toNat) else -1
theorem X_has {T : TW} {R : Nat → RL} {v : Nat → Int} {M : KM} (h : WC T R v M) (ho : WO T R v) (p r : Int) : Ret (f_X_has p r M) (fun q => q.1 = hasA T R v p r ∧ Fp pV M q.2) := by
  unfold f_X_has hasA
  rw [e_X_isPerson, ob_some, h.n, e_X_isRight, ob_some, h.rights]
  by_cases hp : 0 ≤ p ∧ p < T 0 0
  · by_cases hr : 0 ≤ r ∧ r < T 0 2
    · rw [if_pos hp, if_pos hr, if_pos (And.intro hp hr)]
      refine Ret.f (by omega) (Ret.f (by omega) (Ret.bind (X_hasNow h ho hp.1 hp.2 r) ?_))
      rintro ⟨x, M'⟩ ⟨h1, h2⟩
      dsimp only at h1 h2 ⊢
      have := hasV_01 T R v p r (v p.toNat)
      rw [← h1] at this
      rcases this with hx | hx
      · rw [hx]; exact Ret.pure ⟨by rw [← h1, hx], h2⟩
      · rw [hx]; exact Ret.pure ⟨by rw [← h1, hx], h2⟩
    · rw [if_pos hp, if_neg hr]
      exact Ret.f (by omega) (Ret.t rfl (Ret.pure ⟨(if_neg (fun q => hr q.2)).symm, Fp.rf⟩))
  · rw [if_neg hp]
    exact Ret.t rfl (Ret.pure ⟨(if_neg (fun q => hp q.1)).symm, Fp.rf⟩)
theorem M_has {b : Nat} {T : TW} {R : Nat → RL} {v : Nat → Int} {M : KM} (h : WM b T R v M) (ho : WO T R v) (p r : Int) : Ret (f_M_has p r M) (fun q => q.1 = hasA T R v p r ∧ Fp pW M q.2) := by
  unfold f_M_has hasA
  rw [M_isPerson h ho, ob_some, M_isRight h ho, ob_some]
  refine Ret.bind (R := fun q => q.1 = (if (0 ≤ p ∧ p < T 0 0) ∧ (0 ≤ r ∧ r < T 0 2) then hasV T R v p r (v p.toNat) else -1) ∧ Fp pW M q.2) ?_ (fun q hq => Ret.pure hq)
  by_cases hp : 0 ≤ p ∧ p < T 0 0
  · by_cases hr : 0 ≤ r ∧ r < T 0 2
    · rw [if_pos hp, if_pos hr, if_pos (And.intro hp hr)]
      refine Ret.f (by omega) (Ret.f (by omega) (Ret.bind (M_doesHave h ho hp.1 hp.2 hr) ?_))
      rintro ⟨x, M'⟩ ⟨h1, h2⟩
      dsimp only at h1 h2 ⊢
      have := hasV_01 T R v p r (v p.toNat)
      rw [← h1] at this
      rcases this with hx | hx
      · rw [hx]; exact Ret.pure ⟨by rw [← h1, hx], h2⟩
      · rw [hx]; exact Ret.pure ⟨by rw [← h1, hx], h2⟩
    · rw [if_pos hp, if_neg hr]
      exact Ret.f (by omega) (Ret.t rfl (Ret.pure ⟨(if_neg (fun q => hr q.2)).symm, Fp.rf⟩))
  · rw [if_neg hp]
    exact Ret.t rfl (Ret.pure ⟨(if_neg (fun q => hp q.1)).symm, Fp.rf⟩)
def oddsA (T : TW) (R : Nat → RL) (v : Nat → Int) (a : Int) : Int := if T 0 3 ≤ a ∧ a ≤ T 0 4 then oddV T R v a else -1
theorem X_odds {T : TW} {R : Nat → RL} {v : Nat → Int} {M : KM} (h : WC T R v M) (ho : WO T R v) (a : Int) : Ret (f_X_odds a M) (fun q => q.1 = oddsA T R v a ∧ Fp pV M q.2) := by
  unfold f_X_odds oddsA
  rw [e_X_isAge, ob_some, h.least, h.most]
  refine Ret.bind (R := fun q => q.1 = (if T 0 3 ≤ a ∧ a ≤ T 0 4 then oddV T R v a else -1) ∧ Fp pV M q.2) ?_ (fun q hq => Ret.pure hq)
  by_cases hp : T 0 3 ≤ a ∧ a ≤ T 0 4
  · rw [if_pos hp, if_pos hp]
    exact Ret.f (by omega) (Ret.bind (X_oddsAt h ho a) (fun q hq => Ret.pure hq))
  · rw [if_neg hp, if_neg hp]
    exact Ret.t rfl (Ret.pure ⟨rfl, Fp.rf⟩)
theorem M_odds {b : Nat} {T : TW} {R : Nat → RL} {v : Nat → Int} {M : KM} (h : WM b T R v M) (ho : WO T R v) (a : Int) : Ret (f_M_odds a M) (fun q => q.1 = oddsA T R v a ∧ Fp pW M q.2) := by
  unfold f_M_odds oddsA
  rw [M_isAge h, ob_some]
  refine Ret.bind (R := fun q => q.1 = (if T 0 3 ≤ a ∧ a ≤ T 0 4 then oddV T R v a else -1) ∧ Fp pW M q.2) ?_ (fun q hq => Ret.pure hq)
  by_cases hp : T 0 3 ≤ a ∧ a ≤ T 0 4
  · rw [if_pos hp, if_pos hp]
    exact Ret.f (by omega) (Ret.bind (M_oddsOf h ho a) (fun q hq => Ret.pure hq))
  · rw [if_neg hp, if_neg hp]
    exact Ret.t rfl (Ret.pure ⟨rfl, Fp.rf⟩)
/-- a loop that counts over the people, its state the turns so far -/
theorem Ret.count {σ ε : Type} {body : σ → Option (σ ⊕ ε)} {s0 : σ} {Q : ε → Prop} (N : Nat) (st : Nat → σ) (h0 : s0 = st 0) (hs : ∀ i, i < N → body (st i) = some (.inl (st (i + 1)))) (he : Ret (body (st N)) (Sum.elim (fun _ => False) Q)) : Ret (whileO body s0) Q := by
  obtain ⟨r, h1, h2⟩ := he
  cases r with
  | inl s' => exact h2.elim
  | inr e => exact ⟨e, wh_for st N e h0 hs h1, h2⟩
def sumS (T : TW) (v : Nat → Int) (fam : Int) : Int := itF (fun p a => if alv v p = true ∧ (fam = -1 ∨ T 4 p = fam) then w32 (a + v p) else a) 0 (T 0 0).toNat
theorem X_sumJ {T : TW} {R : Nat → RL} {v : Nat → Int} {M : KM} (h : WC T R v M) (ho : WO T R v) (fam : Int) : J_X_sum_15 M fam = some (sumS T v fam) := by
  have hn := ho.1.1.2.1
  have hn0 := ho.1.1.1
  unfold J_X_sum_15
  rw [wh_for (fun i => (itF (fun p a => if alv v p = true ∧ (fam = -1 ∨ T 4 p = fam) then w32 (a + v p) else a) 0 i, (i : Int))) (T 0 0).toNat (sumS T v fam) (by rfl) ?_ ?_, ob_some]
  · intro i hi
    dsimp only
    have hi' : (i : Int) < T 0 0 := by omega
    rw [h.n, if_pos hi', e_X_isAlive h.n h.alive ho.2, ob_some, h.age ho (by omega) hi', h.family ho (by omega) hi', Int.toNat_natCast, w32e (n := (i : Int) + 1) (by omega) (by omega)]
    show _ = some (Sum.inl (if alv v i = true ∧ (fam = -1 ∨ T 4 i = fam) then _ else _, ((i + 1 : Nat) : Int)))
    by_cases ha : alv v i = true
    · by_cases hf : fam = -1
      · simp [ha, hf, letI_e]
      · by_cases hf2 : T 4 i = fam
        · simp [ha, hf2, letI_e]
        · simp [ha, hf, hf2]
    · simp [ha]
  · dsimp only
    rw [h.n, if_neg (by omega)]
    rfl
def sumA (T : TW) (v : Nat → Int) (fam : Int) : Int := if -1 ≤ fam ∧ fam ≤ 3 then sumS T v fam else -1000000
theorem X_sum {T : TW} {R : Nat → RL} {v : Nat → Int} {M : KM} (h : WC T R v M) (ho : WO T R v) (fam : Int) : f_X_sum fam M = some (sumA T v fam) := by
  unfold f_X_sum sumA
  rw [X_sumJ h ho, e_X_isFamily, ob_some]
  by_cases h1 : fam = -1
  · rw [if_pos h1, if_pos (by omega)]
  · rw [if_neg h1]
    by_cases h2 : 0 ≤ fam ∧ fam < 4
    · rw [if_pos h2, if_neg (by omega), if_pos (by omega)]
    · rw [if_neg h2, if_pos rfl, if_neg (by omega)]
theorem M_sum {b : Nat} {T : TW} {R : Nat → RL} {v : Nat → Int} {M : KM} (h : WM b T R v M) (ho : WO T R v) (fam : Int) : f_M_sum fam M = some (sumA T v fam) := by
  have hn := ho.1.1.2.1
  have hn0 := ho.1.1.1
  unfold f_M_sum sumA
  rw [e_M_isIn, ob_some]
  by_cases hf : -1 ≤ fam ∧ fam ≤ 3
  · rw [if_pos hf, if_pos hf, if_neg (by omega), wh_for (fun i => (itF (fun p a => if alv v p = true ∧ (fam = -1 ∨ T 4 p = fam) then w32 (a + v p) else a) 0 i, (i : Int))) (T 0 0).toNat (sumS T v fam) (by rfl) ?_ ?_, ob_some]
    · intro i hi
      dsimp only
      have hi' : (i : Int) < T 0 0 := by omega
      have a1 := h.age ho (p := i) (by omega) hi'
      have a3 := h.bp ho (p := i) (by omega) hi'
      rw [Int.toNat_natCast] at a1 a3
      rw [e_M_many h.1, ob_some, h.n, if_pos hi', e_M_isAlive (h.all (by omega)) ho.2 (by omega) (by omega), ob_some, a1.1, a3.1, if_pos a1.2.1, if_pos a3.2.1, Int.toNat_natCast, Int.toNat_natCast, a3.2.2.2.1, a1.2.2, w32e (n := (i : Int) + 1) (by omega) (by omega)]
      show _ = some (Sum.inl (if alv v i = true ∧ (fam = -1 ∨ T 4 i = fam) then _ else _, ((i + 1 : Nat) : Int)))
      by_cases ha : alv v i = true
      · by_cases hf3 : fam = -1
        · simp [ha, hf3, letI_e]
        · have : ¬ fam < 0 := by omega
          by_cases hf2 : T 4 i = fam
          · simp [ha, hf2, letI_e, this]
          · simp [ha, hf3, hf2, this]
      · simp [ha]
    · dsimp only
      rw [e_M_many h.1, ob_some, h.n, if_neg (by omega)]
      rfl
  · rw [if_neg hf, if_neg hf, if_pos rfl]
