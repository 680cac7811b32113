/-! THE MARKET -/
def lackV (T : TW) (v : Nat → Int) (pr tax : Int) (p : Nat) : Int := if w32 (T 3 p - v p) ≤ 0 then w32 (T 3 p - v p) else if w32 (pr + tax) ≤ 0 then w32 (T 3 p - v p) else min (w32 (T 3 p - v p)) (kdiv (v (8 + p)) (w32 (pr + tax)))
def askV (T : TW) (v : Nat → Int) (pr tax w : Int) : Int := itF (fun p a => if alv v p = true ∧ (p : Int) ≠ w then w32 (a + lackV T v pr tax p) else a) 0 (T 0 0).toNat
theorem X_askedOver {T : TW} {R : Nat → RL} {v : Nat → Int} {M : KM} (h : WC T R v M) (ho : WO T R v) (pr tax w : Int) : f_X_askedOver pr tax w M = some (askV T v pr tax w) := by
  have hn := ho.1.1.2.1
  have hn0 := ho.1.1.1
  unfold f_X_askedOver
  rw [wh_for (fun i => (itF (fun p a => if alv v p = true ∧ (p : Int) ≠ w then w32 (a + lackV T v pr tax p) else a) 0 i, (i : Int))) (T 0 0).toNat (askV T v pr tax w) (by rfl) ?_ ?_, ob_some]
  · intro i hi
    dsimp only
    have hi' : (i : Int) < T 0 0 := by omega
    rw [h.n, if_pos hi', e_X_isAlive h.n h.alive ho.2, ob_some, h.age ho (by omega) hi', h.need ho (by omega) hi', h.coin ho (by omega) hi', Int.toNat_natCast, w32e (n := (i : Int) + 1) (by omega) (by omega)]
    show _ = some (Sum.inl (if alv v i = true ∧ (i : Int) ≠ w then w32 (_ + lackV T v pr tax i) else _, ((i + 1 : Nat) : Int)))
    by_cases ha : alv v i = true
    · by_cases hw : (i : Int) = w
      · simp [ha, hw]
      · have hz : w32 (pr + tax) ≤ 0 ∨ ¬ w32 (pr + tax) = 0 := by omega
        unfold lackV
        by_cases h1 : w32 (T 3 i - v i) ≤ 0
        · simp [ha, hw, letI_e, h1]
        · by_cases h2 : w32 (pr + tax) ≤ 0
          · simp [ha, hw, letI_e, h1, h2]
          · have h3 : ¬ w32 (pr + tax) = 0 := by omega
            simp [ha, hw, letI_e, h1, h2, h3]
    · simp [ha]
  · dsimp only
    rw [h.n, if_neg (by omega)]
    rfl
set_option maxRecDepth 20000 in
theorem M_marketAt {b : Nat} {T : TW} {R : Nat → RL} {v : Nat → Int} {M : KM} {w : Int} (h : WM b T R v M) (ho : WO T R v) (hw59 : M 382 59 = w) (pr tax : Int) : f_M_marketAt pr tax M = some (askV T v pr tax w) := by
  have hn := ho.1.1.2.1
  have hn0 := ho.1.1.1
  unfold f_M_marketAt
  rw [wh_for (fun i => (itF (fun p a => if alv v p = true ∧ (p : Int) ≠ w then w32 (a + lackV T v pr tax p) else a) 0 i, (i : Int))) (T 0 0).toNat (askV T v pr tax w) (by rfl) ?_ ?_, ob_some]
  · intro i hi
    dsimp only
    have hi' : (i : Int) < T 0 0 := by omega
    have a1 := h.age ho (p := i) (by omega) hi'
    have a2 := h.coin ho (p := i) (by omega) hi'
    have a3 := h.bp ho (p := i) (by omega) hi'
    rw [Int.toNat_natCast] at a1 a2 a3
    rw [e_M_many h.1, ob_some, h.n, if_pos hi', e_M_isAlive (h.all (by omega)) ho.2 (by omega) (by omega), ob_some, a1.1, a2.1, a3.1, if_pos a1.2.1, if_pos a3.2.1, Int.toNat_natCast, Int.toNat_natCast, a3.2.2.1, a1.2.2, a2.2.2, w32e (n := (i : Int) + 1) (by omega) (by omega), hw59]
    show _ = some (Sum.inl (if alv v i = true ∧ (i : Int) ≠ w then w32 (_ + lackV T v pr tax i) else _, ((i + 1 : Nat) : Int)))
    by_cases ha : alv v i = true
    · by_cases hw : (i : Int) = w
      · simp [ha, hw]
      · unfold lackV
        by_cases h1 : w32 (T 3 i - v i) ≤ 0
        · simp [ha, hw, letI_e, h1]
        · by_cases h2 : w32 (pr + tax) ≤ 0
          · simp [ha, hw, letI_e, h1, h2]
          · have h3 : ¬ w32 (pr + tax) = 0 := by omega
            have h4 := a2.2.1
            by_cases h5 : kdiv (v (8 + i)) (w32 (pr + tax)) < w32 (T 3 i - v i)
            · have h6 : min (w32 (T 3 i - v i)) (kdiv (v (8 + i)) (w32 (pr + tax))) = kdiv (v (8 + i)) (w32 (pr + tax)) := by omega
              simp [ha, hw, letI_e, h1, h2, h3, h4, h5, h6]
            · have h6 : min (w32 (T 3 i - v i)) (kdiv (v (8 + i)) (w32 (pr + tax))) = w32 (T 3 i - v i) := by omega
              simp [ha, hw, letI_e, h1, h2, h3, h4, h5, h6]
    · simp [ha]
  · dsimp only
    rw [e_M_many h.1, ob_some, h.n, if_neg (by omega)]
    rfl
theorem e_abs (x : Int) : (if x < 0 then some (w32 (-x)) else some x) = some (kabs x) := by
  unfold kabs
  by_cases h : x < 0
  · rw [if_pos h, if_neg (by omega)]
  · rw [if_neg h, if_pos (by omega)]
def restV (T : TW) (v : Nat → Int) (tax w : Int) : Nat → Int := itF (fun i best => if kabs (askV T v ((i + 1 : Nat) : Int) tax w) < kabs (askV T v best tax w) then ((i + 1 : Nat) : Int) else best) 0
theorem X_restingPrice {T : TW} {R : Nat → RL} {v : Nat → Int} {M : KM} (h : WC T R v M) (ho : WO T R v) (tax w : Int) : f_X_restingPrice tax w M = some (restV T v tax w 99) := by
  unfold f_X_restingPrice
  rw [X_askedOver h ho, ob_some, letI_e, wh_for (fun i => (restV T v tax w i, kabs (askV T v (restV T v tax w i) tax w), ((i + 1 : Nat) : Int))) 99 (restV T v tax w 99) (by rfl) ?_ ?_, ob_some]
  · intro i hi
    dsimp only
    rw [if_pos (by omega), X_askedOver h ho, ob_some, letI_e, w32e (by omega) (by omega)]
    show _ = some (Sum.inl (restV T v tax w (i + 1), _, _))
    have e : restV T v tax w (i + 1) = if kabs (askV T v ((i + 1 : Nat) : Int) tax w) < kabs (askV T v (restV T v tax w i) tax w) then ((i + 1 : Nat) : Int) else restV T v tax w i := rfl
    rw [e]
    by_cases hc : kabs (askV T v ((i + 1 : Nat) : Int) tax w) < kabs (askV T v (restV T v tax w i) tax w)
    · rw [if_pos hc, if_pos hc]; rfl
    · rw [if_neg hc, if_neg hc]; rfl
  · dsimp only
    rw [if_neg (by omega)]
theorem M_restsAt {b : Nat} {T : TW} {R : Nat → RL} {v : Nat → Int} {M : KM} {w : Int} (h : WM b T R v M) (ho : WO T R v) (hw59 : M 382 59 = w) (tax : Int) : f_M_restsAt tax M = some (restV T v tax w 99) := by
  unfold f_M_restsAt
  rw [wh_for (fun i => (restV T v tax w i, ((i + 1 : Nat) : Int))) 99 (restV T v tax w 99) (by rfl) ?_ ?_, ob_some]
  · intro i hi
    dsimp only
    rw [if_pos (by omega), M_marketAt h ho hw59, ob_some, M_marketAt h ho hw59, ob_some, e_abs, ob_some, e_abs, ob_some, w32e (by omega) (by omega)]
    have e : restV T v tax w (i + 1) = if kabs (askV T v ((i + 1 : Nat) : Int) tax w) < kabs (askV T v (restV T v tax w i) tax w) then ((i + 1 : Nat) : Int) else restV T v tax w i := rfl
    rw [e]
    by_cases hc : kabs (askV T v ((i + 1 : Nat) : Int) tax w) < kabs (askV T v (restV T v tax w i) tax w)
    · rw [if_pos hc, if_pos hc]; rfl
    · rw [if_neg hc, if_neg hc]; rfl
  · dsimp only
    rw [if_neg (by omega)]
def marketA (T : TW) (v : Nat → Int) (pr tax : Int) : Int := if (0 ≤ pr ∧ pr ≤ 99) ∧ (0 ≤ tax ∧ tax ≤ 99) then askV T v pr tax (-1) else -1000000
theorem X_market {T : TW} {R : Nat → RL} {v : Nat → Int} {M : KM} (h : WC T R v M) (ho : WO T R v) (pr tax : Int) : f_X_market pr tax M = some (marketA T v pr tax) := by
  unfold f_X_market marketA
  rw [e_X_isPrice, ob_some, e_X_isPrice, ob_some, X_askedOver h ho]
  by_cases h1 : 0 ≤ pr ∧ pr ≤ 99
  · by_cases h2 : 0 ≤ tax ∧ tax ≤ 99
    · simp [h1, h2]
    · simp [h2]
  · simp [h1]
theorem M_market {b : Nat} {T : TW} {R : Nat → RL} {v : Nat → Int} {M : KM} (h : WM b T R v M) (ho : WO T R v) (hw59 : M 382 59 = -1) (pr tax : Int) : f_M_market pr tax M = some (marketA T v pr tax) := by
  unfold f_M_market marketA
  rw [e_M_isIn, ob_some, e_M_isIn, ob_some, M_marketAt h ho hw59]
  by_cases h1 : 0 ≤ pr ∧ pr ≤ 99
  · by_cases h2 : 0 ≤ tax ∧ tax ≤ 99
    · simp [h1, h2]
    · simp [h2]
  · simp [h1]
def restsA (T : TW) (v : Nat → Int) (tax w : Int) : Int := if (0 ≤ tax ∧ tax ≤ 99) ∧ (0 ≤ w ∧ w ≤ 1) then (if w = 0 then restV T v tax (-1) 99 else askV T v (restV T v tax (-1) 99) tax (-1)) else -1000000
theorem X_rests {T : TW} {R : Nat → RL} {v : Nat → Int} {M : KM} (h : WC T R v M) (ho : WO T R v) (tax w : Int) : f_X_rests tax w M = some (restsA T v tax w) := by
  unfold f_X_rests restsA
  rw [e_X_isPrice, ob_some, X_restingPrice h ho, ob_some, X_askedOver h ho]
  by_cases h1 : 0 ≤ tax ∧ tax ≤ 99
  · by_cases h2 : w < 0
    · have : ¬ 0 ≤ w := by omega
      simp [h1, h2, this]
    · have h0 : 0 ≤ w := by omega
      by_cases h3 : w ≤ 1
      · by_cases h4 : w = 0
        · simp [h1, h4]
        · simp [h1, h2, h3, h4, h0]
      · simp [h1, h2, h3]
  · simp [h1]
theorem M_rests {b : Nat} {T : TW} {R : Nat → RL} {v : Nat → Int} {M : KM} (h : WM b T R v M) (ho : WO T R v) (hw59 : M 382 59 = -1) (tax w : Int) : f_M_rests tax w M = some (restsA T v tax w) := by
  unfold f_M_rests restsA
  rw [e_M_isIn, ob_some, e_M_isIn, ob_some, M_restsAt h ho hw59, ob_some, M_marketAt h ho hw59]
  by_cases h1 : 0 ≤ tax ∧ tax ≤ 99
  · by_cases h2 : 0 ≤ w ∧ w ≤ 1
    · by_cases h4 : w = 0
      · simp [h1, h4]
      · simp [h1, h2, h4]
    · simp [h1, h2]
  · simp [h1]
def cornerA (T : TW) (v : Nat → Int) (p tax : Int) : Int := if alv v p = true ∧ (0 ≤ tax ∧ tax ≤ 99) then w32 (restV T v tax (-1) 99 - restV T v tax p 99) else -1000000
theorem X_corner {T : TW} {R : Nat → RL} {v : Nat → Int} {M : KM} (h : WC T R v M) (ho : WO T R v) (p tax : Int) : f_X_corner p tax M = some (cornerA T v p tax) := by
  unfold f_X_corner cornerA
  rw [e_X_isAlive h.n h.alive ho.2, ob_some, e_X_isPrice, ob_some, X_restingPrice h ho, ob_some, X_restingPrice h ho, ob_some]
  by_cases h1 : alv v p = true
  · by_cases h2 : 0 ≤ tax ∧ tax ≤ 99
    · simp [h1, h2]
    · simp [h1, h2]
  · simp [h1]
def p59 (k j : Nat) : Prop := k = 382 ∧ j = 59
theorem M_corner {b : Nat} {T : TW} {R : Nat → RL} {v : Nat → Int} {M : KM} (h : WM b T R v M) (ho : WO T R v) (hw59 : M 382 59 = -1) (p tax : Int) : Ret (f_M_corner p tax M) (fun q => q.1 = cornerA T v p tax ∧ Fp p59 M q.2 ∧ q.2 382 59 = -1) := by
  have hn := ho.1.1.2.1
  unfold f_M_corner cornerA
  rw [M_isPerson h ho, ob_some]
  by_cases hp : 0 ≤ p ∧ p < T 0 0
  · rw [if_pos hp]
    refine Ret.f (by omega) ?_
    rw [e_M_isAlive (h.all (by omega)) ho.2 hp.1 (by omega), ob_some, e_M_isIn, ob_some]
    by_cases ha : alv v p = true
    · by_cases h2 : 0 ≤ tax ∧ tax ≤ 99
      · rw [if_pos ha, if_pos h2, if_pos (And.intro ha h2)]
        refine Ret.f (by omega) (Ret.f (by omega) ?_)
        have h5 : WM b T R v (mupd M 382 59 p) := h.congr fun k j hk => by
          unfold pR at hk
          rw [mupd_at, if_neg (by omega)]
        rw [M_restsAt h ho hw59, ob_some, letM_e, M_restsAt h5 ho (mupd_same _ _ _ _), ob_some, letM_e]
        exact Ret.pure ⟨rfl, (Fp.rf.upd ⟨rfl, rfl⟩).upd ⟨rfl, rfl⟩, by dsimp only; exact mupd_same _ _ _ _⟩
      · rw [if_pos ha, if_neg h2]
        exact Ret.f (by omega) (Ret.t rfl (Ret.pure ⟨(if_neg (fun q => h2 q.2)).symm, Fp.rf, hw59⟩))
    · rw [if_neg ha]
      exact Ret.t rfl (Ret.pure ⟨(if_neg (fun q => ha q.1)).symm, Fp.rf, hw59⟩)
  · rw [if_neg hp]
    exact Ret.t rfl (Ret.pure ⟨(if_neg (fun q => hp (alv_R ho.2 q.1))).symm, Fp.rf, hw59⟩)
/-! BENDS -/
def bendB (T : TW) (R : Nat → RL) (v : Nat → Int) (a : Int) : Bool := decide (w32 (2 * oddV T R v a) ≤ w32 (oddV T R v (w32 (a - 1)) + oddV T R v (w32 (a + 1))))
def bendsN (T : TW) : Nat := (T 0 4 - T 0 3 - 1).toNat
def bendsA (T : TW) (R : Nat → RL) (v : Nat → Int) : Int := if ((List.range (bendsN T)).all fun i => bendB T R v (T 0 3 + 1 + i)) = true then 1 else 0
theorem bendsA_0 {T : TW} {R : Nat → RL} {v : Nat → Int} {i : Nat} (hi : i < bendsN T) (h : bendB T R v (T 0 3 + 1 + i) = false) : bendsA T R v = 0 := by
  unfold bendsA
  rw [if_neg]
  intro hq
  have := List.all_eq_true.mp hq i (List.mem_range.mpr hi)
  rw [h] at this; cases this
theorem bendsA_1 {T : TW} {R : Nat → RL} {v : Nat → Int} (h : ∀ i : Nat, i < bendsN T → bendB T R v (T 0 3 + 1 + i) = true) : bendsA T R v = 1 := by
  unfold bendsA
  rw [if_pos]
  exact List.all_eq_true.mpr fun i hi => h i (List.mem_range.mp hi)
theorem X_bends {T : TW} {R : Nat → RL} {v : Nat → Int} {M : KM} (h : WC T R v M) (ho : WO T R v) : Ret (f_X_bends M) (fun q => q.1 = bendsA T R v ∧ Fp pV M q.2) := by
  have o := ho.1.1
  unfold f_X_bends
  rw [h.least, w32e (by omega) (by omega), letI_e]
  refine Ret.bind (R := Sum.elim (fun M' => bendsA T R v = 0 ∧ Fp pV M M') (fun M' => bendsA T R v = 1 ∧ Fp pV M M')) (Ret.loop (bendsN T) (fun i s => s.1 = T 0 3 + 1 + i ∧ Fp pV M s.2 ∧ ∀ j : Nat, j < i → bendB T R v (T 0 3 + 1 + j) = true) ?_ ?_ ?_) ?_
  · exact ⟨by simp, Fp.rf, fun j hj => absurd hj (Nat.not_lt_zero _)⟩
  · rintro i ⟨a, M1⟩ hi ⟨h1, h2, h3⟩
    dsimp only at h1 h2 h3 ⊢
    subst h1
    unfold bendsN at hi
    have hw := h.v h2
    refine Ret.t (by rw [hw.most]; omega) (Ret.bind (X_oddsAt hw ho _) ?_)
    rintro ⟨x, M2⟩ ⟨h4, h5⟩
    refine Ret.bind (X_oddsAt (hw.v h5) ho _) ?_
    rintro ⟨y, M3⟩ ⟨h6, h7⟩
    refine Ret.bind (X_oddsAt ((hw.v h5).v h7) ho _) ?_
    rintro ⟨z, M4⟩ ⟨h8, h9⟩
    dsimp only at h4 h5 h6 h7 h8 h9 ⊢
    subst h4 h6 h8
    have hf := ((h2.tr h5).tr h7).tr h9
    refine Ret.br (fun hc => Ret.pure ⟨?_, hf, ?_⟩) (fun hc => Ret.pure ⟨bendsA_0 (i := i) hi ?_, hf⟩)
    · dsimp only
      rw [w32e (by omega) (by omega)]; omega
    · intro j hj
      by_cases hji : j = i
      · subst hji; unfold bendB; exact decide_eq_true hc
      · exact h3 j (by omega)
    · unfold bendB; exact decide_eq_false hc
  · rintro ⟨a, M1⟩ ⟨h1, h2, h3⟩
    dsimp only at h1 h2 h3 ⊢
    subst h1
    refine Ret.f ?_ (Ret.pure ⟨bendsA_1 h3, h2⟩)
    rw [(h.v h2).most]
    unfold bendsN
    omega
  · rintro (M1 | M1) ⟨h1, h2⟩
    · exact Ret.pure ⟨h1.symm, h2⟩
    · exact Ret.pure ⟨h1.symm, h2⟩
theorem M_bends {b : Nat} {T : TW} {R : Nat → RL} {v : Nat → Int} {M : KM} (h : WM b T R v M) (ho : WO T R v) : Ret (f_M_bends M) (fun q => q.1 = bendsA T R v ∧ Fp pW M q.2) := by
  have o := ho.1.1
  have hb := h.1.1
  unfold f_M_bends
  rw [h.1.2, Int.toNat_natCast, h.2.1.1.2.2.2.1, w32e (by omega) (by omega), letI_e]
  refine Ret.t (by omega) (Ret.bind (R := Sum.elim (fun M' => bendsA T R v = 0 ∧ Fp pW M M') (fun M' => bendsA T R v = 1 ∧ Fp pW M M')) (Ret.loop (bendsN T) (fun i s => s.1 = T 0 3 + 1 + i ∧ Fp pW M s.2 ∧ ∀ j : Nat, j < i → bendB T R v (T 0 3 + 1 + j) = true) ?_ ?_ ?_) ?_)
  · exact ⟨by simp, Fp.rf, fun j hj => absurd hj (Nat.not_lt_zero _)⟩
  · rintro i ⟨a, M1⟩ hi ⟨h1, h2, h3⟩
    dsimp only at h1 h2 h3 ⊢
    subst h1
    unfold bendsN at hi
    have hw := h.w h2
    refine Ret.t (by rw [hw.1.2]; omega) (Ret.t (by rw [hw.1.2, Int.toNat_natCast, hw.2.1.1.2.2.2.2.1]; omega) (Ret.bind (M_oddsOf hw ho _) ?_))
    rintro ⟨x, M2⟩ ⟨h4, h5⟩
    refine Ret.bind (M_oddsOf (hw.w h5) ho _) ?_
    rintro ⟨y, M3⟩ ⟨h6, h7⟩
    refine Ret.bind (M_oddsOf ((hw.w h5).w h7) ho _) ?_
    rintro ⟨z, M4⟩ ⟨h8, h9⟩
    dsimp only at h4 h5 h6 h7 h8 h9 ⊢
    subst h4 h6 h8
    have hf := ((h2.tr h5).tr h7).tr h9
    refine Ret.br (fun hc => Ret.pure ⟨?_, hf, ?_⟩) (fun hc => Ret.pure ⟨bendsA_0 (i := i) hi ?_, hf⟩)
    · dsimp only
      rw [w32e (by omega) (by omega)]; omega
    · intro j hj
      by_cases hji : j = i
      · subst hji; unfold bendB; exact decide_eq_true hc
      · exact h3 j (by omega)
    · unfold bendB; exact decide_eq_false hc
  · rintro ⟨a, M1⟩ ⟨h1, h2, h3⟩
    dsimp only at h1 h2 h3 ⊢
    subst h1
    have hw := h.w h2
    refine Ret.t (by rw [hw.1.2]; omega) (Ret.f ?_ (Ret.pure ⟨bendsA_1 h3, h2⟩))
    rw [hw.1.2, Int.toNat_natCast, hw.2.1.1.2.2.2.2.1]
    unfold bendsN
    omega
  · rintro (M1 | M1) ⟨h1, h2⟩
    · exact Ret.pure ⟨h1.symm, h2⟩
    · exact Ret.pure ⟨h1.symm, h2⟩
