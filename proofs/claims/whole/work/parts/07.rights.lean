/-! RIGHTS, ODDS -/
def WC (T : TW) (R : Nat → RL) (v : Nat → Int) (M : KM) : Prop := TC 2 T R M ∧ SC 34 (T 0 0) v M
def WM (b : Nat) (T : TW) (R : Nat → RL) (v : Nat → Int) (M : KM) : Prop := BK b M ∧ TM b T R M ∧ SM 411 0 v M
def WO (T : TW) (R : Nat → RL) (v : Nat → Int) : Prop := okT T R ∧ okS T v
def hasV (T : TW) (R : Nat → RL) (v : Nat → Int) (p r age : Int) : Int := if alv v p = true ∧ (0 ≤ r ∧ r < T 0 2) ∧ evr age (v (8 + p.toNat)) (T 4 p.toNat) (v 19) (R r.toNat) [] ≠ 0 then 1 else 0
def oddV (T : TW) (R : Nat → RL) (v : Nat → Int) (age : Int) : Int := if T 0 7 = 0 then 0 else max 0 (min 100 (evr age 0 0 (v 19) (R 6) []))
theorem hasV_01 (T : TW) (R : Nat → RL) (v : Nat → Int) (p r age : Int) : hasV T R v p r age = 0 ∨ hasV T R v p r age = 1 := by unfold hasV; split <;> simp
theorem oddV_R (T : TW) (R : Nat → RL) (v : Nat → Int) (age : Int) : 0 ≤ oddV T R v age ∧ oddV T R v age ≤ 100 := by unfold oddV; split <;> omega
theorem alv_R {T : TW} {v : Nat → Int} (hS : okS T v) {i : Int} (h : alv v i = true) : 0 ≤ i ∧ i < T 0 0 := by
  unfold alv at h
  rw [Bool.and_eq_true, decide_eq_true_eq] at h
  have := hS.2.1 _ h.2
  omega
theorem WC.n {T : TW} {R : Nat → RL} {v : Nat → Int} {M : KM} (h : WC T R v M) : M 2 0 = T 0 0 := h.1.1.1
theorem WC.alive {T : TW} {R : Nat → RL} {v : Nat → Int} {M : KM} (h : WC T R v M) : M 34 3 = v 16 := h.2.1.2.1
theorem WC.year {T : TW} {R : Nat → RL} {v : Nat → Int} {M : KM} (h : WC T R v M) : M 34 4 = v 19 := h.2.1.2.2.1
theorem WC.least {T : TW} {R : Nat → RL} {v : Nat → Int} {M : KM} (h : WC T R v M) : M 2 12 = T 0 3 := h.1.1.2.2.2.1
theorem WC.most {T : TW} {R : Nat → RL} {v : Nat → Int} {M : KM} (h : WC T R v M) : M 2 13 = T 0 4 := h.1.1.2.2.2.2.1
theorem WC.rights {T : TW} {R : Nat → RL} {v : Nat → Int} {M : KM} (h : WC T R v M) : M 2 9 = T 0 2 := h.1.1.2.2.1
theorem WC.friends {T : TW} {R : Nat → RL} {v : Nat → Int} {M : KM} (h : WC T R v M) : M 2 5 = T 0 1 := h.1.1.2.1
theorem WC.age {T : TW} {R : Nat → RL} {v : Nat → Int} {M : KM} (h : WC T R v M) (ho : WO T R v) {p : Int} (h0 : 0 ≤ p) (h1 : p < T 0 0) : atM M 35 8 p = v p.toNat := by
  have := ho.1.1.2.1
  rw [atM_in _ _ _ h0 (by omega)]
  exact (h.2.2.1 p.toNat (by omega)).1
theorem WC.coin {T : TW} {R : Nat → RL} {v : Nat → Int} {M : KM} (h : WC T R v M) (ho : WO T R v) {p : Int} (h0 : 0 ≤ p) (h1 : p < T 0 0) : atM M 36 8 p = v (8 + p.toNat) := by
  have := ho.1.1.2.1
  rw [atM_in _ _ _ h0 (by omega)]
  exact (h.2.2.1 p.toNat (by omega)).2
theorem WC.need {T : TW} {R : Nat → RL} {v : Nat → Int} {M : KM} (h : WC T R v M) (ho : WO T R v) {p : Int} (h0 : 0 ≤ p) (h1 : p < T 0 0) : atM M 5 8 p = T 3 p.toNat := by
  have := ho.1.1.2.1
  rw [atM_in _ _ _ h0 (by omega)]
  exact (h.1.2.1 p.toNat (by omega)).2.2.1
theorem WC.family {T : TW} {R : Nat → RL} {v : Nat → Int} {M : KM} (h : WC T R v M) (ho : WO T R v) {p : Int} (h0 : 0 ≤ p) (h1 : p < T 0 0) : atM M 6 8 p = T 4 p.toNat := by
  have := ho.1.1.2.1
  rw [atM_in _ _ _ h0 (by omega)]
  exact (h.1.2.1 p.toNat (by omega)).2.2.2
theorem WC.from_ {T : TW} {R : Nat → RL} {v : Nat → Int} {M : KM} (h : WC T R v M) (ho : WO T R v) {f : Int} (h0 : 0 ≤ f) (h1 : f < T 0 1) : atM M 7 20 f = T 5 f.toNat := by
  have := ho.1.1.2.2.2.1
  rw [atM_in _ _ _ h0 (by omega)]
  exact (h.1.2.2.1 f.toNat (by omega)).1
theorem WC.to {T : TW} {R : Nat → RL} {v : Nat → Int} {M : KM} (h : WC T R v M) (ho : WO T R v) {f : Int} (h0 : 0 ≤ f) (h1 : f < T 0 1) : atM M 8 20 f = T 6 f.toNat := by
  have := ho.1.1.2.2.2.1
  rw [atM_in _ _ _ h0 (by omega)]
  exact (h.1.2.2.1 f.toNat (by omega)).2.1
theorem WC.price {T : TW} {R : Nat → RL} {v : Nat → Int} {M : KM} (h : WC T R v M) (ho : WO T R v) {f : Int} (h0 : 0 ≤ f) (h1 : f < T 0 1) : atM M 9 20 f = T 7 f.toNat := by
  have := ho.1.1.2.2.2.1
  rw [atM_in _ _ _ h0 (by omega)]
  exact (h.1.2.2.1 f.toNat (by omega)).2.2
/-- what of the first side these questions may change -/
def pN (k j : Nat) : Prop := (2 ≤ k ∧ k ≤ 12 ∧ ¬ (k = 11 ∧ j = 3)) ∨ (34 ≤ k ∧ k ≤ 40)
theorem CRule.congr {M M' : KM} {s : Int} {L : RL} (h : CRule 2 M s L) (h1 : M' 11 1 = M 11 1) (h2 : M' 12 = M 12) : CRule 2 M' s L := by
  unfold CRule at h ⊢
  show 0 ≤ s ∧ s + L.length < M' 11 1 ∧ (∀ i q, L[i]? = some q → M' 12 (s.toNat + i) = encC q) ∧ M' 12 (s.toNat + L.length) = 0
  rw [h1, h2]; exact h
theorem WC.congr {T : TW} {R : Nat → RL} {v : Nat → Int} {M M' : KM} (h : WC T R v M) (he : ∀ k j, pN k j → M' k j = M k j) : WC T R v M' := by
  have g : ∀ k, 2 ≤ k ∧ k ≤ 10 ∨ 34 ≤ k ∧ k ≤ 40 ∨ k = 12 → M' k = M k := fun k hk => by
    funext j; exact he k j (by unfold pN; omega)
  have g11 : M' 11 1 = M 11 1 := he 11 1 (by unfold pN; omega)
  have g12 := g 12 (by omega)
  obtain ⟨⟨h1, h2, h3, h4, h5, h6⟩, h7⟩ := h
  refine ⟨⟨?_, ?_, ?_, ?_, ?_, ?_⟩, ?_⟩
  · rw [g 2 (by omega)]; exact h1
  · show ∀ p : Nat, (p : Int) < T 0 0 → M' 3 p = T 1 p ∧ M' 4 p = T 2 p ∧ M' 5 p = T 3 p ∧ M' 6 p = T 4 p
    rw [g 3 (by omega), g 4 (by omega), g 5 (by omega), g 6 (by omega)]; exact h2
  · show ∀ f : Nat, (f : Int) < T 0 1 → M' 7 f = T 5 f ∧ M' 8 f = T 6 f ∧ M' 9 f = T 7 f
    rw [g 7 (by omega), g 8 (by omega), g 9 (by omega)]; exact h3
  · intro r hr
    show CRule 2 M' (M' 10 r) (R r)
    rw [g 10 (by omega)]
    exact (h4 r hr).congr g11 g12
  · rw [g 2 (by omega)]
    exact ⟨h5.1, fun hq => (h5.2 hq).congr g11 g12⟩
  · show 0 ≤ M' 11 1 ∧ M' 11 1 ≤ 1600
    rw [g11]; exact h6
  · unfold SC at h7 ⊢
    rw [g 34 (by omega), g (34 + 1) (by omega), g (34 + 2) (by omega), g (34 + 3) (by omega), g (34 + 4) (by omega), g (34 + 5) (by omega), g (34 + 6) (by omega)]
    exact h7
theorem pN_pV {k j : Nat} (h : pN k j) : ¬ pV k j := by unfold pN at h; unfold pV; omega
theorem WC.v {T : TW} {R : Nat → RL} {v : Nat → Int} {M M' : KM} (h : WC T R v M) (hf : Fp pV M M') : WC T R v M' := h.congr fun k j hk => hf k j (pN_pV hk)
theorem CAt_of {M : KM} {s : Int} {L : RL} (h : CRule 2 M s L) (h2 : M 11 1 ≤ 1600) : CAt M s L := ⟨h.1, h.2.1, h2, h.2.2.1, h.2.2.2⟩
theorem X_wouldHave {T : TW} {R : Nat → RL} {v : Nat → Int} {M : KM} (h : WC T R v M) (ho : WO T R v) (p r age : Int) : Ret (f_X_wouldHave p r age M) (fun q => q.1 = hasV T R v p r age ∧ Fp pV M q.2) := by
  unfold f_X_wouldHave hasV
  rw [e_X_isAlive h.n h.alive ho.2, ob_some]
  by_cases ha : alv v p = true
  · have hp := alv_R ho.2 ha
    rw [if_pos ha]
    refine Ret.f (by omega) ?_
    rw [e_X_isRight, ob_some, h.rights]
    by_cases hr : 0 ≤ r ∧ r < T 0 2
    · rw [if_pos hr]
      refine Ret.f (by omega) (Ret.letI ?_)
      have hr6 := ho.1.1.2.2.2.2.2.1
      have hR := h.1.2.2.2.1 r.toNat (by omega)
      have hR : CRule 2 M (M 10 r.toNat) (R r.toNat) := hR
      rw [h.coin ho hp.1 hp.2, h.family ho hp.1 hp.2, h.year, atM_in _ _ _ hr.1 (by omega)]
      refine Ret.bind (X_value age _ _ _ (CAt_of hR h.1.2.2.2.2.2.2) (ho.1.2.2.2.2.1 r.toNat (by omega))) ?_
      rintro ⟨x, M'⟩ ⟨h1, h2⟩
      dsimp only at h1 h2 ⊢
      subst h1
      by_cases hx : evr age (v (8 + p.toNat)) (T 4 p.toNat) (v 19) (R r.toNat) [] = 0
      · rw [if_pos hx, ob_some, if_pos (by omega), if_neg (fun q => q.2.2 hx)]
        exact Ret.pure ⟨rfl, h2⟩
      · rw [if_neg hx, ob_some, if_pos (by omega), if_pos ⟨ha, hr, hx⟩]
        exact Ret.pure ⟨rfl, h2⟩
    · rw [if_neg hr]
      exact Ret.t rfl (Ret.pure ⟨(if_neg (fun q => hr q.2.1)).symm, Fp.rf⟩)
  · rw [if_neg ha]
    exact Ret.t rfl (Ret.pure ⟨(if_neg (fun q => ha q.1)).symm, Fp.rf⟩)
theorem X_hasNow {T : TW} {R : Nat → RL} {v : Nat → Int} {M : KM} (h : WC T R v M) (ho : WO T R v) {p : Int} (h0 : 0 ≤ p) (h1 : p < T 0 0) (r : Int) : Ret (f_X_hasNow p r M) (fun q => q.1 = hasV T R v p r (v p.toNat) ∧ Fp pV M q.2) := by
  unfold f_X_hasNow
  rw [h.age ho h0 h1]
  refine Ret.bind (X_wouldHave h ho _ _ _) ?_
  rintro ⟨x, M'⟩ ⟨h2, h3⟩
  dsimp only at h2 h3 ⊢
  have := hasV_01 T R v p r (v p.toNat)
  exact Ret.t (by omega) (Ret.pure ⟨h2, h3⟩)
theorem X_value0 {M : KM} (A C F Y : Int) : Ret (f_Formulas_value (-1) A C F Y M) (fun q => q.1 = 0 ∧ Fp pV M q.2) := by
  unfold f_Formulas_value
  rw [letM_e]
  have f0 : Fp pV M (mupd M 11 3 0) := Fp.rf.upd (Or.inr ⟨rfl, rfl⟩)
  rw [whileO_inr (e := Sum.inl (mupd M 11 3 0)) (by simp), ob_some]
  dsimp only [Sum.elim_inl]
  have e : f_Formulas_pop (mupd M 11 3 0) = some (0, mupd M 11 3 0) := by
    unfold f_Formulas_pop
    rw [mupd_same]; simp
  rw [e, ob_some]
  exact Ret.pure ⟨rfl, f0⟩
theorem X_oddsAt {T : TW} {R : Nat → RL} {v : Nat → Int} {M : KM} (h : WC T R v M) (ho : WO T R v) (age : Int) : Ret (f_X_oddsAt age M) (fun q => q.1 = oddV T R v age ∧ Fp pV M q.2) := by
  unfold f_X_oddsAt oddV
  rw [h.year]
  rcases ho.1.1.2.2.2.2.2.2.2.2.2.2.2.2.2 with hq | hq
  · rw [h.1.2.2.2.2.1.1 hq, if_pos hq]
    refine Ret.bind (X_value0 _ _ _ _) ?_
    rintro ⟨x, M'⟩ ⟨h2, h3⟩
    dsimp only at h2 h3 ⊢
    subst h2
    exact Ret.pure ⟨by dsimp only; omega, h3⟩
  · rw [if_neg (by omega)]
    refine Ret.bind (X_value age _ _ _ (CAt_of (h.1.2.2.2.2.1.2 hq) h.1.2.2.2.2.2.2) (ho.1.2.2.2.2.2 hq)) ?_
    rintro ⟨x, M'⟩ ⟨h2, h3⟩
    dsimp only at h2 h3 ⊢
    subst h2
    exact Ret.pure ⟨rfl, h3⟩
/-! THE SECOND SIDE -/
def pR (k j : Nat) : Prop := (384 < k ∧ k < 410) ∨ k = 411 ∨ (k = 382 ∧ j = 37)
theorem WM.congr {b : Nat} {T : TW} {R : Nat → RL} {v : Nat → Int} {M M' : KM} (h : WM b T R v M) (he : ∀ k j, pR k j → M' k j = M k j) : WM b T R v M' := by
  have g : ∀ k, 384 < k ∧ k < 410 ∨ k = 411 → M' k = M k := fun k hk => by
    funext j; exact he k j (by unfold pR; omega)
  obtain ⟨h1, ⟨h2, h3, h4, h5, h6⟩, h7⟩ := h
  have gr : ∀ r L, MRule b M r L → MRule b M' r L := fun r L hL => by
    unfold MRule at hL ⊢
    rw [g 400 (by omega), g 401 (by omega), g 406 (by omega), g 407 (by omega)]; exact hL
  refine ⟨⟨h1.1, by rw [he 382 37 (by unfold pR; omega)]; exact h1.2⟩, ⟨?_, ?_, ?_, fun r hr => gr _ _ (h5 r hr), fun hq => gr _ _ (h6 hq)⟩, ?_⟩
  · rw [g 385 (by omega), g 386 (by omega), g 387 (by omega), g 388 (by omega), g 389 (by omega), g 390 (by omega), g 391 (by omega), g 403 (by omega)]; exact h2
  · rw [g 393 (by omega), g 394 (by omega), g 395 (by omega), g 396 (by omega)]; exact h3
  · rw [g 397 (by omega), g 398 (by omega), g 399 (by omega)]; exact h4
  · unfold SM at h7 ⊢
    rw [g 411 (by omega)]; exact h7
theorem pR_pW {k j : Nat} (h : pR k j) : ¬ pW k j := by unfold pR at h; unfold pW; omega
theorem WM.w {b : Nat} {T : TW} {R : Nat → RL} {v : Nat → Int} {M M' : KM} (h : WM b T R v M) (hf : Fp pW M M') : WM b T R v M' := h.congr fun k j hk => hf k j (pR_pW hk)
theorem WM.all {b : Nat} {T : TW} {R : Nat → RL} {v : Nat → Int} {M : KM} (h : WM b T R v M) {j : Nat} (hj : j < 171) : M 411 j = v j := by
  have := h.2.2 j hj
  rwa [Nat.zero_add] at this
theorem M_wouldHave {b : Nat} {T : TW} {R : Nat → RL} {v : Nat → Int} {M : KM} (h : WM b T R v M) (ho : WO T R v) {p r : Int} (hp0 : 0 ≤ p) (hp1 : p < T 0 0) (hr : 0 ≤ r ∧ r < T 0 2) (age : Int) : Ret (f_M_wouldHave p r age M) (fun q => q.1 = hasV T R v p r age ∧ Fp pW M q.2) := by
  have hb1 := h.1.1
  have hn := ho.1.1.2.1
  have hr6 := ho.1.1.2.2.2.2.2.1
  obtain ⟨n, rfl⟩ := Int.eq_ofNat_of_zero_le hp0
  obtain ⟨r, rfl⟩ := Int.eq_ofNat_of_zero_le hr.1
  unfold f_M_wouldHave hasV
  refine Ret.letM ?_
  rw [w32e (n := 8 + (n : Int)) (by omega) (by omega)]
  refine Ret.t (by omega) (Ret.letM ?_)
  have e1 : mupd (mupd M 382 43 age) 382 44 (mupd M 382 43 age 411 (8 + (n : Int)).toNat) 382 37 = (b : Int) := by
    rw [mupd_ne2 _ _ (by omega), mupd_ne2 _ _ (by omega)]; exact h.1.2
  rw [e1, w32e (n := 8 * (b : Int)) (by omega) (by omega), w32e (n := 8 * (b : Int) + n) (by omega) (by omega)]
  refine Ret.t (by omega) (Ret.letM ?_)
  have e2 : (8 + (n : Int)).toNat = 8 + n := by omega
  have e3 : (8 * (b : Int) + n).toNat = 8 * b + n := by omega
  have eC : mupd M 382 43 age 411 (8 + n) = v (8 + n) := by rw [mupd_ne _ _ (by omega)]; exact h.all (by omega)
  have eF : ∀ x, mupd (mupd M 382 43 age) 382 44 x 396 (8 * b + n) = T 4 n := by
    intro x
    rw [mupd_ne _ _ (by omega), mupd_ne _ _ (by omega)]; exact (h.2.1.2.1 n hp1).2.2.2
  rw [e2, e3, eC, eF]
  generalize hM3 : mupd (mupd (mupd M 382 43 age) 382 44 (v (8 + n))) 382 45 (T 4 n) = M3
  have f3 : Fp pW M M3 := by
    rw [← hM3]
    exact ((Fp.rf.upd (Or.inr ⟨rfl, Or.inl rfl⟩)).upd (Or.inr ⟨rfl, Or.inr (Or.inl rfl)⟩)).upd (Or.inr ⟨rfl, Or.inr (Or.inr rfl)⟩)
  have h3 := h.w f3
  rw [e_M_isAlive (h3.all (by omega)) ho.2 (by omega) (by omega), ob_some]
  by_cases ha : alv v n = true
  · rw [if_pos ha]
    have x1 : M3 382 43 = age := by rw [← hM3, mupd_ne2 _ _ (by omega), mupd_ne2 _ _ (by omega), mupd_same]
    have x2 : M3 382 44 = v (8 + n) := by rw [← hM3, mupd_ne2 _ _ (by omega), mupd_same]
    have x3 : M3 382 45 = T 4 n := by rw [← hM3, mupd_same]
    refine Ret.bind (R := fun t => t.1 = (if alv v n = true ∧ (0 ≤ (r : Int) ∧ (r : Int) < T 0 2) ∧ evr age (v (8 + n)) (T 4 n) (v 19) (R r) [] ≠ 0 then 1 else 0) ∧ Fp pW M t.2) (Ret.f (by omega) ?_) ?_
    · refine Ret.bind (M_comes h3.1 (by omega) (h3.2.1.2.2.2.1 r hr.2) (ho.1.2.2.2.2.1 r hr.2) x1 x2 x3 (h3.all (by omega))) ?_
      rintro ⟨x, M'⟩ ⟨h1, h2⟩
      dsimp only at h1 h2 ⊢
      subst h1
      have f4 : Fp pW M M' := f3.tr (h2.mono fun k j hk => Or.inl hk)
      refine Ret.br (fun hx => Ret.pure ⟨?_, f4⟩) (fun hx => Ret.pure ⟨?_, f4⟩)
      · rw [if_neg (fun q => q.2.2 hx)]
      · rw [if_pos ⟨ha, hr, hx⟩]
    · rintro ⟨x, M'⟩ ⟨h1, h2⟩
      dsimp only at h1 h2 ⊢
      refine Ret.t (by rw [h1]; exact if01) (Ret.pure ⟨h1, h2⟩)
  · rw [if_neg ha, if_pos rfl, ob_some]
    exact Ret.t (by dsimp only; omega) (Ret.pure ⟨(if_neg (fun q => ha q.1)).symm, f3⟩)
theorem M_doesHave {b : Nat} {T : TW} {R : Nat → RL} {v : Nat → Int} {M : KM} (h : WM b T R v M) (ho : WO T R v) {p r : Int} (hp0 : 0 ≤ p) (hp1 : p < T 0 0) (hr : 0 ≤ r ∧ r < T 0 2) : Ret (f_M_doesHave p r M) (fun q => q.1 = hasV T R v p r (v p.toNat) ∧ Fp pW M q.2) := by
  have hn := ho.1.1.2.1
  unfold f_M_doesHave
  rw [Int.zero_add, w32e (by omega) (by omega)]
  refine Ret.t (by omega) ?_
  rw [h.all (by omega)]
  refine Ret.bind (M_wouldHave h ho hp0 hp1 hr _) ?_
  rintro ⟨x, M'⟩ ⟨h2, h3⟩
  dsimp only at h2 h3 ⊢
  have := hasV_01 T R v p r (v p.toNat)
  exact Ret.t (by omega) (Ret.pure ⟨h2, h3⟩)
theorem M_oddsOf {b : Nat} {T : TW} {R : Nat → RL} {v : Nat → Int} {M : KM} (h : WM b T R v M) (ho : WO T R v) (age : Int) : Ret (f_M_oddsOf age M) (fun q => q.1 = oddV T R v age ∧ Fp pW M q.2) := by
  have hb1 := h.1.1
  unfold f_M_oddsOf oddV
  rw [h.1.2, w32e (n := 7 * (b : Int)) (by omega) (by omega), w32e (n := 7 * (b : Int) + 6) (by omega) (by omega)]
  refine Ret.t (by omega) ?_
  have e : (7 * (b : Int) + 6).toNat = 7 * b + 6 := by omega
  rw [e, h.2.1.1.2.2.2.2.2.2.2]
  rcases ho.1.1.2.2.2.2.2.2.2.2.2.2.2.2.2 with hq | hq
  · exact Ret.t hq (Ret.pure ⟨(if_pos hq).symm, Fp.rf⟩)
  · have hq0 : ¬ T 0 7 = 0 := by omega
    refine Ret.f hq0 (Ret.letM (Ret.letM (Ret.letM ?_)))
    rw [if_neg hq0]
    generalize hM3 : mupd (mupd (mupd M 382 43 age) 382 44 0) 382 45 0 = M3
    have f3 : Fp pW M M3 := by
      rw [← hM3]
      exact ((Fp.rf.upd (Or.inr ⟨rfl, Or.inl rfl⟩)).upd (Or.inr ⟨rfl, Or.inr (Or.inl rfl)⟩)).upd (Or.inr ⟨rfl, Or.inr (Or.inr rfl)⟩)
    have h3 := h.w f3
    have x1 : M3 382 43 = age := by rw [← hM3, mupd_ne2 _ _ (by omega), mupd_ne2 _ _ (by omega), mupd_same]
    have x2 : M3 382 44 = 0 := by rw [← hM3, mupd_ne2 _ _ (by omega), mupd_same]
    have x3 : M3 382 45 = 0 := by rw [← hM3, mupd_same]
    have hc := M_comes (r := 6) h3.1 (by omega) (h3.2.1.2.2.2.2 hq) (ho.1.2.2.2.2.2 hq) x1 x2 x3 (h3.all (by omega))
    refine Ret.bind hc ?_
    rintro ⟨x, M'⟩ ⟨h1, h2⟩
    dsimp only at h1 h2 ⊢
    subst h1
    have f4 : Fp pW M M' := f3.tr (h2.mono fun k j hk => Or.inl hk)
    generalize evr age 0 0 (v 19) (R 6) [] = z
    by_cases hz : z < 0
    · rw [if_pos hz, ob_some]; exact Ret.pure ⟨by dsimp only; omega, f4⟩
    · by_cases hz2 : z ≤ 100
      · rw [if_neg hz, if_pos hz2, ob_some]; exact Ret.pure ⟨by dsimp only; omega, f4⟩
      · rw [if_neg hz, if_neg hz2, ob_some]; exact Ret.pure ⟨by dsimp only; omega, f4⟩
