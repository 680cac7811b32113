/-! A YEAR: the second side -/
set_option maxRecDepth 20000 in
theorem M_year {b : Nat} {T : TW} {R : Nat → RL} {v : Nat → Int} {M : KM} {a u : Nat} {hs : HS} (h : WM b T R v M) (ho : WO T R v) (hH : HM a u hs M) (hva : hs a = v) : Ret (f_M_year M) (MPost a hs (yearR T R v) M) := by
  have o := ho.1.1
  have os := ho.2.1
  have hb := h.1.1
  have i16 : (16 : Int).toNat = 16 := rfl
  have i17 : (17 : Int).toNat = 17 := rfl
  have i19 : (19 : Int).toNat = 19 := rfl
  have i20 : (20 : Int).toNat = 20 := rfl
  have e19 : M 411 19 = v 19 := h.all (by omega)
  unfold f_M_year yearR
  simp only [i16, i17, i19, i20]
  refine Ret.t (by omega) ?_
  rw [e19]
  by_cases hy : v 19 < 1000
  · rw [if_neg (show ¬ v 19 = 1000 by omega), if_pos hy]
    have w0 : WO T R (vset v 19 (w32 (v 19 + 1))) := ⟨ho.1, okS_year ho.2 o.2.1 hy⟩
    have e170 : vset v 19 (w32 (v 19 + 1)) 17 = v 17 := vset_ne _ _ (by omega)
    generalize hs0 : vset v 19 (w32 (v 19 + 1)) = s0 at w0 e170 ⊢
    have w1 : WO T R (growS T s0 (T 0 0).toNat) := ⟨ho.1, okS_grow w0 (by omega)⟩
    have e171 : growS T s0 (T 0 0).toNat 17 = v 17 := by rw [growS_hi (by omega) (by omega), e170]
    generalize hs1 : growS T s0 (T 0 0).toNat = s1 at w1 e171 ⊢
    have hbk := fun l hl => backS_ok w1 l (by rw [e171]; exact hl)
    have w2 : WO T R (backS T s1 (v 17).toNat) := ⟨ho.1, (hbk (v 17).toNat (by omega)).1⟩
    generalize hs2 : backS T s1 (v 17).toNat = s2 at w2 ⊢
    refine Ret.bind (M_keepAct (v' := (dieS T R s2 (T 0 0).toNat).2) hH h.2.2 (fun j _ => by rw [hva])) ?_
    rintro M1 ⟨y1, y2, y3, y4⟩
    have t1 : SM 411 0 v M1 := h.2.2.congr (fun j _ => y4 _ _ (by unfold pHM; omega))
    have z19 : M1 411 19 = v 19 := t1.at (by omega)
    have w1m : WM b T R v M1 := h.st t1 (fun k j hk => y4 k j (by unfold pHM; omega))
    rw [z19]
    refine Ret.t (by omega) (Ret.t (by omega) (Ret.letM ?_))
    have t2 : SM 411 0 s0 (mupd M1 411 19 (w32 (v 19 + 1))) := by rw [← hs0]; exact SM_set t1 19 _
    have w2m : WM b T R s0 (mupd M1 411 19 (w32 (v 19 + 1))) := w1m.st t2 (fun k j hk => mupd_ne _ _ (by omega))
    have f2 : ∀ c, c ≠ 411 → mupd M1 411 19 (w32 (v 19 + 1)) c = M1 c := fun c hc => by funext j; exact mupd_ne _ _ hc
    -- all are one year older
    refine Ret.bind (R := fun M' => WM b T R s1 M' ∧ ∀ c, c ≠ 411 → M' c = M1 c) (Ret.loop (T 0 0).toNat (fun i s => s.1 = (i : Int) ∧ WM b T R (growS T s0 i) s.2 ∧ ∀ c, c ≠ 411 → s.2 c = M1 c) ⟨rfl, w2m, f2⟩ ?_ ?_) ?_
    · rintro i s hi ⟨h1, h2, h3⟩
      have hi' : (i : Int) < T 0 0 := by omega
      have hok := okS_grow w0 (i := i) (by omega)
      have wo : WO T R (growS T s0 i) := ⟨ho.1, hok⟩
      have a1 := h2.age wo (p := i) (by omega) hi'
      have e4 : s.2 391 b = T 0 4 := h2.2.1.1.2.2.2.2.1
      have ag := ho.2.2.2.1 i hi'
      have egr : growS T s0 i i = v i := by rw [growS_at T s0 i (by omega), if_neg (by omega), ← hs0, vset_ne _ _ (by omega)]
      rw [Int.toNat_natCast] at a1
      rw [h1, e_M_many h2.1, ob_some, h2.n]
      refine Ret.t hi' ?_
      rw [e_M_isAlive (h2.all (by omega)) hok (by omega) (by omega), ob_some, w32e (n := (i : Int) + 1) (by omega) (by omega), a1.1, Int.toNat_natCast, a1.2.2, egr, w32e (n := v i + 1) (by omega) (by omega)]
      refine Ret.bind (R := fun M' => WM b T R (growS T s0 (i + 1)) M' ∧ ∀ c, c ≠ 411 → M' c = M1 c) ?_ ?_
      · rw [growS_s]
        by_cases ha : alv (growS T s0 i) i = true
        · rw [if_pos ha, if_pos ha, egr]
          refine Ret.f (by omega) (Ret.t a1.2.1 (Ret.t (by rw [h2.1.2]; omega) ?_))
          by_cases hlt : v i < T 0 4
          · refine Ret.t (by rw [h2.1.2, Int.toNat_natCast, e4]; exact hlt) (Ret.t a1.2.1 (Ret.t a1.2.1 (Ret.letM (Ret.pure ⟨?_, fun c hc => by rw [← h3 c hc]; funext j; exact mupd_ne _ _ hc⟩))))
            rw [show min (T 0 4) (v i + 1) = v i + 1 by omega]
            exact h2.st (SM_set h2.2.2 i _) (fun k j hk => mupd_ne _ _ (by omega))
          · refine Ret.f (by rw [h2.1.2, Int.toNat_natCast, e4]; exact hlt) (Ret.pure ⟨?_, h3⟩)
            have : min (T 0 4) (v i + 1) = growS T s0 i i := by rw [egr]; omega
            rw [this]
            have : vset (growS T s0 i) i (growS T s0 i i) = growS T s0 i := by
              funext j
              by_cases hj : j = i
              · subst hj; rw [vset_same]
              · rw [vset_ne _ _ hj]
            rw [this]
            exact h2
        · rw [if_neg ha, if_neg ha]
          exact Ret.t rfl (Ret.pure ⟨h2, h3⟩)
      · rintro M2 ⟨g1, g2⟩
        exact Ret.pure ⟨by dsimp only; omega, g1, g2⟩
    · rintro s ⟨h1, h2, h3⟩
      rw [h1, e_M_many h2.1, ob_some, h2.n]
      exact Ret.f (by omega) (Ret.pure ⟨by rw [← hs1]; exact h2, h3⟩)
    · rintro M2 ⟨k1, k2⟩
      -- LOANS come back
      refine Ret.bind (R := fun M' => WM b T R s2 M' ∧ ∀ c, c ≠ 411 → M' c = M1 c) (Ret.loop (v 17).toNat (fun l s => s.1 = (l : Int) ∧ WM b T R (backS T s1 l) s.2 ∧ ∀ c, c ≠ 411 → s.2 c = M1 c) ⟨rfl, k1, k2⟩ ?_ ?_) ?_
      · rintro l s hl ⟨h1, h2, h3⟩
        obtain ⟨q1, q2, q3⟩ := hbk l (by omega)
        have wo : WO T R (backS T s1 l) := ⟨ho.1, q1⟩
        have e17 : s.2 411 17 = v 17 := by rw [h2.all (by omega), q2, e171]
        have e25 : s.2 411 (25 + 5 * l) = backS T s1 l (25 + 5 * l) := h2.all (by omega)
        have e24 : s.2 411 (24 + 5 * l) = backS T s1 l (24 + 5 * l) := h2.all (by omega)
        have e19' : s.2 411 19 = backS T s1 l 19 := h2.all (by omega)
        rw [h1, w32e (n := 5 * (l : Int)) (by omega) (by omega), w32e (n := 21 + 5 * (l : Int)) (by omega) (by omega), w32e (n := 21 + 5 * (l : Int) + 4) (by omega) (by omega), w32e (n := 21 + 5 * (l : Int) + 3) (by omega) (by omega), w32e (n := (l : Int) + 1) (by omega) (by omega)]
        have j4 : (21 + 5 * (l : Int) + 4).toNat = 25 + 5 * l := by omega
        have j3 : (21 + 5 * (l : Int) + 3).toNat = 24 + 5 * l := by omega
        have jj : (21 + 5 * (l : Int)) = ((21 + 5 * l : Nat) : Int) := by omega
        rw [j4, j3, e25, e24, e19']
        refine Ret.t (by omega) (Ret.t (by rw [e17]; omega) (Ret.t (by omega) ?_))
        refine Ret.bind (R := fun M' => WM b T R (backS T s1 (l + 1)) M' ∧ ∀ c, c ≠ 411 → M' c = M1 c) ?_ ?_
        · by_cases hz : backS T s1 l (25 + 5 * l) = 0
          · refine Ret.t hz (Ret.t (by omega) (Ret.t (by omega) ?_))
            by_cases hyy : backS T s1 l (24 + 5 * l) = backS T s1 l 19
            · rw [backS_s, if_pos (show backS T s1 l (25 + 5 * l) = 0 ∧ backS T s1 l (24 + 5 * l) = backS T s1 l 19 from ⟨hz, hyy⟩)]
              refine Ret.t hyy ?_
              rw [jj]
              refine Ret.bind (M_comeBack h2 wo (l := l) (by omega)) ?_
              rintro M3 ⟨g1, g2⟩
              exact Ret.pure ⟨h2.st g1 (fun k j hk => by rw [g2 k (by omega)]), fun c hc => by rw [g2 c hc, h3 c hc]⟩
            · have hcond : ¬ (backS T s1 l (25 + 5 * l) = 0 ∧ backS T s1 l (24 + 5 * l) = backS T s1 l 19) := fun q => hyy q.2
              rw [backS_s, if_neg hcond]
              exact Ret.f hyy (Ret.pure ⟨h2, h3⟩)
          · have hcond : ¬ (backS T s1 l (25 + 5 * l) = 0 ∧ backS T s1 l (24 + 5 * l) = backS T s1 l 19) := fun q => hz q.1
            rw [backS_s, if_neg hcond]
            exact Ret.f hz (Ret.pure ⟨h2, h3⟩)
        · rintro M3 ⟨g1, g2⟩
          exact Ret.pure ⟨by dsimp only; omega, g1, g2⟩
      · rintro s ⟨h1, h2, h3⟩
        obtain ⟨q1, q2, q3⟩ := hbk (v 17).toNat (by omega)
        have e17 : s.2 411 17 = v 17 := by rw [h2.all (by omega), q2, e171]
        exact Ret.t (by omega) (Ret.f (by rw [h1, e17]; omega) (Ret.pure ⟨by rw [← hs2]; exact h2, h3⟩))
      · rintro M3 ⟨l1, l2⟩
        -- deaths
        refine Ret.bind (R := fun q => q.1 = (dieS T R s2 (T 0 0).toNat).1 ∧ WM b T R (dieS T R s2 (T 0 0).toNat).2 q.2 ∧ ∀ k j, ¬ (k = 411 ∨ pW k j) → q.2 k j = M1 k j) (Ret.loop (T 0 0).toNat (fun p s => s.1 = (dieS T R s2 p).1 ∧ s.2.1 = (p : Int) ∧ WM b T R (dieS T R s2 p).2 s.2.2 ∧ ∀ k j, ¬ (k = 411 ∨ pW k j) → s.2.2 k j = M1 k j) ⟨rfl, rfl, l1, fun k j hk => by dsimp only; rw [l2 k (fun q => hk (Or.inl q))]⟩ ?_ ?_) ?_
        · rintro p s hp ⟨h1, h2, h3, h4⟩
          have hp' : (p : Int) < T 0 0 := by omega
          have hok := dieS_ok w2 p (by omega)
          have ho1 : WO T R (dieS T R s2 p).2 := ⟨ho.1, hok⟩
          have hok2 := okS_seed hok o.2.1
          have ho2 : WO T R (vset (dieS T R s2 p).2 20 (seedV ((dieS T R s2 p).2 20))) := ⟨ho.1, hok2⟩
          rw [h2, e_M_many h3.1, ob_some, h3.n]
          refine Ret.t hp' ?_
          rw [e_M_isAlive (h3.all (by omega)) hok (by omega) (by omega), ob_some, w32e (n := (p : Int) + 1) (by omega) (by omega)]
          refine Ret.bind (R := fun q => q.1 = (dieS T R s2 (p + 1)).1 ∧ WM b T R (dieS T R s2 (p + 1)).2 q.2 ∧ ∀ k j, ¬ (k = 411 ∨ pW k j) → q.2 k j = M1 k j) ?_ ?_
          · rw [dieS_s]
            by_cases ha : alv (dieS T R s2 p).2 p = true
            · rw [if_pos ha, if_pos ha]
              have e20 : s.2.2 411 20 = (dieS T R s2 p).2 20 := h3.all (by omega)
              have esd : krem (w32 (w32 (137 * (dieS T R s2 p).2 20) + 71)) 1000 = seedV ((dieS T R s2 p).2 20) := by unfold seedV; rw [Int.mul_comm]
              rw [e20, esd]
              refine Ret.f (by omega) (Ret.t (by omega) (Ret.f (by omega) (Ret.t (by omega) (Ret.letM (Ret.t (by omega) (Ret.f (by omega) ?_))))))
              have w3 : WM b T R (vset (dieS T R s2 p).2 20 (seedV ((dieS T R s2 p).2 20))) (mupd s.2.2 411 20 (seedV ((dieS T R s2 p).2 20))) := h3.st (SM_set h3.2.2 20 _) (fun k j hk => mupd_ne _ _ (by omega))
              have a1 := w3.age ho2 (p := p) (by omega) hp'
              rw [Int.toNat_natCast] at a1
              rw [a1.1, Int.toNat_natCast, a1.2.2, mupd_same, vset_ne _ _ (show p ≠ 20 by omega)]
              refine Ret.t a1.2.1 (Ret.bind (M_oddsOf w3 ho2 _) ?_)
              rintro q ⟨g1, g2⟩
              have w4 := w3.w g2
              have f4 : ∀ k j, ¬ (k = 411 ∨ pW k j) → q.2 k j = M1 k j := fun k j hk => by
                rw [g2 k j (fun z => hk (Or.inr z)), mupd_ne _ _ (fun z => hk (Or.inl z)), h4 k j hk]
              rw [g1]
              by_cases hc : kdiv (seedV ((dieS T R s2 p).2 20)) 10 < oddV T R (vset (dieS T R s2 p).2 20 (seedV ((dieS T R s2 p).2 20))) ((dieS T R s2 p).2 p)
              · refine Ret.t hc (Ret.t (by omega) (Ret.t (by omega) (Ret.letM (Ret.pure ?_))))
                rw [if_pos hc]
                rw [alv_nat] at ha
                have e16 : q.2 411 16 = (dieS T R s2 p).2 16 := by rw [w4.all (by omega), vset_ne _ _ (by omega)]
                have hcl := clear_ok (p := p) hok.1.1 hok.1.2.1 (by omega) ha
                rw [e16, hcl.2.1]
                refine ⟨by dsimp only; rw [h1], ?_, fun k j hk => by dsimp only; rw [mupd_ne _ _ (fun z => hk (Or.inl z))]; exact f4 k j hk⟩
                exact w4.st (SM_set w4.2.2 16 _) (fun k j hk => mupd_ne _ _ (by omega))
              · refine Ret.f hc (Ret.pure ?_)
                rw [if_neg hc]
                exact ⟨h1, w4, f4⟩
            · rw [if_neg ha, if_neg ha]
              exact Ret.t rfl (Ret.pure ⟨h1, h3, h4⟩)
          · rintro q ⟨g1, g2, g3⟩
            exact Ret.pure ⟨g1, by dsimp only; omega, g2, g3⟩
        · rintro s ⟨h1, h2, h3, h4⟩
          rw [h2, e_M_many h3.1, ob_some, h3.n]
          exact Ret.f (by omega) (Ret.pure ⟨h1, h3, h4⟩)
        · rintro q ⟨g1, g2, g3⟩
          refine Ret.pure ⟨g1, g2.2.2, ⟨?_, by unfold hA; split <;> omega, fun i hi j hj => ?_, fun j hj => absurd hj (Nat.not_lt_zero _)⟩, fun k j hk => ?_⟩
          · dsimp only
            rw [g3 382 48 (by unfold pW; omega), g3 382 49 (by unfold pW; omega)]
            exact ⟨y1, y2⟩
          · dsimp only
            rw [g3 412 _ (by unfold pW; omega)]
            exact y3 i hi j hj
          · unfold pActM at hk
            dsimp only
            rw [g3 k j (fun z => hk (by rcases z with z | z; exact Or.inl z; exact Or.inr (Or.inr (Or.inr z)))), y4 k j (fun z => hk (by unfold pHM at z; rcases z with z | z; exact Or.inr (Or.inl z); exact Or.inr (Or.inr (Or.inl z))))]
  · rw [if_pos (show v 19 = 1000 by omega), if_neg hy]
    exact Ret.pure rfl
