/-! DEATHS, THE YEAR ON BOTH SIDES -/
def seedV (x : Int) : Int := krem (w32 (w32 (x * 137) + 71)) 1000
theorem seedV_R {x : Int} (h : 0 ≤ x) (h2 : x < 1000) : 0 ≤ seedV x ∧ seedV x < 1000 := by
  unfold seedV
  rw [w32e (n := x * 137) (by omega) (by omega), w32e (by omega) (by omega), krem_nn (by omega) (by omega) (by omega) (by omega)]
  omega
def dieS (T : TW) (R : Nat → RL) (v : Nat → Int) : Nat → Int × (Nat → Int) := itF (fun p s => if alv s.2 p = true then (if kdiv (seedV (s.2 20)) 10 < oddV T R (vset s.2 20 (seedV (s.2 20))) (s.2 p) then (w32 (s.1 + 1), vset (vset s.2 20 (seedV (s.2 20))) 16 (s.2 16 - 2 ^ p)) else (s.1, vset s.2 20 (seedV (s.2 20)))) else s) (0, v)
theorem dieS_s (T : TW) (R : Nat → RL) (v : Nat → Int) (p : Nat) : dieS T R v (p + 1) = if alv (dieS T R v p).2 p = true then (if kdiv (seedV ((dieS T R v p).2 20)) 10 < oddV T R (vset (dieS T R v p).2 20 (seedV ((dieS T R v p).2 20))) ((dieS T R v p).2 p) then (w32 ((dieS T R v p).1 + 1), vset (vset (dieS T R v p).2 20 (seedV ((dieS T R v p).2 20))) 16 ((dieS T R v p).2 16 - 2 ^ p)) else ((dieS T R v p).1, vset (dieS T R v p).2 20 (seedV ((dieS T R v p).2 20)))) else dieS T R v p := rfl
theorem okS_seed {T : TW} {v : Nat → Int} (h : okS T v) (hn : T 0 0 ≤ 8) : okS T (vset v 20 (seedV (v 20))) := by
  obtain ⟨k1, k2, k3, k4⟩ := h
  have hs := seedV_R (x := v 20) (by omega) (by omega)
  refine ⟨?_, ?_, fun p hp => ?_, fun i hi => ?_⟩
  · rw [vset_ne _ _ (show 16 ≠ 20 by omega), vset_ne _ _ (show 17 ≠ 20 by omega), vset_ne _ _ (show 19 ≠ 20 by omega), vset_same]; omega
  · rw [vset_ne _ _ (by omega)]; exact k2
  · rw [vset_ne _ _ (by omega)]; exact k3 p hp
  · rw [vset_ne _ _ (by omega)] at hi
    rw [vset_ne _ _ (by omega), vset_ne _ _ (by omega), vset_ne _ _ (by omega), vset_ne _ _ (by omega)]
    exact k4 i hi
theorem clear_ok {a : Int} {p : Nat} (h0 : 0 ≤ a) (h1 : a < 256) (hp : p < 8) (hb : bt a p = true) : kiand a (kixor (kishl 1 p) (-1)) = a - 2 ^ p ∧ w32 (a - kishl 1 p) = a - 2 ^ p ∧ 0 ≤ a - 2 ^ p ∧ a - 2 ^ p < 256 ∧ ∀ i, bt (a - 2 ^ p) i = true → bt a i = true := by
  obtain ⟨n, rfl⟩ := Int.eq_ofNat_of_zero_le h0
  have e1 := bt_sub n (by omega) p hp hb
  have e2 := bt_sub2 n (by omega) p hp hb
  obtain ⟨k1, k2, k3⟩ := kiclr_bit (a := (n : Int)) (p := p) (by omega) (by omega) (by omega)
  rw [e1] at k1 k2 k3
  refine ⟨e1, e2, k1, ?_, fun i hi => ?_⟩
  · have : (0 : Int) ≤ 2 ^ p := Int.pow_nonneg (by omega)
    omega
  · rw [k3] at hi
    simp at hi
    exact hi.1
theorem okS_die {T : TW} {v : Nat → Int} (h : okS T v) (hn : T 0 0 ≤ 8) {p : Nat} (hp : p < 8) (hb : bt (v 16) p = true) : okS T (vset v 16 (v 16 - 2 ^ p)) := by
  obtain ⟨k1, k2, k3, k4⟩ := h
  obtain ⟨-, -, c3, c4, c5⟩ := clear_ok k1.1 k1.2.1 hp hb
  refine ⟨?_, ?_, fun p hp => ?_, fun i hi => ?_⟩
  · rw [vset_same, vset_ne _ _ (show 17 ≠ 16 by omega), vset_ne _ _ (show 19 ≠ 16 by omega), vset_ne _ _ (show 20 ≠ 16 by omega)]; omega
  · rw [vset_same]; exact fun q hq => k2 q (c5 q hq)
  · rw [vset_ne _ _ (by omega)]; exact k3 p hp
  · rw [vset_ne _ _ (by omega)] at hi
    rw [vset_ne _ _ (by omega), vset_ne _ _ (by omega), vset_ne _ _ (by omega), vset_ne _ _ (by omega)]
    exact k4 i hi
theorem dieS_ok {T : TW} {R : Nat → RL} {v : Nat → Int} (ho : WO T R v) : ∀ p : Nat, p ≤ 8 → okS T (dieS T R v p).2 := by
  have o := ho.1.1
  intro p
  induction p with
  | zero => intro _; exact ho.2
  | succ p ih =>
    intro hp
    have ih := ih (by omega)
    have h2 := okS_seed ih o.2.1
    rw [dieS_s]
    split
    · rename_i ha
      rw [alv_nat] at ha
      split
      · have := okS_die h2 o.2.1 (p := p) (by omega) (by rw [vset_ne _ _ (by omega)]; exact ha)
        rw [vset_ne _ _ (show 16 ≠ 20 by omega)] at this
        exact this
      · exact h2
    · exact ih
def pDie (k j : Nat) : Prop := k = 34 ∨ pV k j
theorem X_drawDeaths {T : TW} {R : Nat → RL} {v : Nat → Int} {M : KM} (h : WC T R v M) (ho : WO T R v) : Ret (f_X_drawDeaths M) (fun q => q.1 = (dieS T R v (T 0 0).toNat).1 ∧ WC T R (dieS T R v (T 0 0).toNat).2 q.2 ∧ Fp pDie M q.2) := by
  have o := ho.1.1
  unfold f_X_drawDeaths
  refine Ret.bind (R := fun q => q.1 = (dieS T R v (T 0 0).toNat).1 ∧ WC T R (dieS T R v (T 0 0).toNat).2 q.2 ∧ Fp pDie M q.2) (Ret.loop (T 0 0).toNat (fun p s => s.1 = (dieS T R v p).1 ∧ s.2.1 = (p : Int) ∧ WC T R (dieS T R v p).2 s.2.2 ∧ Fp pDie M s.2.2) ⟨rfl, rfl, h, Fp.rf⟩ ?_ ?_) (fun q hq => Ret.pure hq)
  · rintro p s hp ⟨h1, h2, h3, h4⟩
    have hp' : (p : Int) < T 0 0 := by omega
    have hok := dieS_ok ho p (by omega)
    have ho1 : WO T R (dieS T R v p).2 := ⟨ho.1, hok⟩
    have hok2 := okS_seed hok o.2.1
    have ho2 : WO T R (vset (dieS T R v p).2 20 (seedV ((dieS T R v p).2 20))) := ⟨ho.1, hok2⟩
    rw [h2]
    refine Ret.t (by rw [h3.n]; exact hp') ?_
    rw [e_X_isAlive h3.n h3.alive hok, ob_some, w32e (n := (p : Int) + 1) (by omega) (by omega)]
    refine Ret.bind (R := fun q => q.1 = (dieS T R v (p + 1)).1 ∧ WC T R (dieS T R v (p + 1)).2 q.2 ∧ Fp pDie M q.2) ?_ ?_
    · rw [dieS_s]
      by_cases ha : alv (dieS T R v p).2 p = true
      · rw [if_pos ha, if_pos ha]
        refine Ret.f (by omega) (Ret.f (by omega) (Ret.letM ?_))
        have e5 : s.2.2 34 5 = (dieS T R v p).2 20 := h3.2.1.2.2.2.1
        rw [e5]
        show Ret (if (10 : Int) = 0 then none else Option.bind (f_X_oddsAt (atM (mupd s.2.2 34 5 (seedV ((dieS T R v p).2 20))) 35 8 (p : Int)) (mupd s.2.2 34 5 (seedV ((dieS T R v p).2 20)))) (fun q4 => (if kdiv (mupd s.2.2 34 5 (seedV ((dieS T R v p).2 20)) 34 5) (10 : Int) < q4.1 then letM_ (mupd q4.2 34 3 (kiand (q4.2 34 3) (kixor (kishl (1 : Int) (p : Int)) (-1 : Int)))) (fun M5 => some (w32 (s.1 + (1 : Int)), M5)) else some (s.1, q4.2)))) _
        have w3 : WC T R (vset (dieS T R v p).2 20 (seedV ((dieS T R v p).2 20))) (mupd s.2.2 34 5 (seedV ((dieS T R v p).2 20))) := h3.st (SC_num h3.2 5 20 (by omega) o.2.1 _) (fun k j hk => mupd_ne _ _ (by omega))
        rw [w3.age ho2 (by omega) hp', Int.toNat_natCast, mupd_same, vset_ne _ _ (show p ≠ 20 by omega)]
        refine Ret.f (by omega) (Ret.bind (X_oddsAt w3 ho2 _) ?_)
        rintro q ⟨g1, g2⟩
        have w4 := w3.v g2
        have f4 : Fp pDie M q.2 := (h4.upd (Or.inl rfl)).tr (g2.mono fun _ _ => Or.inr)
        rw [g1]
        by_cases hc : kdiv (seedV ((dieS T R v p).2 20)) 10 < oddV T R (vset (dieS T R v p).2 20 (seedV ((dieS T R v p).2 20))) ((dieS T R v p).2 p)
        · refine Ret.t hc (Ret.letM (Ret.pure ?_))
          rw [if_pos hc]
          rw [alv_nat] at ha
          have e16 : q.2 34 3 = (dieS T R v p).2 16 := by rw [w4.alive, vset_ne _ _ (by omega)]
          have hcl := clear_ok (p := p) hok.1.1 hok.1.2.1 (by omega) ha
          rw [e16, hcl.1]
          refine ⟨by dsimp only; rw [h1], ?_, f4.upd (Or.inl rfl)⟩
          exact w4.st (SC_num w4.2 3 16 (by omega) o.2.1 _) (fun k j hk => mupd_ne _ _ (by omega))
        · refine Ret.f hc (Ret.pure ?_)
          rw [if_neg hc]
          exact ⟨h1, w4, f4⟩
      · rw [if_neg ha, if_neg ha]
        exact Ret.t rfl (Ret.pure ⟨h1, h3, h4⟩)
    · rintro q ⟨g1, g2, g3⟩
      exact Ret.pure ⟨g1, by dsimp only; omega, g2, g3⟩
  · rintro s ⟨h1, h2, h3, h4⟩
    exact Ret.f (by rw [h2, h3.n]; omega) (Ret.pure ⟨h1, h3, h4⟩)
def yearR (T : TW) (R : Nat → RL) (v : Nat → Int) : ACT := if v 19 < 1000 then some ((dieS T R (backS T (growS T (vset v 19 (w32 (v 19 + 1))) (T 0 0).toNat) (v 17).toNat) (T 0 0).toNat).1, (dieS T R (backS T (growS T (vset v 19 (w32 (v 19 + 1))) (T 0 0).toNat) (v 17).toNat) (T 0 0).toNat).2) else none
theorem okS_year {T : TW} {v : Nat → Int} (h : okS T v) (hn : T 0 0 ≤ 8) (hy : v 19 < 1000) : okS T (vset v 19 (w32 (v 19 + 1))) := by
  obtain ⟨k1, k2, k3, k4⟩ := h
  refine ⟨?_, ?_, fun p hp => ?_, fun i hi => ?_⟩
  · rw [vset_ne _ _ (show 16 ≠ 19 by omega), vset_ne _ _ (show 17 ≠ 19 by omega), vset_ne _ _ (show 20 ≠ 19 by omega), vset_same, w32e (by omega) (by omega)]; omega
  · rw [vset_ne _ _ (by omega)]; exact k2
  · rw [vset_ne _ _ (by omega)]; exact k3 p hp
  · rw [vset_ne _ _ (by omega)] at hi
    rw [vset_ne _ _ (by omega), vset_ne _ _ (by omega), vset_ne _ _ (by omega), vset_ne _ _ (by omega)]
    exact k4 i hi
theorem X_year {T : TW} {R : Nat → RL} {v : Nat → Int} {M : KM} {a u : Nat} {hs : HS} (h : WC T R v M) (ho : WO T R v) (hH : HC a u hs (T 0 0) M) : Ret (f_X_year M) (XPost T a hs (yearR T R v) M) := by
  have o := ho.1.1
  unfold f_X_year yearR
  rw [h.year]
  by_cases hy : v 19 < 1000
  · rw [if_pos hy, if_pos hy]
    refine Ret.letM ?_
    have w0 : WO T R (vset v 19 (w32 (v 19 + 1))) := ⟨ho.1, okS_year ho.2 o.2.1 hy⟩
    have h0 : WC T R (vset v 19 (w32 (v 19 + 1))) (mupd M 34 4 (w32 (v 19 + 1))) := h.st (SC_num h.2 4 19 (by omega) o.2.1 _) (fun k j hk => mupd_ne _ _ (by omega))
    generalize hs0 : vset v 19 (w32 (v 19 + 1)) = s0 at w0 h0 ⊢
    have e17 : s0 17 = v 17 := by rw [← hs0, vset_ne _ _ (by omega)]
    rw [h0.most]
    refine Ret.bind (X_growOlder h0.2 w0) ?_
    rintro M1 ⟨y1, y2⟩
    have w1 : WO T R (growS T s0 (T 0 0).toNat) := ⟨ho.1, okS_grow w0 (by omega)⟩
    have h1 : WC T R (growS T s0 (T 0 0).toNat) M1 := h0.st y1 (fun k j hk => by rw [y2 k (by omega)])
    rw [h1.least, h1.most]
    refine Ret.bind (X_bringBack h1.2 w1) ?_
    rintro M2 ⟨y3, y4⟩
    rw [growS_hi (i := (T 0 0).toNat) (j := 17) (by omega) (by omega), e17] at y3
    have hb := backS_ok w1 (v 17).toNat (by rw [growS_hi (by omega) (by omega), e17]; have := ho.2.1; omega)
    have w2 : WO T R (backS T (growS T s0 (T 0 0).toNat) (v 17).toNat) := ⟨ho.1, hb.1⟩
    have h2 : WC T R (backS T (growS T s0 (T 0 0).toNat) (v 17).toNat) M2 := h1.st y3 (fun k j hk => by rw [y4 k (by omega)])
    refine Ret.bind (X_drawDeaths h2 w2) ?_
    rintro q ⟨y5, y6, y7⟩
    have fr : ∀ k j, ¬ (pV k j ∨ (34 ≤ k ∧ k ≤ 40)) → q.2 k j = M k j := fun k j hk => by
      rw [y7 k j (fun hq => hk (hq.elim (fun z => Or.inr (by omega)) Or.inl)), y4 k (by omega), y2 k (by omega), mupd_ne _ _ (by omega)]
    have hH2 : HC a u hs (T 0 0) q.2 := hH.congr (fun k j hk => fr k j (by unfold pHC at hk; unfold pV; omega))
    have hok := dieS_ok w2 (T 0 0).toNat (by omega)
    refine Ret.bind (X_add hH2 y6.2 hok.1.2.2.2.1 o.2.1) ?_
    rintro M3 ⟨y8, y9⟩
    refine Ret.pure ⟨y5, y6.2.congr (fun c c1 c2 => ?_), y8, fun k j hk => ?_⟩
    · exact y9.row (fun j => by unfold pHC; omega)
    · unfold pAct at hk
      dsimp only
      rw [y9 k j (by unfold pHC; omega), fr k j (fun hq => hk (hq.elim Or.inr (fun z => Or.inl (by omega))))]
  · rw [if_neg hy, if_neg hy]
    exact Ret.pure rfl
/-! THE SECOND SIDE -/
theorem M_comeBack {b : Nat} {T : TW} {R : Nat → RL} {s : Nat → Int} {M : KM} (h : WM b T R s M) (ho : WO T R s) {l : Nat} (hl : (l : Int) < s 17) : Ret (f_M_comeBack ((21 + 5 * l : Nat) : Int) M) (fun M' => SM 411 0 (comeV T s l) M' ∧ ∀ c, c ≠ 411 → M' c = M c) := by
  have o := ho.1.1
  have os := ho.2.1
  have k := ho.2.2.2.2 l hl
  have ho1 := okS_over ho.2 o.2.1 l
  have w1 : WO T R (vset s (25 + 5 * l) 1) := ⟨ho.1, ho1⟩
  have j0 : (((21 + 5 * l : Nat) : Int)).toNat = 21 + 5 * l := Int.toNat_natCast _
  have j1 : (((21 + 5 * l : Nat) : Int) + 1).toNat = 22 + 5 * l := by omega
  have j2 : (((21 + 5 * l : Nat) : Int) + 2).toNat = 23 + 5 * l := by omega
  have j4 : (((21 + 5 * l : Nat) : Int) + 4).toNat = 25 + 5 * l := by omega
  have i18 : (18 : Int).toNat = 18 := rfl
  have e0 : M 411 (21 + 5 * l) = s (21 + 5 * l) := h.all (by omega)
  have e1 : M 411 (22 + 5 * l) = s (22 + 5 * l) := h.all (by omega)
  have e2 : M 411 (23 + 5 * l) = s (23 + 5 * l) := h.all (by omega)
  have e18 : M 411 18 = s 18 := h.all (by omega)
  unfold f_M_comeBack
  rw [w32e (n := ((21 + 5 * l : Nat) : Int) + 1) (by omega) (by omega), w32e (n := ((21 + 5 * l : Nat) : Int) + 2) (by omega) (by omega), w32e (n := ((21 + 5 * l : Nat) : Int) + 4) (by omega) (by omega)]
  simp only [j0, j1, j2, j4, i18, e0, e1]
  refine Ret.t (by omega) (Ret.letI (Ret.t (by omega) (Ret.letI (Ret.t (by omega) (Ret.letM ?_)))))
  have s3 := SM_set h.2.2 (25 + 5 * l) 1
  have h3 : WM b T R (vset s (25 + 5 * l) 1) (mupd M 411 (25 + 5 * l) 1) := h.st s3 (fun k j hk => mupd_ne _ _ (by omega))
  have eal : ∀ i, alv (vset s (25 + 5 * l) 1) i = alv s i := fun i => by unfold alv; rw [vset_ne _ _ (by omega)]
  have e5 : mupd M 411 (25 + 5 * l) 1 411 (23 + 5 * l) = s (23 + 5 * l) := by rw [mupd_ne2 _ _ (by omega)]; exact e2
  have e6 : mupd M 411 (25 + 5 * l) 1 411 18 = s 18 := by rw [mupd_ne2 _ _ (by omega)]; exact e18
  rw [e_M_isAlive (h3.all (by omega)) ho1 k.1 (by omega), ob_some, eal]
  unfold comeV
  have fr : ∀ c, c ≠ 411 → mupd M 411 (25 + 5 * l) 1 c = M c := fun c hc => by funext j; exact mupd_ne _ _ hc
  by_cases ha : alv s (s (21 + 5 * l)) = true
  · rw [if_pos ha]
    refine Ret.f (by omega) ?_
    rw [e_M_isAlive (h3.all (by omega)) ho1 k.2.2.1 (by omega), ob_some, eal]
    by_cases hb : alv s (s (22 + 5 * l)) = true
    · rw [if_pos hb, if_pos (show alv s (s (21 + 5 * l)) = true ∧ alv s (s (22 + 5 * l)) = true from ⟨ha, hb⟩), e5, e6]
      refine Ret.f (by omega) (Ret.t (by omega) ?_)
      rw [M_canGo h3 w1 ⟨k.2.2.1, k.2.2.2.1⟩ ⟨k.1, k.2.1⟩ (by omega), ob_some, eal, eal, vset_ne s _ (show (s (22 + 5 * l)).toNat ≠ 25 + 5 * l by omega), vset_ne s _ (show (s (21 + 5 * l)).toNat ≠ 25 + 5 * l by omega)]
      refine Ret.bind (R := fun M' => SM 411 0 (if T 0 3 ≤ s (s (22 + 5 * l)).toNat - s (23 + 5 * l) ∧ s (s (21 + 5 * l)).toNat + s (23 + 5 * l) ≤ T 0 4 then passV (vset s (25 + 5 * l) 1) (s (22 + 5 * l)).toNat (s (21 + 5 * l)).toNat (s (23 + 5 * l)) else vset (vset s (25 + 5 * l) 1) 18 (w32 (s 18 + 1))) M' ∧ ∀ c, c ≠ 411 → M' c = M c) ?_ (fun q hq => Ret.pure hq)
      by_cases hc : T 0 3 ≤ s (s (22 + 5 * l)).toNat - s (23 + 5 * l) ∧ s (s (21 + 5 * l)).toNat + s (23 + 5 * l) ≤ T 0 4
      · rw [if_pos hc, if_pos (show alv s (s (22 + 5 * l)) = true ∧ alv s (s (21 + 5 * l)) = true ∧ T 0 3 ≤ s (s (22 + 5 * l)).toNat - s (23 + 5 * l) ∧ s (s (21 + 5 * l)).toNat + s (23 + 5 * l) ≤ T 0 4 from ⟨hb, ha, hc⟩)]
        refine Ret.f (by omega) (Ret.t (by omega) ?_)
        obtain ⟨x, hx⟩ := Int.eq_ofNat_of_zero_le k.1
        obtain ⟨y, hy⟩ := Int.eq_ofNat_of_zero_le k.2.2.1
        rw [hx, hy, Int.toNat_natCast, Int.toNat_natCast]
        refine Ret.bind (M_pass s3 (a := y) (b := x) (by omega) (by omega) _) ?_
        rintro M1 ⟨g1, g2⟩
        exact Ret.pure ⟨g1, fun c hc => by rw [g2 c hc, fr c hc]⟩
      · rw [if_neg hc, if_neg (fun q : alv s (s (22 + 5 * l)) = true ∧ alv s (s (21 + 5 * l)) = true ∧ T 0 3 ≤ s (s (22 + 5 * l)).toNat - s (23 + 5 * l) ∧ s (s (21 + 5 * l)).toNat + s (23 + 5 * l) ≤ T 0 4 => hc q.2.2)]
        exact Ret.t rfl (Ret.t (by omega) (Ret.t (by omega) (Ret.letM (Ret.pure ⟨SM_set s3 18 _, fun c hc => by rw [← fr c hc]; funext j; exact mupd_ne _ _ hc⟩))))
    · rw [if_neg hb, if_neg (fun q : alv s (s (21 + 5 * l)) = true ∧ alv s (s (22 + 5 * l)) = true => hb q.2)]
      exact Ret.t rfl (Ret.pure ⟨s3, fr⟩)
  · rw [if_neg ha, if_neg (fun q : alv s (s (21 + 5 * l)) = true ∧ alv s (s (22 + 5 * l)) = true => ha q.1)]
    exact Ret.t rfl (Ret.pure ⟨s3, fr⟩)
