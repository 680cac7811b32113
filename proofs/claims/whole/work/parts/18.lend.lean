/-! LOANS -/
def loanV (v : Nat → Int) (m : Nat) (a b n t : Int) : Nat → Int := vset (vset (vset (vset (vset (vset v (21 + 5 * m) a) (22 + 5 * m) b) (23 + 5 * m) n) (24 + 5 * m) t) (25 + 5 * m) 0) 17 (m + 1)
theorem loanV_at (v : Nat → Int) (m : Nat) (a b n t : Int) (j : Nat) : loanV v m a b n t j = if j = 17 then (m : Int) + 1 else if j = 25 + 5 * m then 0 else if j = 24 + 5 * m then t else if j = 23 + 5 * m then n else if j = 22 + 5 * m then b else if j = 21 + 5 * m then a else v j := rfl
theorem loanV_lo {v : Nat → Int} {m : Nat} {a b n t : Int} {j : Nat} (h : j < 21) (h17 : j ≠ 17) : loanV v m a b n t j = v j := by
  rw [loanV_at, if_neg h17, if_neg (by omega), if_neg (by omega), if_neg (by omega), if_neg (by omega), if_neg (by omega)]
theorem loanV_17 (v : Nat → Int) (m : Nat) (a b n t : Int) : loanV v m a b n t 17 = (m : Int) + 1 := by rw [loanV_at, if_pos rfl]
theorem loanV_25 (v : Nat → Int) (m : Nat) (a b n t : Int) : loanV v m a b n t (25 + 5 * m) = 0 := by rw [loanV_at, if_neg (by omega), if_pos rfl]
theorem loanV_24 (v : Nat → Int) (m : Nat) (a b n t : Int) : loanV v m a b n t (24 + 5 * m) = t := by rw [loanV_at, if_neg (by omega), if_neg (by omega), if_pos rfl]
theorem loanV_23 (v : Nat → Int) (m : Nat) (a b n t : Int) : loanV v m a b n t (23 + 5 * m) = n := by rw [loanV_at, if_neg (by omega), if_neg (by omega), if_neg (by omega), if_pos rfl]
theorem loanV_22 (v : Nat → Int) (m : Nat) (a b n t : Int) : loanV v m a b n t (22 + 5 * m) = b := by rw [loanV_at, if_neg (by omega), if_neg (by omega), if_neg (by omega), if_neg (by omega), if_pos rfl]
theorem loanV_21 (v : Nat → Int) (m : Nat) (a b n t : Int) : loanV v m a b n t (21 + 5 * m) = a := by rw [loanV_at, if_neg (by omega), if_neg (by omega), if_neg (by omega), if_neg (by omega), if_neg (by omega), if_pos rfl]
theorem loanV_old {v : Nat → Int} {m l i : Nat} {a b n t : Int} (hl : l < m) (h1 : 21 ≤ i) (h2 : i ≤ 25) : loanV v m a b n t (i + 5 * l) = v (i + 5 * l) := by
  rw [loanV_at, if_neg (by omega), if_neg (by omega), if_neg (by omega), if_neg (by omega), if_neg (by omega), if_neg (by omega)]
theorem X_addLoan {n : Int} {v : Nat → Int} {M : KM} (h : SC 34 n v M) (hn : n ≤ 8) {m : Nat} (hm : v 17 = (m : Int)) (hm2 : m < 30) (a b k t : Int) : Ret (f_State_addLoan a b k t M) (fun q => q.1 = (m : Int) ∧ SC 34 n (loanV v m a b k t) q.2 ∧ ∀ c, (c < 34 ∨ 40 < c) → q.2 c = M c) := by
  obtain ⟨h1, h2, h3, h4⟩ := h
  unfold f_State_addLoan
  have e6 : M 34 6 = (m : Int) := by rw [h1.2.2.2.2.1, hm]
  rw [e6, letI_e]
  refine Ret.letM (Ret.letM (Ret.letM (Ret.letM (Ret.letM (Ret.pure ?_)))))
  simp only [putM_nat _ 37 30 _ (show m < 30 from hm2), putM_nat _ 38 30 _ (show m < 30 from hm2), putM_nat _ 39 30 _ (show m < 30 from hm2), putM_nat _ 40 30 _ (show m < 30 from hm2)]
  generalize hM5 : mupd (mupd (mupd (mupd M 37 m a) 38 m b) 39 m k) 40 m t = M5
  have g5 : ∀ c j, (c < 37 ∨ 40 < c) ∨ j ≠ m → M5 c j = M c j := fun c j hc => by
    rw [← hM5, mupd_at, if_neg (by omega), mupd_at, if_neg (by omega), mupd_at, if_neg (by omega), mupd_at, if_neg (by omega)]
  have r37 : M5 37 m = a := by rw [← hM5, mupd_ne _ _ (by omega), mupd_ne _ _ (by omega), mupd_ne _ _ (by omega), mupd_same]
  have r38 : M5 38 m = b := by rw [← hM5, mupd_ne _ _ (by omega), mupd_ne _ _ (by omega), mupd_same]
  have r39 : M5 39 m = k := by rw [← hM5, mupd_ne _ _ (by omega), mupd_same]
  have r40 : M5 40 m = t := by rw [← hM5, mupd_same]
  have e8 : M5 34 8 = M 34 8 := g5 34 8 (by omega)
  have e66 : M5 34 6 = (m : Int) := by rw [g5 34 6 (by omega)]; exact e6
  have ov : bt (M 34 8) m = false := h3.2.2 m (by omega)
  rw [e66, w32e (by omega) (by omega)]
  refine ⟨by simp, ⟨?_, fun p hp => ?_, ?_, fun l hl => ?_⟩, fun c hc => ?_⟩
  · rw [mupd_ne2 _ _ (by omega), mupd_ne2 _ _ (by omega), mupd_ne2 _ _ (by omega), mupd_ne2 _ _ (by omega), mupd_same, mupd_ne2 _ _ (by omega), g5 _ _ (by omega), g5 _ _ (by omega), g5 _ _ (by omega), g5 _ _ (by omega), g5 _ _ (by omega)]
    rw [loanV_lo (j := 16) (by omega) (by omega), loanV_lo (j := 19) (by omega) (by omega), loanV_lo (j := 20) (by omega) (by omega), loanV_lo (j := 18) (by omega) (by omega), loanV_17]
    exact ⟨h1.1, h1.2.1, h1.2.2.1, h1.2.2.2.1, rfl, h1.2.2.2.2.2⟩
  · rw [mupd_ne _ _ (by omega), mupd_ne _ _ (by omega), g5 _ _ (by omega), g5 _ _ (by omega), loanV_lo (by omega) (by omega), loanV_lo (by omega) (by omega)]
    exact h2 p hp
  · rw [mupd_ne2 _ _ (by omega), e8, loanV_17]
    exact ⟨h3.1, h3.2.1, fun l hl => h3.2.2 l (by omega)⟩
  · rw [loanV_17] at hl
    rw [mupd_ne _ _ (by omega), mupd_ne _ _ (by omega), mupd_ne _ _ (by omega), mupd_ne _ _ (by omega), mupd_ne2 _ _ (by omega), e8]
    by_cases hlm : l = m
    · subst hlm
      rw [loanV_21, loanV_22, loanV_23, loanV_24, loanV_25, r37, r38, r39, r40, ov]
      simp
    · have hl' : l < m := by omega
      rw [loanV_old hl' (by omega) (by omega), loanV_old hl' (by omega) (by omega), loanV_old hl' (by omega) (by omega), loanV_old hl' (by omega) (by omega), loanV_old hl' (by omega) (by omega), g5 _ _ (by omega), g5 _ _ (by omega), g5 _ _ (by omega), g5 _ _ (by omega)]
      exact h4 l (by omega)
  · funext j
    rw [mupd_ne _ _ (by omega)]
    exact g5 c j (by omega)
def lendR (T : TW) (v : Nat → Int) (a b n till : Int) : ACT := if (v 19 < till ∧ till ≤ 1000) ∧ v 17 < 30 then (match gF T v a b n with
  | none => none
  | some _ => some (v 17, loanV (passV v a.toNat b.toNat n) (v 17).toNat a b n till)) else none
theorem passV_hi {v : Nat → Int} {a b j : Nat} {n : Int} (ha : a < 8) (hb : b < 8) (hj : 8 ≤ j) : passV v a b n j = v j := by
  unfold passV; rw [vset_ne _ _ (by omega), vset_ne _ _ (by omega)]
theorem okS_loan {T : TW} {v : Nat → Int} (h : okS T v) {m : Nat} (hm : v 17 = (m : Int)) (hm2 : m < 30) (hn8 : T 0 0 ≤ 8) {a b : Nat} {n t : Int} (ha : (a : Int) < T 0 0) (hb : (b : Int) < T 0 0) (hab : a ≠ b) (hn : 1 ≤ n ∧ n ≤ 99) : okS T (loanV v m a b n t) := by
  obtain ⟨k1, k2, k3, k4⟩ := h
  refine ⟨?_, ?_, fun p hp => ?_, fun l hl => ?_⟩
  · rw [loanV_lo (j := 16) (by omega) (by omega), loanV_lo (j := 19) (by omega) (by omega), loanV_lo (j := 20) (by omega) (by omega), loanV_17]; omega
  · rw [loanV_lo (by omega) (by omega)]; exact k2
  · rw [loanV_lo (by omega) (by omega)]; exact k3 p hp
  · rw [loanV_17] at hl
    by_cases hlm : l = m
    · subst hlm
      rw [loanV_21, loanV_22, loanV_23, loanV_25]
      omega
    · have hl' : l < m := by omega
      rw [loanV_old hl' (by omega) (by omega), loanV_old hl' (by omega) (by omega), loanV_old hl' (by omega) (by omega), loanV_old hl' (by omega) (by omega)]
      exact k4 l (by omega)
theorem X_lend {T : TW} {R : Nat → RL} {v : Nat → Int} {M : KM} {a u : Nat} {hs : HS} (h : WC T R v M) (ho : WO T R v) (hH : HC a u hs (T 0 0) M) (x y n t : Int) : Ret (f_X_lend x y n t M) (XPost T a hs (lendR T v x y n t) M) := by
  have o := ho.1.1
  have os := ho.2.1
  have e6 : M 34 6 = v 17 := h.2.1.2.2.2.2.1
  unfold f_X_lend lendR
  rw [h.year, e6]
  refine Ret.bind (R := fun z => z = if v 19 < t ∧ t ≤ 1000 then 1 else 0) ?_ ?_
  · by_cases c1 : t ≤ v 19
    · rw [if_pos c1, if_neg (by omega)]; exact Ret.pure rfl
    · rw [if_neg c1]
      by_cases c2 : t ≤ 1000
      · rw [if_pos c2, if_pos (by omega)]; exact Ret.pure rfl
      · rw [if_neg c2, if_neg (by omega)]; exact Ret.pure rfl
  · rintro z rfl
    by_cases hc : v 19 < t ∧ t ≤ 1000
    · rw [if_pos hc, if_neg (by omega)]
      by_cases hm : v 17 < 30
      · rw [if_pos hm, if_pos (And.intro hc hm), X_friendsFor h ho, ob_some]
        cases hg : gF T v x y n with
        | none => exact Ret.t rfl (Ret.pure rfl)
        | some f =>
          obtain ⟨x, y, rfl, rfl, hx, hy, hxy, hf, hn, g1, g2⟩ := canB_R ho hg
          refine Ret.f (by show ¬ ((f : Int) = -1); omega) ?_
          refine Ret.bind (X_moveYears h.2 o.2.1 hx hy n) ?_
          rintro M1 ⟨y1, y2⟩
          have hm17 : passV v x y n 17 = (((v 17).toNat : Nat) : Int) := by rw [passV_hi (by omega) (by omega) (by omega)]; omega
          refine Ret.bind (X_addLoan y1 o.2.1 hm17 (by omega) _ _ _ _) ?_
          rintro q ⟨y3, y4, y5⟩
          have hH2 : HC a u hs (T 0 0) q.2 := hH.congr (fun k j hk => by unfold pHC at hk; rw [y5 k (by omega), y2 k (by omega)])
          have hok := okS_loan (t := t) (okS_pass ho hx hy hxy hn g1 g2) hm17 (by omega) o.2.1 hx hy hxy hn
          refine Ret.bind (X_add hH2 y4 hok.1.2.2.2.1 o.2.1) ?_
          rintro M3 ⟨y6, y7⟩
          refine Ret.pure ⟨by dsimp only; omega, y4.congr (fun c c1 c2 => ?_), y6, fun k j hk => ?_⟩
          · exact y7.row (fun j => by unfold pHC; omega)
          · unfold pAct at hk
            dsimp only
            rw [y7 k j (by unfold pHC; omega), y5 k (by omega), y2 k (by omega)]
      · rw [if_neg hm, if_neg (fun q : (v 19 < t ∧ t ≤ 1000) ∧ v 17 < 30 => hm q.2)]
        exact Ret.pure rfl
    · rw [if_neg hc, if_neg (fun q : (v 19 < t ∧ t ≤ 1000) ∧ v 17 < 30 => hc q.1)]
      exact Ret.t rfl (Ret.pure rfl)
theorem M_lend {b : Nat} {T : TW} {R : Nat → RL} {v : Nat → Int} {M : KM} {a u : Nat} {hs : HS} (h : WM b T R v M) (ho : WO T R v) (hH : HM a u hs M) (hva : hs a = v) (x y n t : Int) : Ret (f_M_lend x y n t M) (MPost a hs (lendR T v x y n t) M) := by
  have o := ho.1.1
  have os := ho.2.1
  have e19 : M 411 19 = v 19 := h.all (by omega)
  have e17 : M 411 17 = v 17 := h.all (by omega)
  unfold f_M_lend lendR
  rw [M_canPass h ho, ob_some]
  have i17 : (17 : Int).toNat = 17 := rfl
  have i19 : (19 : Int).toNat = 19 := rfl
  simp only [i17, i19]
  cases hg : gF T v x y n with
  | none =>
    refine Ret.t rfl (Ret.pure ?_)
    show MPost a hs (if _ then none else none) M _
    split <;> rfl
  | some f =>
    obtain ⟨x, y, rfl, rfl, hx, hy, hxy, hf, hn, g1, g2⟩ := canB_R ho hg
    refine Ret.f (by simp) (Ret.t (by omega) ?_)
    rw [e19, e17]
    by_cases c1 : t ≤ v 19
    · rw [if_pos c1, if_neg (fun q : (v 19 < t ∧ t ≤ 1000) ∧ v 17 < 30 => by omega)]
      exact Ret.pure rfl
    · rw [if_neg c1]
      by_cases c2 : t ≤ 1000
      · rw [if_pos c2]
        refine Ret.t (by omega) ?_
        by_cases c3 : v 17 = 30
        · rw [if_pos c3, if_neg (fun q : (v 19 < t ∧ t ≤ 1000) ∧ v 17 < 30 => by omega)]
          exact Ret.pure rfl
        · rw [if_neg c3, if_pos (show (v 19 < t ∧ t ≤ 1000) ∧ v 17 < 30 by omega)]
          refine Ret.bind (M_keepAct (v' := loanV (passV v x y n) (v 17).toNat x y n t) hH h.2.2 (fun j _ => by rw [hva])) ?_
          rintro M1 ⟨y1, y2, y3, y4⟩
          have s1 : SM 411 0 v M1 := h.2.2.congr (fun j _ => y4 _ _ (by unfold pHM; omega))
          have z17 : M1 411 17 = v 17 := by have := s1 17 (by omega); rwa [Nat.zero_add] at this
          obtain ⟨m, hm⟩ := Int.eq_ofNat_of_zero_le os.2.2.1
          rw [z17, hm, w32e (n := 5 * (m : Int)) (by omega) (by omega), w32e (n := 21 + 5 * (m : Int)) (by omega) (by omega)]
          refine Ret.t (by omega) (Ret.letI (Ret.bind (M_pass s1 (a := x) (b := y) (by omega) (by omega) n) ?_))
          rintro M2 ⟨y5, y6⟩
          rw [w32e (n := 21 + 5 * (m : Int) + 1) (by omega) (by omega), w32e (n := 21 + 5 * (m : Int) + 2) (by omega) (by omega), w32e (n := 21 + 5 * (m : Int) + 3) (by omega) (by omega), w32e (n := 21 + 5 * (m : Int) + 4) (by omega) (by omega)]
          have j0 : (21 + 5 * (m : Int)).toNat = 21 + 5 * m := by omega
          have j1 : (21 + 5 * (m : Int) + 1).toNat = 22 + 5 * m := by omega
          have j2 : (21 + 5 * (m : Int) + 2).toNat = 23 + 5 * m := by omega
          have j3 : (21 + 5 * (m : Int) + 3).toNat = 24 + 5 * m := by omega
          have j4 : (21 + 5 * (m : Int) + 4).toNat = 25 + 5 * m := by omega
          simp only [j0, j1, j2, j3, j4]
          refine Ret.t (by omega) (Ret.letM (Ret.t (by omega) (Ret.letM (Ret.t (by omega) (Ret.letM (Ret.t (by omega) (Ret.letM (Ret.t (by omega) (Ret.letM (Ret.t (by omega) (Ret.t (by omega) (Ret.letM (Ret.t (by omega) ?_)))))))))))))
          have s9 := SM_set (SM_set (SM_set (SM_set (SM_set y5 (21 + 5 * m) (x : Int)) (22 + 5 * m) (y : Int)) (23 + 5 * m) n) (24 + 5 * m) t) (25 + 5 * m) 0
          generalize hM9 : mupd (mupd (mupd (mupd (mupd M2 411 (21 + 5 * m) (x : Int)) 411 (22 + 5 * m) (y : Int)) 411 (23 + 5 * m) n) 411 (24 + 5 * m) t) 411 (25 + 5 * m) 0 = M9 at s9 ⊢
          have g9 : ∀ c, c ≠ 411 → M9 c = M2 c := fun c hc => by rw [← hM9]; funext j; rw [mupd_ne _ _ hc, mupd_ne _ _ hc, mupd_ne _ _ hc, mupd_ne _ _ hc, mupd_ne _ _ hc]
          have z9 : M9 411 17 = (m : Int) := by
            have := s9 17 (by omega)
            rw [Nat.zero_add, vset_ne _ _ (by omega), vset_ne _ _ (by omega), vset_ne _ _ (by omega), vset_ne _ _ (by omega), vset_ne _ _ (by omega), passV_hi (by omega) (by omega) (by omega)] at this
            rw [this, hm]
          rw [z9, mupd_same, w32e (n := (m : Int) + 1) (by omega) (by omega), w32e (n := (m : Int) + 1 - 1) (by omega) (by omega)]
          refine Ret.pure ⟨by dsimp only; omega, ?_, ⟨?_, by unfold hA; split <;> omega, fun i hi j hj => ?_, fun j hj => absurd hj (Nat.not_lt_zero _)⟩, fun k j hk => ?_⟩
          · dsimp only
            rw [Int.toNat_natCast, Int.toNat_natCast]
            exact SM_set s9 17 _
          · dsimp only
            rw [mupd_ne _ _ (by omega), mupd_ne _ _ (by omega), g9 382 (by omega), y6 382 (by omega)]
            exact ⟨y1, y2⟩
          · dsimp only
            rw [mupd_ne _ _ (by omega), g9 412 (by omega), y6 412 (by omega)]
            have := y3 i hi j hj
            rw [hm] at this
            exact this
          · unfold pActM at hk
            dsimp only
            rw [mupd_ne _ _ (by omega), g9 k (by omega), y6 k (by omega), y4 k j (by unfold pHM; omega)]
      · rw [if_neg c2, if_neg (fun q : (v 19 < t ∧ t ≤ 1000) ∧ v 17 < 30 => by omega)]
        exact Ret.pure rfl
