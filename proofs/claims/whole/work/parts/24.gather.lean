/-! WHAT FACES ASK -/
def cB (F : TW) (k : Int) (i : Nat) : Bool := decide (F 2 i ≤ k) && (decide (F 3 i = -1) || decide (k < F 3 i))
def soF (F : TW) (k : Int) (g : Nat → Int) (c : Nat) : Bool := (List.range c).all fun i => !cB F k i || decide (g (F 0 i).toNat = F 1 i)
theorem soF_s (F : TW) (k : Int) (g : Nat → Int) (c : Nat) : soF F k g (c + 1) = (soF F k g c && (!cB F k c || decide (g (F 0 c).toNat = F 1 c))) := by
  unfold soF
  rw [List.range_succ, List.all_append]
  simp
theorem soF_at {F : TW} {k : Int} {g : Nat → Int} {c i : Nat} (h : soF F k g c = true) (hi : i < c) : (!cB F k i || decide (g (F 0 i).toNat = F 1 i)) = true := List.all_eq_true.mp h i (List.mem_range.mpr hi)
abbrev GS : Type := (Nat → Bool) × (Nat → Int) × Bool
def gth (F : TW) (k : Int) (a0 : Nat → Int) : Nat → GS := itF (fun i s => if cB F k i = true then (fun p => s.1 p || decide (p = (F 0 i).toNat), fun p => if p = (F 0 i).toNat then F 1 i else s.2.1 p, s.2.2 || (s.1 (F 0 i).toNat && decide (s.2.1 (F 0 i).toNat ≠ F 1 i))) else s) (fun _ => false, a0, false)
theorem gth_s (F : TW) (k : Int) (a0 : Nat → Int) (i : Nat) : gth F k a0 (i + 1) = if cB F k i = true then (fun p => (gth F k a0 i).1 p || decide (p = (F 0 i).toNat), fun p => if p = (F 0 i).toNat then F 1 i else (gth F k a0 i).2.1 p, (gth F k a0 i).2.2 || ((gth F k a0 i).1 (F 0 i).toNat && decide ((gth F k a0 i).2.1 (F 0 i).toNat ≠ F 1 i))) else gth F k a0 i := rfl
theorem so_gth (F : TW) (k : Int) (a0 g : Nat → Int) : ∀ c, soF F k g c = true ↔ (gth F k a0 c).2.2 = false ∧ ∀ p, (gth F k a0 c).1 p = true → g p = (gth F k a0 c).2.1 p := by
  intro c
  induction c with
  | zero => exact ⟨fun _ => ⟨rfl, fun p hp => by cases hp⟩, fun _ => rfl⟩
  | succ c ih =>
    rw [soF_s, gth_s]
    by_cases hc : cB F k c = true
    · rw [if_pos hc]
      rw [Bool.and_eq_true, ih, hc]
      dsimp only
      constructor
      · rintro ⟨⟨h1, h2⟩, h3⟩
        have h3 : g (F 0 c).toNat = F 1 c := by simpa using h3
        refine ⟨?_, fun p hp => ?_⟩
        · rw [h1, Bool.false_or]
          cases hq : (gth F k a0 c).1 (F 0 c).toNat with
          | false => rfl
          | true =>
            have := h2 _ hq
            rw [Bool.true_and, decide_eq_false_iff_not]
            intro hne
            exact hne (by rw [← this]; exact h3)
        · by_cases hpw : p = (F 0 c).toNat
          · rw [if_pos hpw, hpw]; exact h3
          · rw [if_neg hpw]
            simp [hpw] at hp
            exact h2 p hp
      · rintro ⟨h1, h2⟩
        rw [Bool.or_eq_false_iff] at h1
        have h3 : g (F 0 c).toNat = F 1 c := by
          have := h2 (F 0 c).toNat (by simp)
          rwa [if_pos rfl] at this
        refine ⟨⟨h1.1, fun p hp => ?_⟩, by simp [h3]⟩
        have h4 := h2 p (by rw [hp]; rfl)
        by_cases hpw : p = (F 0 c).toNat
        · rw [if_pos hpw] at h4
          subst hpw
          have h5 := h1.2
          rw [hp, Bool.true_and, decide_eq_false_iff_not, Decidable.not_not] at h5
          rw [h4, h5]
        · rw [if_neg hpw] at h4; exact h4
    · rw [if_neg hc]
      simp only [Bool.not_eq_true] at hc
      rw [hc]
      simp only [Bool.not_false, Bool.true_or, Bool.and_true]
      exact ih
theorem gth_R {T F : TW} {c : Nat} {t : Int} (hok : okF T c t F) (k : Int) (a0 : Nat → Int) : ∀ i, i ≤ c → ∀ p, (gth F k a0 i).1 p = true → (p : Int) < T 0 0 := by
  intro i
  induction i with
  | zero => intro _ p hp; cases hp
  | succ i ih =>
    intro hi p hp
    rw [gth_s] at hp
    split at hp
    · dsimp only at hp
      rw [Bool.or_eq_true, decide_eq_true_eq] at hp
      have := hok.2 i (by omega)
      rcases hp with hp | hp
      · exact ih (by omega) p hp
      · omega
    · exact ih (by omega) p hp
def pG (k j : Nat) : Prop := k = 354 ∨ (k = 349 ∧ (j = 6 ∨ j = 8))
/-- asked, ages, clash as the first side holds them -/
def GAq (s : GS) (M : KM) : Prop := (0 ≤ M 349 6 ∧ M 349 6 < 256 ∧ ∀ p, bt (M 349 6) p = s.1 p) ∧ (∀ p, p < 8 → M 354 p = s.2.1 p) ∧ M 349 8 = if s.2.2 = true then 1 else 0
theorem kior01 : kior 0 0 = 0 ∧ kior 0 1 = 1 ∧ kior 1 0 = 1 ∧ kior 1 1 = 1 := by decide +kernel
theorem X_ask {s : GS} {M : KM} (h : GAq s M) {w a : Int} (hw : 0 ≤ w ∧ w < 8) : Ret (f_Faces_ask w a M) (fun M' => GAq (fun p => s.1 p || decide (p = w.toNat), fun p => if p = w.toNat then a else s.2.1 p, s.2.2 || (s.1 w.toNat && decide (s.2.1 w.toNat ≠ a))) M' ∧ Fp pG M M') := by
  obtain ⟨⟨h1, h2, h3⟩, h4, h5⟩ := h
  obtain ⟨n, rfl⟩ := Int.eq_ofNat_of_zero_le hw.1
  unfold f_Faces_ask
  rw [isInV_bt h1 (by omega), Int.toNat_natCast, h3, atM_nat _ _ _ (by omega), h4 n (by omega), h5]
  have e : (if (if 0 ≤ (n : Int) ∧ s.1 n = true then (1 : Int) else 0) = 0 then some (0 : Int) else (if s.2.1 n = a then some (0 : Int) else some (1 : Int))) = some (if (s.1 n && decide (s.2.1 n ≠ a)) = true then 1 else 0) := by
    by_cases hs : s.1 n = true
    · by_cases ha : s.2.1 n = a
      · simp [hs, ha]
      · simp [hs, ha]
    · simp [hs]
  rw [e, ob_some]
  have e2 : kior (if s.2.2 = true then 1 else 0) (if (s.1 n && decide (s.2.1 n ≠ a)) = true then 1 else 0) = if (s.2.2 || (s.1 n && decide (s.2.1 n ≠ a))) = true then 1 else 0 := by
    obtain ⟨q1, q2, q3, q4⟩ := kior01
    cases s.2.2 <;> cases (s.1 n && decide (s.2.1 n ≠ a)) <;> simp [q1, q2, q3, q4]
  rw [e2]
  refine Ret.t if01 (Ret.letM (Ret.letM (Ret.letM ?_)))
  rw [putM_nat _ _ _ _ (by omega)]
  have e3 : ∀ x, mupd (mupd M 349 8 x) 354 n a 349 6 = M 349 6 := fun x => by rw [mupd_ne _ _ (by omega), mupd_ne2 _ _ (by omega)]
  rw [e3]
  obtain ⟨k1, k2, k3⟩ := kior_bit (a := M 349 6) (p := n) h1 (by omega) (by omega)
  have k4 : kior (M 349 6) (kishl 1 n) < 256 := by
    have := bt_lt8 k1 (n := 8) (fun j hj => by
      rw [k3]
      have : bt (M 349 6) j = false := Nat.testBit_lt_two_pow (Nat.lt_of_lt_of_le (by omega : (M 349 6).toNat < 2 ^ 8) (Nat.pow_le_pow_right (by omega) hj))
      rw [this]; simp; omega)
    omega
  refine Ret.pure ⟨⟨⟨by rw [mupd_same]; exact k1, by rw [mupd_same]; exact k4, fun p => by rw [mupd_same, k3, h3]⟩, fun p hp => ?_, ?_⟩, ((Fp.rf.upd (Or.inr ⟨rfl, Or.inr rfl⟩)).upd (Or.inl rfl)).upd (Or.inr ⟨rfl, Or.inl rfl⟩)⟩
  · rw [mupd_ne _ _ (by omega)]
    dsimp only
    by_cases hpn : p = n
    · subst hpn; rw [mupd_same, if_pos rfl]
    · rw [mupd_ne2 _ _ hpn, if_neg hpn, mupd_ne _ _ (by omega)]; exact h4 p hp
  · rw [mupd_ne2 _ _ (by omega), mupd_ne _ _ (by omega), mupd_same]
theorem X_gather {T F : TW} {c : Nat} {t : Int} {M : KM} (hF : FC c t F M) (hok : okF T c t F) (hn : T 0 0 ≤ 8) (k : Int) : Ret (f_Faces_gather k M) (fun M' => GAq (gth F k (M 354) c) M' ∧ Fp pG M M') := by
  have hc := hok.1.1
  unfold f_Faces_gather
  refine Ret.letM (Ret.t (by omega) (Ret.letM (Ret.bind (R := fun M' => GAq (gth F k (M 354) c) M' ∧ Fp pG M M') (Ret.loop c (fun i s => s.1 = (i : Int) ∧ GAq (gth F k (M 354) i) s.2 ∧ Fp pG M s.2) ⟨rfl, ?_, (Fp.rf.upd (Or.inr ⟨rfl, Or.inl rfl⟩)).upd (Or.inr ⟨rfl, Or.inr rfl⟩)⟩ ?_ ?_) (fun q hq => Ret.pure hq))))
  · refine ⟨⟨by dsimp only; rw [mupd_ne2 _ _ (by omega), mupd_same]; omega, by dsimp only; rw [mupd_ne2 _ _ (by omega), mupd_same]; omega, fun p => by dsimp only; rw [mupd_ne2 _ _ (by omega), mupd_same]; simp [bt]; rfl⟩, fun p hp => by dsimp only; rw [mupd_ne _ _ (by omega), mupd_ne _ _ (by omega)]; rfl, by dsimp only; rw [mupd_same]; rfl⟩
  · rintro i s hi ⟨h1, h2, h3⟩
    have hF' : FC c t F s.2 := hF.congr (fun k j hk => h3 k j (by unfold pFC at hk; unfold pG; omega))
    have hfi := hF'.2 i hi
    have oi := hok.2 i hi
    rw [h1]
    refine Ret.t (by rw [hF'.1.1]; omega) ?_
    rw [atM_nat _ _ _ (show i < 30 by omega), atM_nat _ _ _ (show i < 30 by omega), atM_nat _ _ _ (show i < 30 by omega), atM_nat _ _ _ (show i < 30 by omega), hfi.1, hfi.2.1, hfi.2.2.1, hfi.2.2.2, letI_e, w32e (n := (i : Int) + 1) (by omega) (by omega)]
    have hask : cB F k i = true → Ret (Option.bind (f_Faces_ask (F 0 i) (F 1 i) s.2) (fun q5 => some q5)) (fun M' => GAq (gth F k (M 354) (i + 1)) M' ∧ Fp pG M M') := by
      intro hcb
      refine Ret.bind (X_ask h2 (w := F 0 i) (a := F 1 i) (by omega)) ?_
      rintro M1 ⟨g1, g2⟩
      refine Ret.pure ⟨?_, h3.tr g2⟩
      rw [gth_s, if_pos hcb]
      exact g1
    have hno : ¬ cB F k i = true → Ret (some s.2) (fun M' => GAq (gth F k (M 354) (i + 1)) M' ∧ Fp pG M M') := by
      intro hcb
      refine Ret.pure ⟨?_, h3⟩
      rw [gth_s, if_neg hcb]
      exact h2
    refine Ret.bind (R := fun M' => GAq (gth F k (M 354) (i + 1)) M' ∧ Fp pG M M') ?_ ?_
    · by_cases c1 : F 2 i ≤ k
      · refine Ret.t c1 ?_
        by_cases c2 : F 3 i = -1
        · exact Ret.t c2 (hask (by unfold cB; simp [c1, c2]))
        · refine Ret.f c2 ?_
          by_cases c3 : F 3 i ≤ k
          · exact Ret.t c3 (hno (by unfold cB; simp [c1, c2]; omega))
          · exact Ret.f c3 (hask (by unfold cB; simp [c1]; omega))
      · exact Ret.f c1 (hno (by unfold cB; simp [c1]))
    · rintro M1 ⟨g1, g2⟩
      exact Ret.pure ⟨by dsimp only; omega, g1, g2⟩
  · rintro s ⟨h1, h2, h3⟩
    have hF' : FC c t F s.2 := hF.congr (fun k j hk => h3 k j (by unfold pFC at hk; unfold pG; omega))
    exact Ret.f (by rw [h1, hF'.1.1]; omega) (Ret.pure ⟨h2, h3⟩)
/-! THE SECOND SIDE -/
theorem M_counts {T F : TW} {c : Nat} {t : Int} {M : KM} (hF : FM c t F M) (hok : okF T c t F) {i : Nat} (hi : i < c) (k : Int) : f_M_counts i k M = some (if cB F k i = true then 1 else 0) := by
  have hc := hok.1.1
  have hfi := hF.2 i hi
  have oi := hok.2 i hi
  unfold f_M_counts cB
  rw [Int.toNat_natCast, if_pos (show 0 ≤ (i : Int) ∧ (i : Int) < 30 by omega), if_pos (show 0 ≤ (i : Int) ∧ (i : Int) < 30 by omega), if_pos (show 0 ≤ (i : Int) ∧ (i : Int) < 30 by omega), hfi.2.2.1, hfi.2.2.2]
  by_cases c1 : F 2 i ≤ k
  · by_cases c2 : F 3 i < 0
    · have : F 3 i = -1 := by omega
      simp [c1, this]
    · have n2 : ¬ F 3 i = -1 := by omega
      by_cases c3 : F 3 i ≤ k
      · have : ¬ k < F 3 i := by omega
        simp [c1, c2, c3, n2]
      · have : k < F 3 i := by omega
        simp [c1, c2, c3, this]
  · simp [c1]
theorem M_areSo {T F : TW} {c : Nat} {t : Int} {M : KM} (hF : FM c t F M) (hok : okF T c t F) (hn : T 0 0 ≤ 8) (k : Int) : f_M_areSo k M = some (if soF F k (M 430) c = true then 1 else 0) := by
  have hc := hok.1.1
  refine Ret.some_of ?_
  unfold f_M_areSo
  refine Ret.bind (R := Sum.elim (fun _ => soF F k (M 430) c = false) (fun _ => soF F k (M 430) c = true)) (Ret.loop c (fun i s => s = (i : Int) ∧ soF F k (M 430) i = true) ⟨rfl, rfl⟩ ?_ ?_) ?_
  · rintro i s hi ⟨rfl, h2⟩
    have hfi := hF.2 i hi
    have oi := hok.2 i hi
    refine Ret.t (by rw [hF.1.1]; omega) ?_
    rw [M_counts hF hok hi, ob_some, Int.toNat_natCast, hfi.1, hfi.2.1, w32e (n := (i : Int) + 1) (by omega) (by omega)]
    by_cases hcb : cB F k i = true
    · rw [if_pos hcb]
      refine Ret.f (by omega) (Ret.t (by omega) (Ret.t (by omega) (Ret.t (by omega) ?_)))
      by_cases he : M 430 (F 0 i).toNat = F 1 i
      · refine Ret.t he (Ret.pure ⟨by omega, ?_⟩)
        rw [soF_s, h2, he]; simp
      · refine Ret.f he (Ret.pure ?_)
        show soF F k (M 430) c = false
        cases hq : soF F k (M 430) c with
        | false => rfl
        | true =>
          have := soF_at hq hi
          rw [hcb] at this
          simp at this
          exact absurd this he
    · rw [if_neg hcb]
      refine Ret.t rfl (Ret.pure ⟨by omega, ?_⟩)
      rw [soF_s, h2]; simp [hcb]
  · rintro s ⟨rfl, h2⟩
    exact Ret.f (by rw [hF.1.1]; omega) (Ret.pure h2)
  · rintro (u | u) hq
    · have hq : soF F k (M 430) c = false := hq
      rw [hq]; exact Ret.pure rfl
    · have hq : soF F k (M 430) c = true := hq
      rw [hq]; exact Ret.pure rfl
def told (T : TW) : Nat → Int := T 1
theorem M_guessAsTold {b : Nat} {T : TW} {R : Nat → RL} {v : Nat → Int} {M : KM} (h : WM b T R v M) : Ret (f_M_guessAsTold M) (fun M' => (∀ p, p < 8 → M' 430 p = M 393 (8 * b + p)) ∧ ∀ c, c ≠ 430 → M' c = M c) := by
  have hb := h.1.1
  unfold f_M_guessAsTold
  refine Ret.bind (R := fun M' => (∀ p, p < 8 → M' 430 p = M 393 (8 * b + p)) ∧ ∀ c, c ≠ 430 → M' c = M c) (Ret.loop 8 (fun i s => s.1 = (i : Int) ∧ (∀ p, p < i → s.2 430 p = M 393 (8 * b + p)) ∧ ∀ c, c ≠ 430 → s.2 c = M c) ⟨rfl, fun p hp => absurd hp (Nat.not_lt_zero _), fun c _ => rfl⟩ ?_ ?_) (fun q hq => Ret.pure hq)
  · rintro i s hi ⟨h1, h2, h3⟩
    have e37 : s.2 382 37 = (b : Int) := by rw [h3 382 (by omega)]; exact h.1.2
    rw [h1, e37, w32e (n := 8 * (b : Int)) (by omega) (by omega), w32e (n := 8 * (b : Int) + i) (by omega) (by omega), w32e (n := (i : Int) + 1) (by omega) (by omega), h3 393 (by omega)]
    refine Ret.t (by omega) (Ret.t (by omega) (Ret.t (by omega) (Ret.letM (Ret.pure ⟨rfl, fun p hp => ?_, fun c hc => ?_⟩))))
    · dsimp only
      rw [Int.toNat_natCast, show (8 * (b : Int) + i).toNat = 8 * b + i by omega]
      by_cases hpi : p = i
      · subst hpi; rw [mupd_same]
      · rw [mupd_ne2 _ _ hpi]; exact h2 p (by omega)
    · funext j; dsimp only; rw [mupd_ne _ _ hc, h3 c hc]
  · rintro s ⟨h1, h2, h3⟩
    exact Ret.f (by omega) (Ret.pure ⟨h2, h3⟩)
