/-! PAYMENTS -/
theorem kiclr_nat : ∀ g : Nat, g < 256 → ∀ p : Nat, p < 8 → g.testBit p = true → kiand (g : Int) (kixor (kishl 1 (p : Int)) (-1)) = ((g - 2 ^ p : Nat) : Int) := by decide +kernel
theorem kisub_nat : ∀ g : Nat, g < 256 → ∀ p : Nat, p < 8 → g.testBit p = true → w32 ((g : Int) - kishl 1 (p : Int)) = ((g - 2 ^ p : Nat) : Int) := by decide +kernel
def nsN (w : Nat → Int) (g : Nat) : Nat → Int := itF (fun p s => s + ns1 w g p) 0
theorem nsN_s (w : Nat → Int) (g n : Nat) : nsN w g (n + 1) = nsN w g n + ns1 w g n := rfl
theorem nsN_R {w : Nat → Int} (hw : ∀ p, -2970 ≤ w p ∧ w p ≤ 2970) (g : Nat) : ∀ n : Nat, -(2970 * (n : Int)) ≤ nsN w g n ∧ nsN w g n ≤ 2970 * (n : Int) := by
  intro n
  induction n with
  | zero => exact ⟨by show _ ≤ (0 : Int); omega, by show (0 : Int) ≤ _; omega⟩
  | succ n ih =>
    rw [nsN_s]
    have := hw n
    unfold ns1
    split <;> omega
theorem nsum_R {w : Nat → Int} (hw : ∀ p, -2970 ≤ w p ∧ w p ≤ 2970) (g : Nat) : -23760 ≤ nsum w g ∧ nsum w g ≤ 23760 := by
  have h := nsN_R hw g 8
  have e : nsum w g = nsN w g 8 := rfl
  rw [e]; omega
theorem Sg_le (w : Nat → Int) : ∀ g : Nat, g < 256 → Sg w g ≤ (g : Int) := by
  intro g
  induction g using Nat.strongRecOn with
  | ind g ih =>
    intro hg
    rw [Sg_rec w hg]
    have hb : mxN (Sg w) g 8 ≤ 0 ∨ mxN (Sg w) g 8 + 1 ≤ (g : Int) := by
      rcases mxN_at (Sg w) g 8 with h | ⟨p, h1, h2, h3⟩
      · omega
      · have a1 := tb_le g hg p h1 h2
        have a2 := Nat.two_pow_pos p
        have a3 := ih (g - 2 ^ p) (by omega) (by omega)
        omega
    split <;> omega
theorem mxN_255 (w : Nat → Int) {g : Nat} (hg : g < 256) (n : Nat) (hn : n ≤ 8) : 0 ≤ mxN (Sg w) g n ∧ mxN (Sg w) g n ≤ 255 := by
  refine ⟨(mxN_le _ _ _).1, ?_⟩
  rcases mxN_at (Sg w) g n with h | ⟨p, h1, h2, h3⟩
  · omega
  · have a3 := Sg_le w (g - 2 ^ p) (Nat.lt_of_le_of_lt (Nat.sub_le _ _) hg)
    have : g - 2 ^ p ≤ g := Nat.sub_le _ _
    omega
theorem cntN_stop {g : Nat → Bool} {n : Nat} : ∀ k, (∀ p, n ≤ p → p < n + k → g p = false) → cntN g (n + k) = cntN g n := by
  intro k
  induction k with
  | zero => intro _; rfl
  | succ k ih =>
    intro h
    rw [← Nat.add_assoc, cntN_s, ih fun p h1 h2 => h p h1 (by omega), h (n + k) (by omega) (by omega)]
    rfl
def payA (T : TW) (v : Nat → Int) : Int := T 0 0 - Sg (netV v) (2 ^ (T 0 0).toNat - 1)
def pPay (k j : Nat) : Prop := pD k j ∨ k = 342 ∨ k = 343
theorem X_payments {T : TW} {R : Nat → RL} {v : Nat → Int} {M : KM} (h : WC T R v M) (ho : WO T R v) : Ret (f_X_payments M) (fun q => q.1 = payA T v ∧ Fp pPay M q.2) := by
  have o := ho.1.1
  have hw := netV_R ho.2
  unfold f_X_payments
  refine Ret.bind (X_gatherNets h ho) ?_
  rintro M0 ⟨m0, m1, m2⟩
  obtain ⟨n, hn⟩ := Int.eq_ofNat_of_zero_le o.1
  have hn8 : n ≤ 8 := by omega
  have h256 := two_le256 n hn8
  have hpos := Nat.two_pow_pos n
  unfold f_Debts_fewestPayments
  rw [m0, hn, kishl_one n (by omega)]
  refine Ret.bind (R := fun q => q.1 = payA T v ∧ Fp (fun k _ => k = 342 ∨ k = 343) M0 q.2) (Ret.letI ?_) ?_
  · refine Ret.bind (R := fun M1 => (∀ g, g < 2 ^ n → M1 343 g = Sg (netV v) g) ∧ ∀ c, c ≠ 342 → c ≠ 343 → M1 c = M0 c) (Ret.loop (2 ^ n) (fun i s => s.1 = (i : Int) ∧ (∀ g, g < i → s.2 342 g = nsum (netV v) g ∧ s.2 343 g = Sg (netV v) g) ∧ ∀ c, c ≠ 342 → c ≠ 343 → s.2 c = M0 c) ⟨rfl, fun g hg => absurd hg (Nat.not_lt_zero _), fun c _ _ => rfl⟩ ?_ ?_) ?_
    · rintro i s hi ⟨k1, k2, k3⟩
      have hi256 : i < 256 := by omega
      rw [k1, w32e (n := (i : Int) + 1) (by omega) (by omega)]
      refine Ret.t (by omega) ?_
      have hno : ∀ q, n ≤ q → i.testBit q = false := fun q hq => Nat.testBit_lt_two_pow (Nat.lt_of_lt_of_le hi (Nat.pow_le_pow_right (by omega) hq))
      refine Ret.bind (R := fun e => e = (nsum (netV v) i, mxN (Sg (netV v)) i 8)) (Ret.loop n (fun p t => t.2.2 = (p : Int) ∧ t.2.1 = mxN (Sg (netV v)) i p ∧ (t.1 = nsum (netV v) i ∨ (t.1 = 0 ∧ ∀ q, q < p → i.testBit q = false))) ⟨rfl, rfl, Or.inr ⟨rfl, fun q hq => absurd hq (Nat.not_lt_zero _)⟩⟩ ?_ ?_) ?_
      · rintro p t hp ⟨t1, t2, t3⟩
        rw [t1, t2, w32e (n := (p : Int) + 1) (by omega) (by omega), k3 340 (by omega) (by omega), m0]
        refine Ret.t (by omega) ?_
        rw [isInV_bt (by omega) (by omega), Int.toNat_natCast, tb_bt]
        refine Ret.bind (R := fun e => e.2 = mxN (Sg (netV v)) i (p + 1) ∧ (e.1 = nsum (netV v) i ∨ (e.1 = 0 ∧ ∀ q, q < p + 1 → i.testBit q = false))) ?_ ?_
        · by_cases hb : i.testBit p = true
          · refine Ret.f (by rw [if_pos ⟨Int.natCast_nonneg _, hb⟩]; omega) (Ret.letI (Ret.letI (Ret.letI (Ret.pure ?_))))
            have hle := tb_le i hi256 p (by omega) hb
            have hpp := Nat.two_pow_pos p
            have hlt : i - 2 ^ p < i := by omega
            rw [kiclr_nat i hi256 p (by omega) hb, atM_nat _ _ _ (by omega : i - 2 ^ p < 256), atM_nat _ _ _ (by omega : i - 2 ^ p < 256), (k2 _ hlt).1, (k2 _ hlt).2, atM_nat _ _ _ (by omega : p < 8), k3 341 (by omega) (by omega), m1 p (by omega), nsum_sub _ hi256 (by omega) hb, mxN_s, if_pos hb]
            have hr := nsum_R hw i
            exact ⟨rfl, Or.inl (w32e (by omega) (by omega))⟩
          · refine Ret.t (by rw [if_neg (fun q => hb q.2)]) (Ret.pure ?_)
            rw [mxN_s, if_neg hb]
            refine ⟨rfl, ?_⟩
            rcases t3 with t3 | ⟨t3, t4⟩
            · exact Or.inl t3
            · refine Or.inr ⟨t3, fun q hq => ?_⟩
              by_cases hqp : q = p
              · subst hqp; exact Bool.not_eq_true _ ▸ hb
              · exact t4 q (by omega)
        · rintro e ⟨e1, e2⟩
          exact Ret.pure ⟨rfl, e1, e2⟩
      · rintro t ⟨t1, t2, t3⟩
        rw [t1, t2, k3 340 (by omega) (by omega), m0]
        refine Ret.f (by omega) (Ret.pure ?_)
        rw [mxN_stop _ hn8 hno]
        have : t.1 = nsum (netV v) i := by
          rcases t3 with t3 | ⟨t3, t4⟩
          · exact t3
          · have : i = 0 := tb_ext hi256 (by omega) fun q hq => by
              rw [Nat.zero_testBit]
              by_cases hqn : q < n
              · exact t4 q hqn
              · exact hno q (by omega)
            rw [t3, this, nsum_0]
        rw [this]
        rfl
      rintro e rfl
      dsimp only
      have hmx := mxN_255 (netV v) hi256 8 (by omega)
      have eS := Sg_rec (netV v) hi256
      refine Ret.letM ?_
      refine Ret.bind (R := fun z => z = Sg (netV v) i) ?_ ?_
      · refine Ret.br (fun h0 => Ret.pure ?_) (fun h0 => Ret.br (fun h1 => Ret.pure ?_) (fun h1 => Ret.pure ?_))
        · rw [eS, if_neg (fun q => q.1 (by omega))]; omega
        · rw [eS, if_pos ⟨by omega, h1⟩, w32e (by omega) (by omega)]
        · rw [eS, if_neg (fun q => h1 q.2)]; omega
      rintro z rfl
      refine Ret.letM (Ret.pure ⟨rfl, fun g hg => ?_, fun c h1 h2 => ?_⟩)
      · dsimp only
        rw [putM_nat _ _ _ _ hi256, putM_nat _ _ _ _ hi256]
        rw [mupd_ne _ _ (by omega), mupd_at, mupd_at, mupd_ne _ _ (by omega)]
        by_cases hgi : g = i
        · rw [if_pos ⟨rfl, hgi⟩, if_pos ⟨rfl, hgi⟩, hgi]; exact ⟨rfl, rfl⟩
        · rw [if_neg (fun q => hgi q.2), if_neg (fun q => hgi q.2)]; exact k2 g (by omega)
      · dsimp only
        rw [putM_nat _ _ _ _ hi256, putM_nat _ _ _ _ hi256]
        funext z
        rw [mupd_ne _ _ h2, mupd_ne _ _ h1, k3 c h1 h2]
    · rintro s ⟨k1, k2, k3⟩
      rw [k1]
      exact Ret.f (by omega) (Ret.pure ⟨fun g hg => (k2 g hg).2, k3⟩)
    · rintro M1 ⟨a1, a2⟩
      refine Ret.pure ⟨?_, fun k j hk => by dsimp only; rw [a2 k (fun q => hk (Or.inl q)) (fun q => hk (Or.inr q))]⟩
      dsimp only
      have e : w32 (((2 ^ n : Nat) : Int) - 1) = ((2 ^ n - 1 : Nat) : Int) := by rw [w32e (by omega) (by omega)]; omega
      rw [e, atM_nat _ _ _ (by omega), a1 _ (by omega), a2 340 (by omega) (by omega), m0, hn]
      unfold payA
      rw [hn, Int.toNat_natCast]
      have := Sg_le (netV v) (2 ^ n - 1) (by omega)
      have := Sg_pos (netV v) (g := 2 ^ n - 1) (by omega)
      exact w32e (by omega) (by omega)
  · rintro q ⟨q1, q2⟩
    refine Ret.pure ⟨q1, fun k j hk => ?_⟩
    dsimp only
    rw [q2 k j (fun q => hk (Or.inr q)), m2 k j (fun q => hk (Or.inl q))]
/-! the second side -/
theorem M_netOf {w : Nat → Int} {M : KM} (hw : ∀ p, -2970 ≤ w p ∧ w p ≤ 2970) (hM : ∀ p, p < 8 → M 420 p = w p) {g : Nat} (hg : g < 256) : f_M_netOf (g : Int) M = some (nsum w g) := by
  unfold f_M_netOf
  rw [wh_for (fun p => (nsN w g p, (p : Int))) 8 (nsum w g) (by rfl) ?_ ?_, ob_some]
  · intro p hp
    dsimp only
    rw [if_pos (by omega), kishr_bt (by omega) (by omega) (by omega), tb_bt, Int.toNat_natCast, hM p hp, w32e (n := (p : Int) + 1) (by omega) (by omega), nsN_s]
    have hr := nsN_R hw g p
    have hwp := hw p
    by_cases hb : g.testBit p = true
    · have e : ns1 w g p = w p := if_pos hb
      rw [if_pos hb, if_pos rfl, if_pos (by omega), ob_some, letI_e, w32e (by omega) (by omega), e]
      rfl
    · have e : ns1 w g p = 0 := if_neg hb
      rw [if_neg hb, if_neg (by omega), ob_some, letI_e, w32e (by omega) (by omega), e]
      rfl
  · rfl
theorem M_payments {b : Nat} {T : TW} {R : Nat → RL} {v : Nat → Int} {M : KM} (h : WM b T R v M) (ho : WO T R v) : Ret (f_M_payments M) (fun q => q.1 = payA T v ∧ Fp pDM M q.2) := by
  have o := ho.1.1
  have hw := netV_R ho.2
  unfold f_M_payments
  refine Ret.bind (M_layNets h ho) ?_
  rintro M0 ⟨m1, m2⟩
  refine Ret.bind (R := fun e => ∃ full : Nat, full < 256 ∧ e = ((full : Int), (cntN (fun p => decide (netV v p ≠ 0)) 8 : Int)) ∧ ∀ p, p < 8 → full.testBit p = decide (netV v p ≠ 0)) (Ret.loop 8 (fun i s => s.2.2 = (i : Int) ∧ (0 ≤ s.1 ∧ s.1 < 2147483648) ∧ (∀ j, bt s.1 j = (decide (j < i) && decide (netV v j ≠ 0))) ∧ s.2.1 = (cntN (fun p => decide (netV v p ≠ 0)) i : Int)) ⟨rfl, by dsimp only; omega, fun j => by simp [bt], rfl⟩ ?_ ?_) ?_
  · rintro i s hi ⟨k1, k2, k3, k4⟩
    have hcl := cntN_le (fun p => decide (netV v p ≠ 0)) i
    rw [k1, k4, w32e (n := (i : Int) + 1) (by omega) (by omega), w32e (n := (cntN (fun p => decide (netV v p ≠ 0)) i : Int) + 1) (by omega) (by omega), Int.toNat_natCast, m1 i hi]
    refine Ret.t (by omega) (Ret.t (by omega) ?_)
    obtain ⟨b1, b2, b3⟩ := kior_bit k2.1 k2.2 (by omega : i < 31)
    refine Ret.bind (R := fun e => (0 ≤ e.1 ∧ e.1 < 2147483648) ∧ (∀ j, bt e.1 j = (decide (j < i + 1) && decide (netV v j ≠ 0))) ∧ e.2 = (cntN (fun p => decide (netV v p ≠ 0)) (i + 1) : Int)) (Ret.br (fun hz => Ret.pure ⟨k2, fun j => ?_, ?_⟩) (fun hz => Ret.letI (Ret.pure ⟨⟨b1, b2⟩, fun j => ?_, ?_⟩))) ?_
    · rw [k3]
      by_cases hj : j = i
      · subst hj; simp [hz]
      · have : decide (j < i + 1) = decide (j < i) := decide_eq_decide.mpr (by omega)
        rw [this]
    · rw [cntN_s]; simp [hz]
    · dsimp only
      rw [b3, k3]
      by_cases hj : j = i
      · subst hj; simp [hz]
      · have : decide (j < i + 1) = decide (j < i) := decide_eq_decide.mpr (by omega)
        rw [this]; simp [hj]
    · rw [cntN_s]; simp [hz]
    · rintro e ⟨e1, e2, e3⟩
      exact Ret.pure ⟨rfl, e1, e2, e3⟩
  · rintro s ⟨k1, k2, k3, k4⟩
    rw [k1, k4]
    obtain ⟨full, hf⟩ := Int.eq_ofNat_of_zero_le k2.1
    have h256 : s.1 < ((2 ^ 8 : Nat) : Int) := bt_lt8 k2.1 fun i hi => by rw [k3]; simp; omega
    refine Ret.f (by omega) (Ret.pure ⟨full, by omega, by rw [hf], fun p hp => ?_⟩)
    have := k3 p
    rw [hf, tb_bt] at this
    rw [this]; simp [hp]
  rintro e ⟨full, hf, rfl, hfb⟩
  dsimp only
  have cnt0 : cntN (fun p => decide (netV v p ≠ 0)) 8 = cntN (fun p => decide (netV v p ≠ 0)) (T 0 0).toNat := by
    have e8 : 8 = (T 0 0).toNat + (8 - (T 0 0).toNat) := by omega
    rw [e8]
    refine cntN_stop _ fun p h1 h2 => ?_
    rw [netV_0 ho.2 (by omega)]; rfl
  have hfn : ∀ p, p < 8 → full.testBit p = (decide (p < (T 0 0).toNat) && decide (netV v p ≠ 0)) := fun p hp => by
    rw [hfb p hp]
    by_cases hpn : p < (T 0 0).toNat
    · simp [hpn]
    · rw [netV_0 ho.2 (by omega)]; simp
  refine Ret.t (by omega) (Ret.letM ?_)
  refine Ret.bind (R := fun M1 => M1 421 full = Sg (netV v) full ∧ ∀ c, c ≠ 421 → M1 c = M0 c) (Ret.loop full (fun i s => s.1 = ((i + 1 : Nat) : Int) ∧ (∀ g, g ≤ i → (∀ p, p < 8 → g.testBit p = true → full.testBit p = true) → s.2 421 g = Sg (netV v) g) ∧ ∀ c, c ≠ 421 → s.2 c = M0 c) ⟨rfl, fun g hg _ => ?_, fun c hc => by funext z; dsimp only; rw [mupd_ne _ _ hc]⟩ ?_ ?_) ?_
  · have : g = 0 := by omega
    subst this
    rw [Sg_0]
    exact mupd_same M0 421 0 0
  · rintro i s hi ⟨k1, k2, k3⟩
    have hi256 : i + 1 < 256 := by omega
    rw [k1]
    generalize hg : i + 1 = g at hi256
    rw [w32e (n := (g : Int) + 1) (by omega) (by omega)]
    refine Ret.t (by omega) (Ret.t (by omega) (Ret.letM ?_))
    rw [Int.toNat_natCast]
    refine Ret.bind (R := fun M1 => ((∀ p, p < 8 → g.testBit p = true → full.testBit p = true) → M1 421 g = mxN (Sg (netV v)) g 8) ∧ (∀ j, j ≠ g → M1 421 j = s.2 421 j) ∧ ∀ c, c ≠ 421 → M1 c = M0 c) (Ret.loop 8 (fun p t => t.1 = (p : Int) ∧ ((∀ p, p < 8 → g.testBit p = true → full.testBit p = true) → t.2 421 g = mxN (Sg (netV v)) g p) ∧ (∀ j, j ≠ g → t.2 421 j = s.2 421 j) ∧ ∀ c, c ≠ 421 → t.2 c = M0 c) ⟨rfl, fun _ => mupd_same _ _ _ _, fun j hj => mupd_ne2 _ _ hj, fun c hc => by funext z; dsimp only; rw [mupd_ne _ _ hc, k3 c hc]⟩ ?_ ?_) ?_
    · rintro p t hp ⟨t1, t2, t3, t4⟩
      rw [t1, kishr_bt (by omega) (by omega) (by omega), tb_bt, w32e (n := (p : Int) + 1) (by omega) (by omega)]
      refine Ret.t (by omega) ?_
      refine Ret.bind (R := fun M1 => ((∀ p, p < 8 → g.testBit p = true → full.testBit p = true) → M1 421 g = mxN (Sg (netV v)) g (p + 1)) ∧ (∀ j, j ≠ g → M1 421 j = s.2 421 j) ∧ ∀ c, c ≠ 421 → M1 c = M0 c) ?_ ?_
      · by_cases hb : g.testBit p = true
        · have hle := tb_le g hi256 p hp hb
          have hpp := Nat.two_pow_pos p
          have hne : g - 2 ^ p ≠ g := by omega
          rw [kisub_nat g hi256 p hp hb, Int.toNat_natCast, t3 _ hne]
          refine Ret.t (by rw [if_pos hb]) (Ret.t (by omega) (Ret.t (by omega) ?_))
          have hsub : (∀ p, p < 8 → g.testBit p = true → full.testBit p = true) → s.2 421 (g - 2 ^ p) = Sg (netV v) (g - 2 ^ p) := fun hs => k2 _ (by omega) fun q hq hbq => by
            rw [tb_sub g hi256 p hp hb q hq, Bool.and_eq_true] at hbq
            exact hs q hq hbq.1
          refine Ret.br (fun hc => Ret.pure ⟨fun hs => ?_, t3, t4⟩) (fun hc => Ret.t (by omega) (Ret.t (by omega) (Ret.letM (Ret.pure ⟨fun hs => ?_, fun j hj => ?_, fun c hc => ?_⟩))))
          · rw [mxN_s, if_pos hb, t2 hs]
            rw [t2 hs, hsub hs] at hc
            omega
          · rw [mupd_same, mxN_s, if_pos hb, hsub hs]
            rw [t2 hs, hsub hs] at hc
            omega
          · rw [mupd_ne2 _ _ hj]; exact t3 j hj
          · funext z; rw [mupd_ne _ _ hc, t4 c hc]
        · refine Ret.f (by rw [if_neg hb]; omega) (Ret.pure ⟨fun hs => ?_, t3, t4⟩)
          rw [mxN_s, if_neg hb]; exact t2 hs
      · rintro M1 ⟨a1, a2, a3⟩
        exact Ret.pure ⟨rfl, a1, a2, a3⟩
    · rintro t ⟨t1, t2, t3, t4⟩
      rw [t1]
      exact Ret.f (by omega) (Ret.pure ⟨t2, t3, t4⟩)
    rintro M1 ⟨a1, a2, a3⟩
    have hkand : kiand (g : Int) (full : Int) = (g : Int) ↔ ∀ p, p < 8 → g.testBit p = true → full.testBit p = true := by
      rw [kiand_nat (by omega) (by omega)]
      constructor
      · intro he p hp hb
        have he' : g &&& full = g := by omega
        rw [← he', Nat.testBit_and, Bool.and_eq_true] at hb
        exact hb.2
      · intro hs
        have : g &&& full = g := by
          refine tb_ext (Nat.lt_of_le_of_lt Nat.and_le_left hi256) hi256 fun p hp => ?_
          rw [Nat.testBit_and]
          cases hb : g.testBit p with
          | false => rfl
          | true => rw [hs p hp hb]; rfl
        rw [this]
    have hg0 : g ≠ 0 := by omega
    have eS := Sg_rec (netV v) hi256
    have hmx := mxN_255 (netV v) hi256 8 (by omega)
    refine Ret.bind (R := fun M2 => ((∀ p, p < 8 → g.testBit p = true → full.testBit p = true) → M2 421 g = Sg (netV v) g) ∧ (∀ j, j ≠ g → M2 421 j = s.2 421 j) ∧ ∀ c, c ≠ 421 → M2 c = M0 c) (Ret.br (fun hc => ?_) (fun hc => Ret.pure ⟨fun hs => absurd (hkand.mpr hs) hc, a2, a3⟩)) ?_
    · have hs := hkand.mp hc
      rw [M_netOf hw (fun p hp => by rw [a3 420 (by omega)]; exact m1 p hp) hi256, ob_some]
      refine Ret.br (fun hz => Ret.t (by omega) (Ret.t (by omega) (Ret.letM (Ret.pure ⟨fun _ => ?_, fun j hj => ?_, fun c hc => ?_⟩)))) (fun hz => Ret.pure ⟨fun _ => ?_, a2, a3⟩)
      · rw [mupd_same, a1 hs, eS, if_pos ⟨hg0, hz⟩]
        exact w32e (by omega) (by omega)
      · rw [mupd_ne2 _ _ hj]; exact a2 j hj
      · funext z; rw [mupd_ne _ _ hc, a3 c hc]
      · rw [a1 hs, eS, if_neg (fun q => hz q.2)]; omega
    · rintro M2 ⟨c1, c2, c3⟩
      refine Ret.pure ⟨?_, fun g' hg' hs => ?_, c3⟩
      · dsimp only; omega
      · dsimp only
        by_cases hgg : g' = g
        · subst hgg; exact c1 hs
        · rw [c2 g' hgg]; exact k2 g' (by omega) hs
  · rintro s ⟨k1, k2, k3⟩
    rw [k1]
    exact Ret.f (by omega) (Ret.pure ⟨k2 full (by omega) fun p _ hb => hb, k3⟩)
  rintro M1 ⟨a1, a2⟩
  rw [Int.toNat_natCast, a1]
  refine Ret.t (by omega) (Ret.pure ⟨?_, fun k j hk => ?_⟩)
  · dsimp only
    have ht := parts_total (netV v) (n := (T 0 0).toNat) (by omega) hf hfn
    have hcl := cntN_le (fun p => decide (netV v p ≠ 0)) 8
    have h1 := Sg_le (netV v) full hf
    have h2 := Sg_pos (netV v) hf
    rw [w32e (by omega) (by omega)]
    unfold payA
    rw [cnt0, ← ht]
    omega
  · dsimp only
    rw [a2 k (fun q => hk (Or.inr q)), m2 k (fun q => hk (Or.inl q))]
