/-! NETS -/
theorem SC_loans {v : Nat → Int} {n : Int} {M : KM} (h : SC 34 n v M) : M 34 6 = v 17 := h.1.2.2.2.2.1
theorem SC_loan {v : Nat → Int} {n : Int} {M : KM} (h : SC 34 n v M) (h30 : v 17 ≤ 30) {l : Nat} (hl : (l : Int) < v 17) : atM M 37 30 l = v (21 + 5 * l) ∧ atM M 38 30 l = v (22 + 5 * l) ∧ atM M 39 30 l = v (23 + 5 * l) ∧ (if isInV (M 34 8) l = 0 then (0 : Int) else 1) = v (25 + 5 * l) := by
  obtain ⟨a1, a2, a3, a4, a5⟩ := h.2.2.2 l hl
  refine ⟨?_, ?_, ?_, ?_⟩
  · rw [atM_nat _ _ _ (by omega)]; exact a1
  · rw [atM_nat _ _ _ (by omega)]; exact a2
  · rw [atM_nat _ _ _ (by omega)]; exact a3
  · rw [isInV_bt h.2.2.1.1 (by have := h.2.2.1.2.1; omega), Int.toNat_natCast, ← a5]
    have e : (34 : Nat) = 34 := rfl
    by_cases hb : bt (M 34 8) l = true
    · simp [hb]
    · simp [hb]
def netS (v : Nat → Int) : Nat → Nat → Int := itF (fun l g => if v (25 + 5 * l) = 0 then vset (vset g (v (21 + 5 * l)).toNat (w32 (g (v (21 + 5 * l)).toNat + v (23 + 5 * l)))) (v (22 + 5 * l)).toNat (w32 (vset g (v (21 + 5 * l)).toNat (w32 (g (v (21 + 5 * l)).toNat + v (23 + 5 * l))) (v (22 + 5 * l)).toNat - v (23 + 5 * l))) else g) (fun _ => 0)
def netV (v : Nat → Int) : Nat → Int := netS v (v 17).toNat
theorem netS_s (v : Nat → Int) (l : Nat) : netS v (l + 1) = if v (25 + 5 * l) = 0 then vset (vset (netS v l) (v (21 + 5 * l)).toNat (w32 (netS v l (v (21 + 5 * l)).toNat + v (23 + 5 * l)))) (v (22 + 5 * l)).toNat (w32 (vset (netS v l) (v (21 + 5 * l)).toNat (w32 (netS v l (v (21 + 5 * l)).toNat + v (23 + 5 * l))) (v (22 + 5 * l)).toNat - v (23 + 5 * l))) else netS v l := rfl
/-- they stay small -/
theorem netS_R {T : TW} {v : Nat → Int} (hS : okS T v) : ∀ l : Nat, (l : Int) ≤ v 17 → ∀ p, -(99 * (l : Int)) ≤ netS v l p ∧ netS v l p ≤ 99 * (l : Int) := by
  intro l
  induction l with
  | zero => intro _ p; exact ⟨by show _ ≤ (0 : Int); omega, by show (0 : Int) ≤ _; omega⟩
  | succ l ih =>
    intro hl p
    have h := ih (by omega)
    obtain ⟨b1, b2, b3, b4, b5, b6, b7, b8⟩ := hS.2.2.2 l (by omega)
    have h30 := hS.1.2.2.2.1
    rw [netS_s]
    have hp := h p
    have ha := h (v (21 + 5 * l)).toNat
    have hb := h (v (22 + 5 * l)).toNat
    have hne : ¬ (v (22 + 5 * l)).toNat = (v (21 + 5 * l)).toNat := by omega
    split
    · unfold vset
      rw [w32e (n := netS v l (v (21 + 5 * l)).toNat + v (23 + 5 * l)) (by omega) (by omega), if_neg hne, w32e (by omega) (by omega)]
      split
      · omega
      · split
        · omega
        · omega
    · omega
theorem netV_R {T : TW} {v : Nat → Int} (hS : okS T v) (p : Nat) : -2970 ≤ netV v p ∧ netV v p ≤ 2970 := by
  have h := netS_R hS (v 17).toNat (by have := hS.1.2.2.1; omega) p
  have h30 := hS.1.2.2.2.1
  have h0 := hS.1.2.2.1
  unfold netV
  omega
/-- of those who are not there they are 0 -/
theorem netS_0 {T : TW} {v : Nat → Int} (hS : okS T v) : ∀ l : Nat, (l : Int) ≤ v 17 → ∀ p : Nat, T 0 0 ≤ (p : Int) → netS v l p = 0 := by
  intro l
  induction l with
  | zero => intro _ p _; rfl
  | succ l ih =>
    intro hl p hp
    obtain ⟨b1, b2, b3, b4, b5, b6, b7, b8⟩ := hS.2.2.2 l (by omega)
    rw [netS_s]
    have h := ih (by omega) p hp
    split
    · unfold vset
      rw [if_neg (by omega), if_neg (by omega)]; exact h
    · exact h
theorem netV_0 {T : TW} {v : Nat → Int} (hS : okS T v) {p : Nat} (hp : T 0 0 ≤ (p : Int)) : netV v p = 0 := netS_0 hS _ (by have := hS.1.2.2.1; omega) p hp
def pD (k j : Nat) : Prop := k = 341 ∨ (k = 340 ∧ j = 1)
def netG (v : Nat → Int) (w : Int) : Int := netV v w.toNat
theorem X_gatherNets {T : TW} {R : Nat → RL} {v : Nat → Int} {M : KM} (h : WC T R v M) (ho : WO T R v) : Ret (f_Debts_gather M) (fun q => q 340 1 = T 0 0 ∧ (∀ p, p < 8 → q 341 p = netV v p) ∧ Fp pD M q) := by
  have o := ho.1.1
  have s := ho.2.1
  unfold f_Debts_gather
  refine Ret.letM ?_
  have f0 : Fp pD M (mupd M 340 1 (M 34 2)) := Fp.rf.upd (Or.inr ⟨rfl, rfl⟩)
  have e0 : mupd M 340 1 (M 34 2) 340 1 = T 0 0 := by rw [mupd_same]; exact h.2.1.1
  generalize mupd M 340 1 (M 34 2) = M0 at f0 e0 ⊢
  refine Ret.bind (R := fun M1 => (∀ j, j < 8 → M1 341 j = 0) ∧ ∀ c, c ≠ 341 → M1 c = M0 c) (Ret.loop 8 (fun i s => s.1 = (i : Int) ∧ (∀ j, j < i → s.2 341 j = 0) ∧ ∀ c, c ≠ 341 → s.2 c = M0 c) ⟨rfl, fun j hj => absurd hj (Nat.not_lt_zero _), fun c _ => rfl⟩ ?_ ?_) ?_
  · rintro i s hi ⟨k1, k2, k3⟩
    rw [k1, w32e (n := (i : Int) + 1) (by omega) (by omega)]
    refine Ret.t (by omega) (Ret.t (by omega) (Ret.letM (Ret.pure ⟨rfl, fun j hj => ?_, fun c hc => by funext z; dsimp only; rw [mupd_ne _ _ hc, k3 c hc]⟩)))
    dsimp only
    rw [mupd_at, Int.toNat_natCast]
    by_cases hji : j = i
    · rw [if_pos ⟨rfl, hji⟩]
    · rw [if_neg (fun q => hji q.2)]; exact k2 j (by omega)
  · rintro s ⟨k1, k2, k3⟩
    rw [k1]
    exact Ret.f (by omega) (Ret.pure ⟨k2, k3⟩)
  rintro M1 ⟨z1, z2⟩
  have fr1 : Fp pD M M1 := fun k j hk => by
    rw [z2 k (fun q => hk (Or.inl q)), f0 k j hk]
  have sc1 : ∀ (M2 : KM), (∀ c, c ≠ 341 → M2 c = M1 c) → SC 34 (T 0 0) v M2 := fun M2 hM => by
    have hw : WC T R v M2 := h.congr fun k j hk => by
      rw [hM k (by unfold pN at hk; omega), fr1 k j (by unfold pN at hk; unfold pD; omega)]
    exact hw.2
  refine Ret.bind (R := fun M2 => (∀ p, p < 8 → M2 341 p = netV v p) ∧ ∀ c, c ≠ 341 → M2 c = M1 c) (Ret.loop (v 17).toNat (fun i s => s.1 = (i : Int) ∧ (∀ p, p < 8 → s.2 341 p = netS v i p) ∧ ∀ c, c ≠ 341 → s.2 c = M1 c) ⟨rfl, fun p hp => z1 p hp, fun c _ => rfl⟩ ?_ ?_) ?_
  · rintro i s hi ⟨k1, k2, k3⟩
    have hi' : (i : Int) < v 17 := by omega
    have hsc := sc1 s.2 k3
    obtain ⟨a1, a2, a3, a4⟩ := SC_loan hsc (by omega) hi'
    obtain ⟨b1, b2, b3, b4, b5, b6, b7, b8⟩ := ho.2.2.2.2 i hi'
    rw [k1, w32e (n := (i : Int) + 1) (by omega) (by omega), SC_loans hsc, a1, a2, a3]
    refine Ret.t hi' ?_
    refine Ret.bind (R := fun M2 => (∀ p, p < 8 → M2 341 p = netS v (i + 1) p) ∧ ∀ c, c ≠ 341 → M2 c = M1 c) (Ret.br (fun hz => ?_) (fun hz => ?_)) ?_
    · have hv : v (25 + 5 * i) = 0 := by rw [← a4, if_pos hz]
      refine Ret.letI (Ret.letI (Ret.letM (Ret.letM (Ret.pure ⟨fun p hp => ?_, fun c hc => ?_⟩))))
      · rw [netS_s, if_pos hv]
        rw [putM_in _ _ _ _ b1 (by omega), atM_in _ _ _ b1 (by omega)]
        have e39 : atM (mupd s.2 341 (v (21 + 5 * i)).toNat (w32 (s.2 341 (v (21 + 5 * i)).toNat + v (23 + 5 * i)))) 39 30 (i : Int) = v (23 + 5 * i) := by
          rw [← a3]; unfold atM; rw [mupd_ne _ _ (by omega)]
        rw [e39, putM_in _ _ _ _ b3 (by omega), atM_in _ _ _ b3 (by omega), mupd_at, mupd_at, mupd_at, k2 _ (by omega)]
        unfold vset
        have e1 : s.2 341 (v (22 + 5 * i)).toNat = netS v i (v (22 + 5 * i)).toNat := k2 _ (by omega)
        have e2 : s.2 341 p = netS v i p := k2 p hp
        rw [e1, e2]
        by_cases c1 : p = (v (22 + 5 * i)).toNat
        · rw [if_pos ⟨rfl, c1⟩, if_pos c1]
          by_cases c2 : (v (22 + 5 * i)).toNat = (v (21 + 5 * i)).toNat
          · rw [if_pos ⟨rfl, c2⟩, if_pos c2]
          · rw [if_neg (fun q => c2 q.2), if_neg c2]
        · rw [if_neg (fun q => c1 q.2), if_neg c1]
          by_cases c2 : p = (v (21 + 5 * i)).toNat
          · rw [if_pos ⟨rfl, c2⟩, if_pos c2]
          · rw [if_neg (fun q => c2 q.2), if_neg c2]
      · rw [putM_in _ _ _ _ b1 (by omega), putM_in _ _ _ _ b3 (by omega)]
        funext z
        rw [mupd_ne _ _ hc, mupd_ne _ _ hc, k3 c hc]
    · have hv : ¬ v (25 + 5 * i) = 0 := by rw [← a4, if_neg hz]; omega
      refine Ret.pure ⟨fun p hp => ?_, k3⟩
      rw [netS_s, if_neg hv]; exact k2 p hp
    · rintro M2 ⟨m1, m2⟩
      exact Ret.pure ⟨rfl, m1, m2⟩
  · rintro s ⟨k1, k2, k3⟩
    rw [k1, SC_loans (sc1 s.2 k3)]
    exact Ret.f (by omega) (Ret.pure ⟨k2, k3⟩)
  rintro M2 ⟨m1, m2⟩
  refine Ret.pure ⟨?_, m1, fun k j hk => ?_⟩
  · rw [m2 340 (by omega), z2 340 (by omega)]; exact e0
  · rw [m2 k (fun q => hk (Or.inl q)), fr1 k j hk]
def netA (T : TW) (v : Nat → Int) (p : Int) : Int := if 0 ≤ p ∧ p < T 0 0 then netV v p.toNat else -1000000
theorem X_net {T : TW} {R : Nat → RL} {v : Nat → Int} {M : KM} (h : WC T R v M) (ho : WO T R v) (p : Int) : Ret (f_X_net p M) (fun q => q.1 = netA T v p ∧ Fp pD M q.2) := by
  have o := ho.1.1
  unfold f_X_net netA
  rw [e_X_isPerson, ob_some, h.n]
  by_cases hp : 0 ≤ p ∧ p < T 0 0
  · rw [if_pos hp, if_pos hp]
    refine Ret.f (by omega) ?_
    refine Ret.bind (X_gatherNets h ho) ?_
    rintro M1 ⟨m0, m1, m2⟩
    refine Ret.pure ⟨?_, m2⟩
    dsimp only
    rw [atM_in _ _ _ hp.1 (by omega), m1 _ (by omega)]
  · rw [if_neg hp, if_neg hp]
    exact Ret.t rfl (Ret.pure ⟨rfl, Fp.rf⟩)
/-! the second side -/
def pDM (k _ : Nat) : Prop := k = 420 ∨ k = 421
theorem M_layNets {b : Nat} {T : TW} {R : Nat → RL} {v : Nat → Int} {M : KM} (h : WM b T R v M) (ho : WO T R v) : Ret (f_M_layNets M) (fun q => (∀ p, p < 8 → q 420 p = netV v p) ∧ ∀ c, c ≠ 420 → q c = M c) := by
  have o := ho.1.1
  have s := ho.2.1
  unfold f_M_layNets
  refine Ret.bind (R := fun M1 => (∀ j, j < 8 → M1 420 j = 0) ∧ ∀ c, c ≠ 420 → M1 c = M c) (Ret.loop 8 (fun i s => s.1 = (i : Int) ∧ (∀ j, j < i → s.2 420 j = 0) ∧ ∀ c, c ≠ 420 → s.2 c = M c) ⟨rfl, fun j hj => absurd hj (Nat.not_lt_zero _), fun c _ => rfl⟩ ?_ ?_) ?_
  · rintro i s hi ⟨k1, k2, k3⟩
    rw [k1, w32e (n := (i : Int) + 1) (by omega) (by omega)]
    refine Ret.t (by omega) (Ret.t (by omega) (Ret.letM (Ret.pure ⟨rfl, fun j hj => ?_, fun c hc => by funext z; dsimp only; rw [mupd_ne _ _ hc, k3 c hc]⟩)))
    dsimp only
    rw [mupd_at, Int.toNat_natCast]
    by_cases hji : j = i
    · rw [if_pos ⟨rfl, hji⟩]
    · rw [if_neg (fun q => hji q.2)]; exact k2 j (by omega)
  · rintro s ⟨k1, k2, k3⟩
    rw [k1]
    exact Ret.f (by omega) (Ret.pure ⟨k2, k3⟩)
  rintro M1 ⟨z1, z2⟩
  have e17 : ∀ (M2 : KM), (∀ c, c ≠ 420 → M2 c = M1 c) → M2 411 = M 411 := fun M2 hM => by rw [hM 411 (by omega), z2 411 (by omega)]
  have g : ∀ j, j < 171 → M 411 j = v j := fun j hj => by have := h.2.2 j hj; rwa [Nat.zero_add] at this
  refine Ret.bind (R := fun M2 => (∀ p, p < 8 → M2 420 p = netV v p) ∧ ∀ c, c ≠ 420 → M2 c = M1 c) (Ret.loop (v 17).toNat (fun i s => s.1 = (i : Int) ∧ (∀ p, p < 8 → s.2 420 p = netS v i p) ∧ ∀ c, c ≠ 420 → s.2 c = M1 c) ⟨rfl, fun p hp => z1 p hp, fun c _ => rfl⟩ ?_ ?_) ?_
  · rintro i s hi ⟨k1, k2, k3⟩
    have hi' : (i : Int) < v 17 := by omega
    have e411 := e17 s.2 k3
    obtain ⟨b1, b2, b3, b4, b5, b6, b7, b8⟩ := ho.2.2.2.2 i hi'
    have w5 : w32 (21 + w32 (5 * (i : Int))) = 21 + 5 * (i : Int) := by rw [w32e (n := 5 * (i : Int)) (by omega) (by omega), w32e (by omega) (by omega)]
    have t0 : (21 + 5 * (i : Int)).toNat = 21 + 5 * i := by omega
    have t1 : (21 + 5 * (i : Int) + 1).toNat = 22 + 5 * i := by omega
    have t2 : (21 + 5 * (i : Int) + 2).toNat = 23 + 5 * i := by omega
    have t4 : (21 + 5 * (i : Int) + 4).toNat = 25 + 5 * i := by omega
    rw [k1, w32e (n := (i : Int) + 1) (by omega) (by omega), w5, e411]
    refine Ret.t (by omega) (Ret.t (by rw [show (17 : Int).toNat = 17 from rfl, g 17 (by omega)]; exact hi') (Ret.letI ?_))
    rw [w32e (n := 21 + 5 * (i : Int) + 1) (by omega) (by omega), w32e (n := 21 + 5 * (i : Int) + 2) (by omega) (by omega), w32e (n := 21 + 5 * (i : Int) + 4) (by omega) (by omega), t0, t1, t2, t4, g _ (by omega : 21 + 5 * i < 171), g _ (by omega : 23 + 5 * i < 171), g _ (by omega : 25 + 5 * i < 171)]
    refine Ret.t (by omega) ?_
    refine Ret.bind (R := fun M2 => (∀ p, p < 8 → M2 420 p = netS v (i + 1) p) ∧ ∀ c, c ≠ 420 → M2 c = M1 c) (Ret.br (fun hz => ?_) (fun hz => ?_)) ?_
    · refine Ret.pure ⟨fun p hp => ?_, k3⟩
      rw [netS_s, if_neg (by omega)]; exact k2 p hp
    · refine Ret.t (by omega) (Ret.t (by omega) (Ret.t (by omega) (Ret.t (by omega) (Ret.letM ?_))))
      have e2 : ∀ x, mupd s.2 420 (v (21 + 5 * i)).toNat x 411 = M 411 := fun x => by funext z; rw [mupd_ne _ _ (by omega), e411]
      rw [e2, g _ (by omega : 22 + 5 * i < 171), g _ (by omega : 23 + 5 * i < 171)]
      refine Ret.t (by omega) (Ret.t (by omega) (Ret.t (by omega) (Ret.t (by omega) (Ret.letM (Ret.pure ⟨fun p hp => ?_, fun c hc => ?_⟩)))))
      · rw [netS_s, if_pos (by omega), mupd_at, mupd_at, mupd_at, k2 _ (by omega)]
        unfold vset
        have e1 : s.2 420 (v (22 + 5 * i)).toNat = netS v i (v (22 + 5 * i)).toNat := k2 _ (by omega)
        have e3 : s.2 420 p = netS v i p := k2 p hp
        rw [e1, e3]
        by_cases c1 : p = (v (22 + 5 * i)).toNat
        · rw [if_pos ⟨rfl, c1⟩, if_pos c1]
          by_cases c2 : (v (22 + 5 * i)).toNat = (v (21 + 5 * i)).toNat
          · rw [if_pos ⟨rfl, c2⟩, if_pos c2]
          · rw [if_neg (fun q => c2 q.2), if_neg c2]
        · rw [if_neg (fun q => c1 q.2), if_neg c1]
          by_cases c2 : p = (v (21 + 5 * i)).toNat
          · rw [if_pos ⟨rfl, c2⟩, if_pos c2]
          · rw [if_neg (fun q => c2 q.2), if_neg c2]
      · funext z
        rw [mupd_ne _ _ hc, mupd_ne _ _ hc, k3 c hc]
    · rintro M2 ⟨m1, m2⟩
      exact Ret.pure ⟨rfl, m1, m2⟩
  · rintro s ⟨k1, k2, k3⟩
    rw [k1, e17 s.2 k3, show (17 : Int).toNat = 17 from rfl, g 17 (by omega)]
    exact Ret.t (by omega) (Ret.f (by omega) (Ret.pure ⟨k2, k3⟩))
  rintro M2 ⟨m1, m2⟩
  exact Ret.pure ⟨m1, fun c hc => by rw [m2 c hc, z2 c hc]⟩
theorem M_net {b : Nat} {T : TW} {R : Nat → RL} {v : Nat → Int} {M : KM} (h : WM b T R v M) (ho : WO T R v) (p : Int) : Ret (f_M_net p M) (fun q => q.1 = netA T v p ∧ Fp pDM M q.2) := by
  have o := ho.1.1
  unfold f_M_net netA
  rw [M_isPerson h ho, ob_some]
  by_cases hp : 0 ≤ p ∧ p < T 0 0
  · rw [if_pos hp, if_pos hp]
    refine Ret.f (by omega) ?_
    refine Ret.bind (M_layNets h ho) ?_
    rintro M1 ⟨m1, m2⟩
    refine Ret.t (by omega) (Ret.pure ⟨?_, fun k j hk => ?_⟩)
    · dsimp only
      rw [m1 _ (by omega)]
    · dsimp only
      rw [m2 k (fun q => hk (Or.inl q))]
  · rw [if_neg hp, if_neg hp]
    exact Ret.t rfl (Ret.pure ⟨rfl, Fp.rf⟩)
