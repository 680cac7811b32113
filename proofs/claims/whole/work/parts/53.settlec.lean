/-! CHEAPEST: the first side settles -/
def psm (s : Nat → Int) : Int := sm (fun p => max 0 (s p)) 8
def flowA (N : NW) (s0 : Nat → Int) (z : Int) : Prop := (sm s0 8 ≠ 0 ∧ z = -1) ∨ (sm s0 8 = 0 ∧ ((∃ x s, FINV N s0 x s z ∧ ∀ p, p < 8 → s p = 0) ∨ (cutN N s0 ∧ z = -1)))
theorem sm_neg (f : Nat → Int) (n : Nat) : sm (fun p => -f p) n = -sm f n := by
  induction n with
  | zero => rfl
  | succ n ih => rw [sm_s, sm_s, ih]; omega
theorem sm_pos {f : Nat → Int} {n : Nat} (h : 0 < sm f n) : ∃ p, p < n ∧ 0 < f p := by
  apply Classical.byContradiction
  intro hno
  have := sm_mono (f := f) (g := fun _ => 0) (n := n) (fun i hi => by
    apply Classical.byContradiction
    intro hp
    exact hno ⟨i, hi, by omega⟩)
  rw [sm_zero (f := fun _ => 0) (fun _ _ => rfl)] at this
  omega
theorem bal_le {s : Nat → Int} (h : ∀ p, p < 8 → s p ≤ 0) (h0 : sm s 8 = 0) : ∀ p, p < 8 → s p = 0 := fun p hp => by
  have := (sm_one (f := fun p => -s p) (n := 8) (i := p) (fun j hj => by have := h j hj; omega) hp).1
  rw [sm_neg] at this
  have := h p hp
  omega
theorem bal_ge {s : Nat → Int} (h : ∀ p, p < 8 → 0 ≤ s p) (h0 : sm s 8 = 0) : ∀ p, p < 8 → s p = 0 := fun p hp => by
  have := (sm_one (f := s) (n := 8) (i := p) h hp).1
  have := h p hp
  omega
theorem psm_ge {s : Nat → Int} {p : Nat} (hp : p < 8) : s p ≤ psm s ∧ 0 ≤ psm s := by
  have := sm_one (f := fun p => max 0 (s p)) (n := 8) (i := p) (fun j _ => by omega) hp
  unfold psm
  omega
theorem FINV.bal {N : NW} {s0 x s : Nat → Int} {c : Int} (h : FINV N s0 x s c) : sm s 8 = sm s0 8 := by
  have := h.2.2.1 (fun _ => 1)
  rw [sm_zero (f := fun e => x e * (1 - 1)) (fun i _ => by simp)] at this
  have e : ∀ f : Nat → Int, sm (fun p => f p * 1) 8 = sm f 8 := fun f => sm_congr fun i _ => by omega
  rw [e, e] at this
  omega
theorem psm_set {s : Nat → Int} {g u : Nat} (hg : g < 8) (hu : u < 8) (hgu : g ≠ u) (hsg : s g < 0) (hsu : 0 < s u) {n : Int} (h0 : 0 ≤ n) (h1 : n ≤ -s g) (h2 : n ≤ s u) : psm (vset (vset s u (s u - n)) g (s g + n)) = psm s - n := by
  unfold psm
  rw [sm_vset (fun _ y => max 0 y), sm_vset (fun _ y => max 0 y), if_pos hg, if_pos hu]
  have e : vset s u (s u - n) g = s g := if_neg hgu
  rw [e]
  omega
theorem X_nearestLacks {S : DP} {s : Nat → Int} {M : KM} (hD : DPC S M) (hs : ∀ p, p < 8 → M 333 p = s p) : Ret (f_Roads_nearestWhoLacks M) (fun r => (r = -1 ∧ ∀ g, g < 8 → s g < 0 → 100000000 ≤ S.1 g) ∨ ∃ g : Nat, g < 8 ∧ r = (g : Int) ∧ s g < 0 ∧ S.1 g < 100000000) := by
  unfold f_Roads_nearestWhoLacks
  refine Ret.bind (Ret.loop 8 (fun i t => t.2.2 = (i : Int) ∧ ((t.1 = 100000000 ∧ t.2.1 = -1 ∧ ∀ g, g < i → s g < 0 → 100000000 ≤ S.1 g) ∨ ∃ g : Nat, g < i ∧ t.2.1 = (g : Int) ∧ s g < 0 ∧ S.1 g < 100000000 ∧ t.1 = S.1 g)) ⟨rfl, Or.inl ⟨rfl, rfl, fun g hg => absurd hg (Nat.not_lt_zero _)⟩⟩ ?_ ?_) (fun r hr => Ret.pure hr)
  · rintro i t hi ⟨k1, k2⟩
    rw [k1, w32e (n := (i : Int) + 1) (by omega) (by omega), atM_nat _ _ _ hi, atM_nat _ _ _ hi, hs i hi, (hD i hi).1]
    refine Ret.t (by omega) ?_
    have keep : (¬ (s i < 0 ∧ S.1 i < t.1)) → Ret (some (t.1, t.2.1)) (fun e : Int × Int => ((e.1 = 100000000 ∧ e.2 = -1 ∧ ∀ g, g < i + 1 → s g < 0 → 100000000 ≤ S.1 g) ∨ ∃ g : Nat, g < i + 1 ∧ e.2 = (g : Int) ∧ s g < 0 ∧ S.1 g < 100000000 ∧ e.1 = S.1 g)) := fun hno => Ret.pure (by
      dsimp only
      rcases k2 with ⟨k3, k4, k5⟩ | ⟨g, g1, g2, g3, g4, g5⟩
      · refine Or.inl ⟨k3, k4, fun g hg hsg => ?_⟩
        by_cases hgi : g = i
        · subst hgi; omega
        · exact k5 g (by omega) hsg
      · exact Or.inr ⟨g, by omega, g2, g3, g4, g5⟩)
    refine Ret.bind (R := fun e : Int × Int => ((e.1 = 100000000 ∧ e.2 = -1 ∧ ∀ g, g < i + 1 → s g < 0 → 100000000 ≤ S.1 g) ∨ ∃ g : Nat, g < i + 1 ∧ e.2 = (g : Int) ∧ s g < 0 ∧ S.1 g < 100000000 ∧ e.1 = S.1 g)) (Ret.br (fun h1 => Ret.br (fun h2 => Ret.letI (Ret.pure ?_)) fun h2 => keep (fun q => h2 q.2)) fun h1 => keep (fun q => h1 q.1)) (fun e he => Ret.pure ⟨rfl, he⟩)
    refine Or.inr ⟨i, by omega, rfl, h1, ?_, rfl⟩
    rcases k2 with ⟨k3, k4, k5⟩ | ⟨g, g1, g2, g3, g4, g5⟩ <;> omega
  · rintro t ⟨k1, k2⟩
    rw [k1]
    refine Ret.f (by omega) (Ret.pure ?_)
    rcases k2 with ⟨k3, k4, k5⟩ | ⟨g, g1, g2, g3, g4, g5⟩
    · exact Or.inl ⟨k4, k5⟩
    · exact Or.inr ⟨g, g1, g2, g3, g4⟩
def pSt (k _ : Nat) : Prop := k = 333 ∨ k = 337 ∨ k = 338 ∨ k = 339
theorem X_settle {T : TW} {R : Nat → RL} {v s0 : Nat → Int} {M : KM} (h : WC T R v M) (ho : WO T R v) (hs : ∀ p, p < 8 → M 333 p = s0 p) (hsR : ∀ p, p < 8 → -150 ≤ s0 p ∧ s0 p ≤ 150) : Ret (f_Roads_settle (v 16) M) (fun q => flowA (netC T v) s0 q.1 ∧ ∀ c, c ≠ 333 → c ≠ 337 → c ≠ 338 → c ≠ 339 → q.2 c = M c) := by
  have o := ho.1.1
  have hN := netC_wf ho.1 v
  have hK : (netC T v).K = (T 0 1).toNat := rfl
  have hW : (netC T v).W = 99 := rfl
  have smR : ∀ i : Nat, i ≤ 8 → -(150 * (i : Int)) ≤ sm s0 i ∧ sm s0 i ≤ 150 * (i : Int) ∧ 0 ≤ sm (fun p => max 0 (s0 p)) i ∧ sm (fun p => max 0 (s0 p)) i ≤ 150 * (i : Int) := by
    intro i
    induction i with
    | zero => intro _; simp [sm, itF]
    | succ i ih =>
      intro hi
      have := ih (by omega)
      have := hsR i (by omega)
      rw [sm_s, sm_s]
      omega
  unfold f_Roads_settle
  refine Ret.bind (R := fun e => e = (sm s0 8, psm s0)) (Ret.loop 8 (fun i t => t = (sm s0 i, sm (fun p => max 0 (s0 p)) i, (i : Int))) rfl ?_ ?_) ?_
  · rintro i t hi rfl
    have := smR i (by omega)
    have := hsR i hi
    dsimp only
    rw [Int.toNat_natCast, hs i hi, w32e (n := sm s0 i + s0 i) (by omega) (by omega), w32e (n := sm (fun p => max 0 (s0 p)) i + max 0 (s0 i)) (by omega) (by omega), w32e (n := (i : Int) + 1) (by omega) (by omega)]
    exact Ret.t (by omega) (Ret.t (by omega) (Ret.letI (Ret.t (by omega) (Ret.letI (Ret.pure rfl)))))
  · rintro t rfl
    exact Ret.f (by dsimp only; omega) (Ret.pure rfl)
  rintro e4 rfl
  dsimp only
  refine Ret.br (fun h0 => ?_) (fun h0 => Ret.pure ⟨Or.inl ⟨h0, rfl⟩, fun c _ _ _ _ => rfl⟩)
  refine Ret.bind (R := fun M1 => (∀ f, f < 20 → M1 337 f = 0) ∧ ∀ c, c ≠ 337 → M1 c = M c) (Ret.loop 20 (fun i t => t.1 = (i : Int) ∧ (∀ j, j < i → t.2 337 j = 0) ∧ ∀ c, c ≠ 337 → t.2 c = M c) ⟨rfl, fun j hj => absurd hj (Nat.not_lt_zero _), fun c _ => rfl⟩ ?_ ?_) ?_
  · rintro i t hi ⟨k1, k2, k3⟩
    rw [k1, w32e (n := (i : Int) + 1) (by omega) (by omega), Int.toNat_natCast]
    refine Ret.t (by omega) (Ret.t (by omega) (Ret.letM (Ret.pure ⟨rfl, fun j hj => ?_, fun c hc => by funext z; dsimp only; rw [mupd_ne _ _ hc, k3 c hc]⟩)))
    dsimp only
    by_cases hji : j = i
    · subst hji; exact mupd_same _ _ _ _
    · rw [mupd_ne2 _ _ hji]; exact k2 j (by omega)
  · rintro t ⟨k1, k2, k3⟩
    rw [k1]
    exact Ret.f (by omega) (Ret.pure ⟨k2, k3⟩)
  rintro M1 ⟨z1, z2⟩
  have mR : 0 ≤ psm s0 ∧ psm s0 ≤ 1200 := by have := smR 8 (by omega); unfold psm; omega
  generalize hmost : psm s0 = most at mR ⊢
  refine Ret.bind (R := fun e : (Int × KM) ⊕ KM => Sum.elim (fun e : Int × KM => (∃ x s, FINV (netC T v) s0 x s e.1 ∧ ∀ p, p < 8 → s p = 0) ∧ ∀ c, c ≠ 333 → c ≠ 337 → c ≠ 338 → c ≠ 339 → e.2 c = M c) (fun M' : KM => cutN (netC T v) s0 ∧ ∀ c, c ≠ 333 → c ≠ 337 → c ≠ 338 → c ≠ 339 → M' c = M c) e) ?_ ?_
  · refine Ret.loop most.toNat (fun k t => t.2.2.1 = (k : Int) ∧ (∀ c, c ≠ 333 → c ≠ 337 → c ≠ 338 → c ≠ 339 → t.2.2.2 c = M c) ∧ ∃ x s, FINV (netC T v) s0 x s t.1 ∧ (∀ p, p < 8 → t.2.2.2 333 p = s p ∧ -1200 ≤ s p ∧ s p ≤ 1200) ∧ (∀ f : Nat, (f : Int) < T 0 1 → t.2.2.2 337 f = x f ∧ x f ≤ most - psm s) ∧ t.2.1 = psm s ∧ psm s + k ≤ most ∧ -(700 * (most - psm s)) ≤ t.1 ∧ t.1 ≤ 700 * (most - psm s)) ⟨rfl, fun c _ h7 _ _ => z2 c h7, fun _ => 0, s0, FINV_0 hN s0, fun p hp => ⟨by dsimp only; rw [z2 333 (by omega)]; exact hs p hp, by have := hsR p hp; omega⟩, fun f hf => ⟨z1 f (by omega), by dsimp only; omega⟩, hmost.symm, by omega, by dsimp only; omega, by dsimp only; omega⟩ ?_ ?_
    · rintro k t hk ⟨k1, k2, x, s, f1, f2, f3, f4, f5, f6, f7⟩
      have hw : WC T R v t.2.2.2 := h.congr fun c j hc => by rw [k2 c (by unfold pN at hc; omega) (by unfold pN at hc; omega) (by unfold pN at hc; omega) (by unfold pN at hc; omega)]
      have bal := f1.bal
      have ps0 := (psm_ge (s := s) (p := 0) (by omega)).2
      rw [k1, f4, w32e (n := (k : Int) + 1) (by omega) (by omega)]
      refine Ret.t (by omega) (Ret.br (fun hle => Ret.pure ⟨⟨x, s, f1, bal_le (fun p hp => ?_) (by omega)⟩, k2⟩) fun hgt => ?_)
      · have := (psm_ge (s := s) hp).1; omega
      obtain ⟨π, hd⟩ := f1.2.2.2.1
      refine Ret.bind (X_findWays hw ho (s := s) (x := x) (π := π) (fun p hp => (f2 p hp).1) (fun f hf => (f3 f hf).1) hd) ?_
      rintro q9 ⟨q1, q2⟩
      have B8 := BFI_rnds hN hd (BFI_0 (netC T v) hN x s π) 8 (by rw [hK, hW]; omega)
      have C8 := rnds_conv hN hd (dp0 s) (k := 8) (by omega)
      generalize rnds (netC T v) x (dp0 s) 8 = S at q1 B8 C8
      have hw9 : WC T R v q9 := hw.congr fun c j hc => by rw [q2 c (by unfold pN at hc; omega) (by unfold pN at hc; omega)]
      have e333 : ∀ p, p < 8 → q9 333 p = s p := fun p hp => by rw [q2 333 (by omega) (by omega)]; exact (f2 p hp).1
      have e337 : ∀ f : Nat, (f : Int) < T 0 1 → q9 337 f = x f := fun f hf => by rw [q2 337 (by omega) (by omega)]; exact (f3 f hf).1
      have fr9 : ∀ c, c ≠ 333 → c ≠ 337 → c ≠ 338 → c ≠ 339 → q9 c = M c := fun c h3 h7 h8 h9 => by rw [q2 c h8 h9, k2 c h3 h7 h8 h9]
      have htW : ((2 * (netC T v).K * 8 + 1 : Nat) : Int) * (netC T v).W < 100000000 := by rw [hK, hW]; omega
      refine Ret.bind (X_nearestLacks q1 e333) ?_
      rintro r (⟨r1, r2⟩ | ⟨g, g1, g2, g3, g4⟩)
      · rw [r1]
        obtain ⟨p0, p1, p2⟩ := sm_pos (show 0 < sm (fun p => max 0 (s p)) 8 by unfold psm at hgt; omega)
        exact Ret.t rfl (Ret.pure ⟨stuck_cut hN f1 B8 C8 htW p1 (by omega) r2, fr9⟩)
      · obtain ⟨L, u, c1, c2, c3, c4, c5, c6, c7⟩ := chain_ex hN B8 g1 g4
        have pr := chain_price hN B8 C8 g1 c1 c5 c6 c2
        rw [hW] at pr
        have sg := f2 g g1
        have su := f2 u c3
        have hgu : g ≠ u := fun e => by subst e; omega
        rw [g2, atM_nat _ _ _ g1, (q1 g g1).1]
        refine Ret.f (by omega) (Ret.letI ?_)
        refine Ret.bind (X_sendTo hw9 ho q1 e333 (fun p hp => by have := f2 p hp; omega) e337 (fun f hf => ⟨f1.1 f (by rw [hK]; omega), by have := f3 f hf; omega⟩) g1 g3 c1 c2 c3 c4 (fun a ha => (c6 a ha).1)) ?_
        rintro q12 ⟨y1, y2, y3, y4⟩
        have mo := mnL_ok x L (-s g)
        have npos : 0 < sndN x s L g u := by
          have := mo.2.2 (by omega) (fun a ha hb => (c6 a ha).1.2.2 hb)
          unfold sndN; omega
        have nle1 : sndN x s L g u ≤ -s g := by have := mo.1; unfold sndN; omega
        have nle2 : sndN x s L g u ≤ s u := by unfold sndN; omega
        have nle3 : ∀ a, a ∈ L → a.2 = true → sndN x s L g u ≤ x a.1 := fun a ha hb => by have := mo.2.1 a ha hb; unfold sndN; omega
        rw [y1]
        generalize sndN x s L g u = n at *
        have F := FINV_step hN f1 hd B8 C8 g1 g3 c1 c3 c4 c5 c6 c7 (n := n) (by omega) nle3 htW
        have ps := psm_set g1 c3 hgu g3 c4 (n := n) (by omega) nle1 nle2
        have m1 : n * S.1 g ≤ n * 693 := Int.mul_le_mul_of_nonneg_left (by omega) (by omega)
        have m2 : n * (-693) ≤ n * S.1 g := Int.mul_le_mul_of_nonneg_left (by omega) (by omega)
        have nle4 : n ≤ 1200 := by omega
        generalize hP : n * S.1 g = P at *
        rw [w32e (n := P) (by omega) (by omega), w32e (n := t.1 + P) (by omega) (by omega), w32e (n := psm s - n) (by omega) (by omega)]
        refine Ret.letI (Ret.letI (Ret.pure ⟨rfl, fun c h3 h7 h8 h9 => ?_, aug n L x, vset (vset s u (s u - n)) g (s g + n), F, fun p hp => ⟨y2 p hp, ?_⟩, fun f hf => ⟨y3 f hf, ?_⟩, ps.symm, by rw [ps]; omega, by dsimp only; rw [ps]; omega, by dsimp only; rw [ps]; omega⟩))
        · dsimp only
          rw [y4 c h3 h7, fr9 c h3 h7 h8 h9]
        · have := f2 p hp
          unfold vset
          split
          · omega
          · split <;> omega
        · have := (aug_lo (n := n) (by omega) f L x c7).2
          have := f3 f hf
          rw [ps]
          split at * <;> omega
    · rintro t ⟨k1, k2, x, s, f1, f2, f3, f4, f5, f6, f7⟩
      have bal := f1.bal
      have ps0 := (psm_ge (s := s) (p := 0) (by omega)).2
      rw [k1]
      refine Ret.f (by omega) (Ret.pure ⟨⟨x, s, f1, bal_le (fun p hp => ?_) (by omega)⟩, k2⟩)
      have := (psm_ge (s := s) hp).1; omega
  · rintro (e | M') he
    · exact Ret.pure ⟨Or.inr ⟨h0, Or.inl he.1⟩, he.2⟩
    · exact Ret.pure ⟨Or.inr ⟨h0, Or.inr ⟨he.1, rfl⟩⟩, he.2⟩
def sprV (v : Nat → Int) (tg : Nat → Bool) (ta : Nat → Int) (p : Nat) : Int := -misV v tg ta p
theorem sprV_R {T : TW} {R : Nat → RL} {v : Nat → Int} {tg : Nat → Bool} {ta : Nat → Int} (ho : WO T R v) (hok : okG T tg ta) (p : Nat) : -150 ≤ sprV v tg ta p ∧ sprV v tg ta p ≤ 150 := by
  have o := ho.1.1
  unfold sprV misV
  split
  · rename_i hc
    have h1 := hok p hc.1
    have h2 := ho.2.2.2.1 p h1.1
    omega
  · omega
def pCh (k _ : Nat) : Prop := k = 333 ∨ k = 337 ∨ k = 338 ∨ k = 339
theorem X_cheapest {T : TW} {R : Nat → RL} {v : Nat → Int} {tg : Nat → Bool} {ta : Nat → Int} {M : KM} (h : WC T R v M) (ho : WO T R v) (hG : GC_ tg ta M) (hok : okG T tg ta) : Ret (f_X_cheapest M) (fun q => flowA (netC T v) (sprV v tg ta) q.1 ∧ Fp pCh M q.2) := by
  have o := ho.1.1
  unfold f_X_cheapest
  refine Ret.bind (R := fun M1 => (∀ p, p < 8 → M1 333 p = sprV v tg ta p) ∧ ∀ c, c ≠ 333 → M1 c = M c) (Ret.loop 8 (fun i t => t.1 = (i : Int) ∧ (∀ j, j < i → t.2 333 j = sprV v tg ta j) ∧ ∀ c, c ≠ 333 → t.2 c = M c) ⟨rfl, fun j hj => absurd hj (Nat.not_lt_zero _), fun c _ => rfl⟩ ?_ ?_) ?_
  · rintro i t hi ⟨k1, k2, k3⟩
    have hw : WC T R v t.2 := h.congr fun k j hk => by rw [k3 k (by unfold pN at hk; omega)]
    have e09 : t.2 0 9 = M 0 9 := by rw [k3 0 (by omega)]
    have e331 : t.2 331 i = M 331 i := by rw [k3 331 (by omega)]
    rw [k1, e_X_isAlive hw.n hw.alive ho.2, ob_some, e09, isInV_bt hG.1.1 (by have := hG.1.2.1; omega), Int.toNat_natCast, hG.1.2.2, w32e (n := (i : Int) + 1) (by omega) (by omega), atM_nat _ 331 _ hi, e331]
    refine Ret.t (by omega) ?_
    refine Ret.bind (R := fun y => y = if tg i = true ∧ sfA v i = true then 1 else 0) ?_ ?_
    · by_cases ha : sfA v i = true
      · refine Ret.f (by rw [if_pos (show alv v i = true from ha)]; omega) ?_
        by_cases ht : tg i = true
        · exact Ret.f (by rw [if_pos ⟨by omega, ht⟩]; omega) (Ret.pure (if_pos ⟨ht, ha⟩).symm)
        · exact Ret.t (by rw [if_neg (fun q => ht q.2)]) (Ret.pure (if_neg (fun q => ht q.1)).symm)
      · exact Ret.t (by rw [if_neg (show ¬ alv v i = true from ha)]) (Ret.pure (if_neg (fun q => ha q.2)).symm)
    rintro y rfl
    refine Ret.bind (R := fun y => y = sprV v tg ta i) ?_ ?_
    · by_cases hc : tg i = true ∧ sfA v i = true
      · rw [if_pos hc]
        have h1 := hok i hc.1
        have h2 := ho.2.2.2.1 i h1.1
        rw [hw.age ho (by omega) h1.1, Int.toNat_natCast, hG.2 i hi hc.1]
        refine Ret.f (by omega) (Ret.pure ?_)
        rw [w32e (by omega) (by omega)]
        unfold sprV misV
        rw [if_pos hc]; omega
      · rw [if_neg hc]
        refine Ret.t rfl (Ret.pure ?_)
        unfold sprV misV
        rw [if_neg hc]; omega
    rintro y rfl
    rw [putM_nat _ _ _ _ hi]
    refine Ret.letM (Ret.pure ⟨rfl, fun j hj => ?_, fun c hc => by funext z; dsimp only; rw [mupd_ne _ _ hc, k3 c hc]⟩)
    dsimp only
    by_cases hji : j = i
    · subst hji; exact mupd_same _ _ _ _
    · rw [mupd_ne2 _ _ hji]; exact k2 j (by omega)
  · rintro t ⟨k1, k2, k3⟩
    rw [k1]
    exact Ret.f (by omega) (Ret.pure ⟨k2, k3⟩)
  rintro M1 ⟨z1, z2⟩
  have hw : WC T R v M1 := h.congr fun k j hk => by rw [z2 k (by unfold pN at hk; omega)]
  rw [hw.alive]
  refine Ret.bind (X_settle hw ho z1 (fun p _ => sprV_R ho hok p)) ?_
  rintro q ⟨q1, q2⟩
  refine Ret.pure ⟨q1, fun k j hk => ?_⟩
  dsimp only
  rw [q2 k (fun e => hk (Or.inl e)) (fun e => hk (Or.inr (Or.inl e))) (fun e => hk (Or.inr (Or.inr (Or.inl e)))) (fun e => hk (Or.inr (Or.inr (Or.inr e)))), z2 k (fun e => hk (Or.inl e))]
