/-! CHEAPEST: the second side; both alike -/
def pChM (k _ : Nat) : Prop := k = 413 ∨ k = 415 ∨ k = 416 ∨ k = 417 ∨ k = 418
/-- who lacks and is reached best -/
def bstI (N : NW) (S : DP) (s : Nat → Int) (i : Nat) (y z : Int) : Prop := (z = 0 ∧ y = -1 ∧ ∀ g, g < i → 0 ≤ s g) ∨ (z = 1 ∧ (∃ g, g < i ∧ s g < 0) ∧ ((y = -1 ∧ ∀ g, g < i → s g < 0 → 100000000 ≤ S.1 g) ∨ ∃ g : Nat, g < i ∧ y = (g : Int) ∧ s g < 0 ∧ S.1 g < 100000000))
theorem bstI_s {N : NW} {S : DP} {s : Nat → Int} {i : Nat} {y z : Int} (h : bstI N S s i y z) : (0 ≤ s i → bstI N S s (i + 1) y z) ∧ (s i < 0 → 100000000 ≤ S.1 i → bstI N S s (i + 1) y 1) ∧ (s i < 0 → S.1 i < 100000000 → bstI N S s (i + 1) i 1) ∧ (s i < 0 → 0 ≤ y → bstI N S s (i + 1) y 1) := by
  unfold bstI at *
  refine ⟨fun h0 => ?_, fun h0 h1 => ?_, fun h0 h1 => ?_, fun h0 h1 => ?_⟩
  · rcases h with ⟨a1, a2, a3⟩ | ⟨a1, ⟨g, a2, a3⟩, a4⟩
    · refine Or.inl ⟨a1, a2, fun q hq => ?_⟩
      by_cases hqi : q = i
      · rw [hqi]; exact h0
      · exact a3 q (by omega)
    · refine Or.inr ⟨a1, ⟨g, by omega, a3⟩, ?_⟩
      rcases a4 with ⟨b1, b2⟩ | ⟨q, b1, b2⟩
      · refine Or.inl ⟨b1, fun q hq hsq => ?_⟩
        by_cases hqi : q = i
        · rw [hqi] at hsq; omega
        · exact b2 q (by omega) hsq
      · exact Or.inr ⟨q, by omega, b2⟩
  · refine Or.inr ⟨rfl, ⟨i, by omega, h0⟩, ?_⟩
    rcases h with ⟨a1, a2, a3⟩ | ⟨a1, a2, a4⟩
    · refine Or.inl ⟨a2, fun q hq hsq => ?_⟩
      by_cases hqi : q = i
      · rw [hqi]; exact h1
      · have := a3 q (by omega); omega
    · rcases a4 with ⟨b1, b2⟩ | ⟨q, b1, b2⟩
      · refine Or.inl ⟨b1, fun q hq hsq => ?_⟩
        by_cases hqi : q = i
        · rw [hqi]; exact h1
        · exact b2 q (by omega) hsq
      · exact Or.inr ⟨q, by omega, b2⟩
  · exact Or.inr ⟨rfl, ⟨i, by omega, h0⟩, Or.inr ⟨i, by omega, rfl, h0, h1⟩⟩
  · refine Or.inr ⟨rfl, ⟨i, by omega, h0⟩, ?_⟩
    rcases h with ⟨a1, a2, a3⟩ | ⟨a1, a2, a4⟩
    · omega
    · rcases a4 with ⟨b1, b2⟩ | ⟨q, b1, b2⟩
      · omega
      · exact Or.inr ⟨q, by omega, b2⟩
theorem M_cheapest {b : Nat} {T : TW} {R : Nat → RL} {v : Nat → Int} {tg : Nat → Bool} {ta : Nat → Int} {M : KM} (h : WM b T R v M) (ho : WO T R v) (hG : GM_ tg ta M) (hok : okG T tg ta) : Ret (f_M_cheapest M) (fun q => flowA (netR T v (sprV v tg ta)) (sprV v tg ta) q.1 ∧ Fp pChM M q.2) := by
  have o := ho.1.1
  have cw : ∀ M', Fp pChM M M' → WM b T R v M' ∧ GM_ tg ta M' := fun M' hM => ⟨h.congr fun k j hk => hM k j (by unfold pR at hk; unfold pChM; omega), fun p hp => by rw [hM 414 p (by unfold pChM; omega)]; exact hG p hp⟩
  unfold f_M_cheapest
  refine Ret.bind (M_layRoads h ho) ?_
  rintro M0 ⟨m1, m2⟩
  have f0 : Fp pChM M M0 := fun k j hk => by rw [m2 k (fun e => hk (Or.inl e))]
  have smR : ∀ i : Nat, i ≤ 8 → -(150 * (i : Int)) ≤ sm (sprV v tg ta) i ∧ sm (sprV v tg ta) i ≤ 150 * (i : Int) ∧ 0 ≤ sm (fun p => max 0 (sprV v tg ta p)) i ∧ sm (fun p => max 0 (sprV v tg ta p)) i ≤ 150 * (i : Int) := by
    intro i
    induction i with
    | zero => intro _; simp [sm, itF]
    | succ i ih =>
      intro hi
      have := ih (by omega)
      have := sprV_R ho hok i
      rw [sm_s, sm_s]
      omega
  refine Ret.bind (R := fun e => e.1 = sm (sprV v tg ta) 8 ∧ (∀ p, p < 8 → e.2 415 p = sprV v tg ta p) ∧ SQ 413 (rdK T v 8) e.2 ∧ Fp pChM M e.2) (Ret.loop 8 (fun i t => t.2.1 = (i : Int) ∧ t.1 = sm (sprV v tg ta) i ∧ (∀ p, p < i → t.2.2 415 p = sprV v tg ta p) ∧ SQ 413 (rdK T v 8) t.2.2 ∧ Fp pChM M t.2.2) ⟨rfl, rfl, fun j hj => absurd hj (Nat.not_lt_zero _), m1, f0⟩ ?_ ?_) ?_
  · rintro i t hi ⟨k1, k2, k3, k4, k5⟩
    have hcw := cw _ k5
    have sR := sprV_R ho hok i
    have aR := smR i (by omega)
    have spm : sprV v tg ta i = -misV v tg ta i := rfl
    rw [k1, k2, M_miss8 hcw.1 ho hcw.2 hok hi, ob_some, Int.toNat_natCast, ← spm, w32e (n := sprV v tg ta i) (by omega) (by omega), letM_e, letI_e, mupd_same, w32e (n := (i : Int) + 1) (by omega) (by omega), w32e (n := sm (sprV v tg ta) i + sprV v tg ta i) (by omega) (by omega)]
    refine Ret.t (by omega) (Ret.t (by omega) (Ret.t (by omega) (Ret.pure ⟨rfl, rfl, fun p hp => ?_, fun p q hp hq => ?_, k5.upd (Or.inr (Or.inl rfl))⟩)))
    · dsimp only
      by_cases hpi : p = i
      · subst hpi; exact mupd_same _ _ _ _
      · rw [mupd_ne2 _ _ hpi]; exact k3 p (by omega)
    · dsimp only
      rw [mupd_ne _ _ (by omega)]; exact k4 p q hp hq
  · rintro t ⟨k1, k2, k3, k4, k5⟩
    rw [k1]
    exact Ret.f (by omega) (Ret.pure ⟨k2, k3, k4, k5⟩)
  rintro e6 ⟨x1, x2, x3, x4⟩
  rw [x1]
  refine Ret.br (fun h0 => ?_) (fun h0 => Ret.pure ⟨Or.inl ⟨h0, rfl⟩, x4⟩)
  refine Ret.bind (R := fun M1 => (∀ f, f < 64 → M1 416 f = 0) ∧ (∀ p, p < 8 → M1 415 p = sprV v tg ta p) ∧ SQ 413 (rdK T v 8) M1 ∧ Fp pChM M M1) (Ret.loop 64 (fun i t => t.1 = (i : Int) ∧ (∀ j, j < i → t.2 416 j = 0) ∧ (∀ p, p < 8 → t.2 415 p = sprV v tg ta p) ∧ SQ 413 (rdK T v 8) t.2 ∧ Fp pChM M t.2) ⟨rfl, fun j hj => absurd hj (Nat.not_lt_zero _), x2, x3, x4⟩ ?_ ?_) ?_
  · rintro i t hi ⟨k1, k2, k3, k4, k5⟩
    rw [k1, w32e (n := (i : Int) + 1) (by omega) (by omega), Int.toNat_natCast]
    refine Ret.t (by omega) (Ret.t (by omega) (Ret.letM (Ret.pure ⟨rfl, fun j hj => ?_, fun p hp => ?_, fun p q hp hq => ?_, k5.upd (Or.inr (Or.inr (Or.inl rfl)))⟩)))
    · dsimp only
      by_cases hji : j = i
      · subst hji; exact mupd_same _ _ _ _
      · rw [mupd_ne2 _ _ hji]; exact k2 j (by omega)
    · dsimp only
      rw [mupd_ne _ _ (by omega)]; exact k3 p hp
    · dsimp only
      rw [mupd_ne _ _ (by omega)]; exact k4 p q hp hq
  · rintro t ⟨k1, k2, k3, k4, k5⟩
    rw [k1]
    exact Ret.f (by omega) (Ret.pure ⟨k2, k3, k4, k5⟩)
  rintro M1 ⟨z1, z2, z3, z4⟩
  have hN := netR_wf ho.1 v (sprV v tg ta)
  have hK : (netR T v (sprV v tg ta)).K = 64 := rfl
  have hW : (netR T v (sprV v tg ta)).W = 25344 := rfl
  have mR : 0 ≤ psm (sprV v tg ta) ∧ psm (sprV v tg ta) ≤ 1200 := by have := smR 8 (by omega); unfold psm; omega
  have lay : ∀ {M'' : KM} {s x π : Nat → Int}, Fp pChM M M'' → SQ 413 (rdK T v 8) M'' → (∀ p, p < 8 → M'' 415 p = s p) → (∀ e, e < 64 → M'' 416 e = x e) → _ → _ → _ := fun {M'' s x π} q1 q2 q3 q4 q5 q6 => M_layCheap (s := s) (x := x) (π := π) (cw M'' q1).1 ho (cw M'' q1).2 hok q2 q3 q4 q5 q6
  have car : ∀ {M'' : KM} {s x : Nat → Int} {S : DP} {g u : Nat} {L : List ARC}, Fp pChM M M'' → DPM (netR T v (sprV v tg ta)) S M'' → (∀ p, p < 8 → M'' 415 p = s p) → (∀ p, p < 8 → -2000 ≤ s p ∧ s p ≤ 2000) → (∀ e, e < 64 → M'' 416 e = x e) → (∀ e, e < 64 → 0 ≤ x e ∧ x e ≤ 2000) → g < 8 → s g < 0 → _ → _ → _ → _ → _ → _ → _ := fun {M'' s x S g u L} q1 q2 q3 q4 q5 q6 q7 q8 q9 q10 q11 q12 q13 q14 => M_carry (s := s) (x := x) (S := S) (g := g) (u := u) (L := L) (cw M'' q1).1 ho (cw M'' q1).2 hok q2 q3 q4 q5 q6 q7 q8 q9 q10 q11 q12 q13 q14
  have sR := fun p => sprV_R ho hok p
  generalize hNN : netR T v (sprV v tg ta) = N at *
  generalize hss : sprV v tg ta = s0 at *
  refine Ret.bind (R := fun e : (Int × KM) ⊕ KM => Sum.elim (fun e : Int × KM => (∃ x s, FINV N s0 x s e.1 ∧ ∀ p, p < 8 → s p = 0) ∧ Fp pChM M e.2) (fun M' : KM => cutN N s0 ∧ Fp pChM M M') e) ?_ ?_
  · refine Ret.meas (fun n t => Fp pChM M t.2 ∧ SQ 413 (rdK T v 8) t.2 ∧ ∃ x s, FINV N s0 x s t.1 ∧ (∀ p, p < 8 → t.2 415 p = s p ∧ -1200 ≤ s p ∧ s p ≤ 1200) ∧ (∀ e, e < 64 → t.2 416 e = x e ∧ x e ≤ psm s0 - psm s) ∧ psm s = (n : Int) ∧ psm s ≤ psm s0 ∧ -(178000 * (psm s0 - psm s)) ≤ t.1 ∧ t.1 ≤ 178000 * (psm s0 - psm s)) ?_ (psm s0).toNat _ ⟨z4, z3, fun _ => 0, s0, FINV_0 hN s0, fun p hp => ⟨z2 p hp, by have := sR p; omega⟩, fun e he => ⟨z1 e he, by dsimp only; omega⟩, by omega, by omega, by dsimp only; omega, by dsimp only; omega⟩
    rintro n t ⟨k1, k2, x, s, f1, f2, f3, f4, f5, f6, f7⟩
    have bal := f1.bal
    obtain ⟨π, hd⟩ := f1.2.2.2.1
    refine Ret.bind (lay (π := π) k1 k2 (fun p hp => (f2 p hp).1) (fun e he => (f3 e he).1) (fun e he hoe => f1.2.1 e (by rw [hK]; exact he) hoe) hd) ?_
    rintro q11 ⟨q1, q2⟩
    have B8 := BFI_rnds hN hd (BFI_0 N hN x s π) 16 (by rw [hK, hW]; omega)
    have C8 := rnds_conv hN hd (dp0 s) (k := 16) (by omega)
    generalize rnds N x (dp0 s) 16 = S at q1 B8 C8
    have fr11 : Fp pChM M q11 := fun k j hk => by
      rw [q2 k (fun e => hk (Or.inr (Or.inr (Or.inr (Or.inl e))))) (fun e => hk (Or.inr (Or.inr (Or.inr (Or.inr e)))))]
      exact k1 k j hk
    have e415 : ∀ p, p < 8 → q11 415 p = s p := fun p hp => by rw [q2 415 (by omega) (by omega)]; exact (f2 p hp).1
    have e416 : ∀ e, e < 64 → q11 416 e = x e := fun e he => by rw [q2 416 (by omega) (by omega)]; exact (f3 e he).1
    have e413 : SQ 413 (rdK T v 8) q11 := fun p q hp hq => by rw [q2 413 (by omega) (by omega)]; exact k2 p q hp hq
    have htW : ((2 * N.K * 16 + 1 : Nat) : Int) * N.W < 100000000 := by rw [hK, hW]; omega
    refine Ret.bind (R := fun e => bstI N S s 8 e.1 e.2) (Ret.loop 8 (fun i t => t.2.2 = (i : Int) ∧ bstI N S s i t.1 t.2.1) ⟨rfl, Or.inl ⟨rfl, rfl, fun j hj => absurd hj (Nat.not_lt_zero _)⟩⟩ ?_ ?_) ?_
    · rintro i t hi ⟨j1, j2⟩
      obtain ⟨b1, b2, b3, b4⟩ := bstI_s j2
      rw [j1, w32e (n := (i : Int) + 1) (by omega) (by omega), Int.toNat_natCast, e415 i hi, (q1 i hi).1]
      refine Ret.t (by omega) (Ret.t (by omega) ?_)
      refine Ret.bind (R := fun e => bstI N S s (i + 1) e.1 e.2) (Ret.br (fun h1 => Ret.t (by omega) (Ret.br (fun h2 => Ret.br (fun h3 => Ret.pure (b3 h1 h2)) fun h3 => ?_) fun h2 => Ret.pure (b2 h1 (by omega)))) fun h1 => Ret.pure (b1 (by omega))) (fun e he => Ret.pure ⟨rfl, he⟩)
      have t8 : t.1 < 8 := by
        unfold bstI at j2
        rcases j2 with ⟨a1, a2, a3⟩ | ⟨a1, a2, ⟨a3, _⟩ | ⟨g, a3, a4, _⟩⟩ <;> omega
      exact Ret.t (by omega) (Ret.t (by omega) (Ret.br (fun _ => Ret.pure (b3 h1 h2)) fun _ => Ret.pure (b4 h1 (by omega))))
    · rintro t ⟨j1, j2⟩
      rw [j1]
      exact Ret.f (by omega) (Ret.pure j2)
    rintro e14 hb
    rcases hb with ⟨a1, a2, a3⟩ | ⟨a1, ⟨g0, a2, a3⟩, a4⟩
    · exact Ret.t a1 (Ret.pure ⟨⟨x, s, f1, bal_ge a3 (by omega)⟩, fr11⟩)
    · refine Ret.f (by omega) ?_
      rcases a4 with ⟨b1, b2⟩ | ⟨g, g1, g2, g3, g4⟩
      · have hex : ∃ p0, p0 < 8 ∧ 0 < s p0 := Classical.byContradiction fun hno => by
          have := bal_le (s := s) (fun p hp => Classical.byContradiction fun hp2 => hno ⟨p, hp, by omega⟩) (by omega) g0 a2
          omega
        obtain ⟨p0, p1, p2⟩ := hex
        exact Ret.t (by omega) (Ret.pure ⟨stuck_cut hN f1 B8 C8 htW p1 p2 b2, fr11⟩)
      · obtain ⟨L, u, c1, c2, c3, c4, c5, c6, c7⟩ := chain_ex hN B8 g1 g4
        have pr := chain_price hN B8 C8 g1 c1 c5 c6 c2
        rw [hW] at pr
        have sg := f2 g g1
        have su := f2 u c3
        have hgu : g ≠ u := fun e => by subst e; omega
        have ps0 := (psm_ge (s := s) (p := 0) (by omega)).2
        rw [g2, Int.toNat_natCast, (q1 g g1).1]
        refine Ret.f (by omega) (Ret.t (by omega) (Ret.letI ?_))
        refine Ret.bind (car (x := x) fr11 q1 e415 (fun p hp => by have := f2 p hp; omega) e416 (fun e he => ⟨f1.1 e (by rw [hK]; exact he), by have := f3 e he; omega⟩) g1 g3 c1 c2 c3 c4 (fun a ha => (c6 a ha).1) (fun w a hw ha => (B8.choose_spec.2.1 w a hw ha).2.1)) ?_
        rintro q16 ⟨y1, y2, y3, y4⟩
        have mo := mnL_ok x L (-s g)
        have npos : 0 < sndN x s L g u := by
          have := mo.2.2 (by omega) (fun a ha hb => (c6 a ha).1.2.2 hb)
          unfold sndN; omega
        have nle1 : sndN x s L g u ≤ -s g := by have := mo.1; unfold sndN; omega
        have nle2 : sndN x s L g u ≤ s u := by unfold sndN; omega
        have nle3 : ∀ a, a ∈ L → a.2 = true → sndN x s L g u ≤ x a.1 := fun a ha hb => by have := mo.2.1 a ha hb; unfold sndN; omega
        rw [y1]
        generalize sndN x s L g u = m at *
        have F := FINV_step hN f1 hd B8 C8 g1 g3 c1 c3 c4 c5 c6 c7 (n := m) (by omega) nle3 htW
        have ps := psm_set g1 c3 hgu g3 c4 (n := m) (by omega) nle1 nle2
        have ps1 := (psm_ge (s := vset (vset s u (s u - m)) g (s g + m)) (p := 0) (by omega)).2
        have t1 : m * S.1 g ≤ m * 177408 := Int.mul_le_mul_of_nonneg_left (by omega) (by omega)
        have t2 : m * (-177408) ≤ m * S.1 g := Int.mul_le_mul_of_nonneg_left (by omega) (by omega)
        rw [Int.mul_comm (S.1 g) m]
        generalize hP : m * S.1 g = P at *
        rw [w32e (n := P) (by omega) (by omega), w32e (n := t.1 + P) (by omega) (by omega)]
        refine Ret.letI (Ret.pure ⟨(psm s - m).toNat, by omega, fun k j hk => ?_, fun p q hp hq => ?_, aug m L x, vset (vset s u (s u - m)) g (s g + m), F, fun p hp => ⟨y2 p hp, ?_⟩, fun e he => ⟨y3 e he, ?_⟩, by rw [ps]; omega, by rw [ps]; omega, by dsimp only; rw [ps]; omega, by dsimp only; rw [ps]; omega⟩)
        · dsimp only
          rw [y4 k (fun e => hk (Or.inr (Or.inl e))) (fun e => hk (Or.inr (Or.inr (Or.inl e))))]
          exact fr11 k j hk
        · dsimp only
          rw [y4 413 (by omega) (by omega)]; exact e413 p q hp hq
        · have := f2 p hp
          unfold vset
          split
          · omega
          · split <;> omega
        · have := (aug_lo (n := m) (by omega) e L x c7).2
          have := f3 e he
          rw [ps]
          split at * <;> omega
  · rintro (e | M') he
    · exact Ret.pure ⟨Or.inr ⟨h0, Or.inl he.1⟩, he.2⟩
    · exact Ret.pure ⟨Or.inr ⟨h0, Or.inr ⟨he.1, rfl⟩⟩, he.2⟩
theorem flow_same {T : TW} {R : Nat → RL} (hT : okT T R) {v s0 : Nat → Int} {y z : Int} (h1 : flowA (netC T v) s0 y) (h2 : flowA (netR T v s0) s0 z) : y = z := by
  rcases h1 with ⟨a1, a2⟩ | ⟨a1, a2⟩
  · rcases h2 with ⟨b1, b2⟩ | ⟨b1, b2⟩
    · omega
    · exact absurd b1 a1
  · rcases h2 with ⟨b1, b2⟩ | ⟨b1, b2⟩
    · exact absurd a1 b1
    · rcases a2 with ⟨x, s, f1, f2⟩ | ⟨c1, c2⟩
      · rcases b2 with ⟨x', s', g1, g2⟩ | ⟨d1, d2⟩
        · exact same_cost hT f1 f2 g1 g2
        · exact absurd (cut_RC hT d1) (no_cut f1 f2)
      · rcases b2 with ⟨x', s', g1, g2⟩ | ⟨d1, d2⟩
        · exact absurd (cut_CR hT c1) (no_cut g1 g2)
        · omega
