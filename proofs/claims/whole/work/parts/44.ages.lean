/-! THE PRICES OF AGES: the first side -/
theorem X_nearest {T : TW} {v : Nat → Int} {p : Nat} {r : Nat → Nat} {M : KM} (up : Bool) (hp : p < 8) (hsq : SQX (rdK T v 8) M) (hr : ∀ o, o < 8 → M 336 o = (r o : Int)) (hrp : r p = 0) : f_Roads_nearestWithRoom (p : Int) (if up = true then 1 else 0) M = some (nrO (wF T v up p) r 8).2 := by
  refine Ret.some_of ?_
  unfold f_Roads_nearestWithRoom
  refine Ret.bind (R := fun x => x = (nrO (wF T v up p) r 8).2) (Ret.loop 8 (fun i s => s.2.2 = (i : Int) ∧ (s.1, s.2.1) = nrO (wF T v up p) r i) ⟨rfl, rfl⟩ ?_ ?_) (fun x hx => Ret.pure hx)
  · rintro i s hi ⟨k1, k2⟩
    have e1 : s.1 = (nrO (wF T v up p) r i).1 := by rw [← k2]
    have e2 : s.2.1 = (nrO (wF T v up p) r i).2 := by rw [← k2]
    rw [k1, w32e (n := (i : Int) + 1) (by omega) (by omega), X_roadFrom hp hi, X_roadFrom hi hp, ob_some, ob_some, atM_nat _ _ _ hi, hr i hi]
    refine Ret.t (by omega) ?_
    refine Ret.bind (R := fun x => x = if up = true then M 335 (8 * i + p) else M 335 (8 * p + i)) ?_ ?_
    · cases up
      · exact Ret.t rfl (Ret.pure rfl)
      · exact Ret.f (by decide) (Ret.pure rfl)
    · rintro x rfl
      refine Ret.bind (R := fun q => q = nrO (wF T v up p) r (i + 1)) ?_ ?_
      · rw [nrO_s]
        by_cases h0 : 0 < r i
        · have hip : i ≠ p := fun e => by subst e; omega
          have ew : (if up = true then M 335 (8 * i + p) else M 335 (8 * p + i)) = wF T v up p i := by
            unfold wF
            cases up
            · exact (hsq p i hp hi).1 (Ne.symm hip)
            · exact (hsq i p hi hp).1 hip
          rw [ew, e1, e2]
          refine Ret.f (by omega) (Ret.br (fun hc => Ret.pure ?_) (fun hc => Ret.pure ?_))
          · rw [if_pos ⟨h0, hc⟩]
          · rw [if_neg (fun q => hc q.2)]
        · refine Ret.t (by omega) (Ret.pure ?_)
          rw [if_neg (fun q => h0 q.1)]; exact k2
      · rintro q rfl
        exact Ret.pure ⟨rfl, rfl⟩
  · rintro s ⟨k1, k2⟩
    rw [k1]
    refine Ret.f (by omega) (Ret.pure ?_)
    show s.2.1 = _
    rw [← k2]
def ixA (up : Bool) (a k : Nat) : Nat := if up = true then a + k else a - k
/-- one after another -/
theorem X_priceSteps {T : TW} {R : Nat → RL} {v : Nat → Int} {p a n : Nat} {M : KM} (hT : okT T R) (up : Bool) (hp : p < 8) (hsq : SQX (rdK T v 8) M) (hr : ∀ o, o < 8 → M 336 o = (cF T v up p o : Int)) (hcr : ∀ o, cF T v up p o ≤ 150) (hn : n ≤ 150) (hup : up = true → a + n ≤ 150) (hdn : up = false → n ≤ a ∧ a ≤ 150) (h0 : ∀ k, 1 ≤ k → k ≤ n → M 334 (ixA up a k) = 100000000) :
    Ret (f_Roads_priceSteps (p : Int) (a : Int) (if up = true then ((a + n : Nat) : Int) else ((a - n : Nat) : Int)) (if up = true then 1 else -1) M) (fun q => (∀ k, 1 ≤ k → k ≤ n → q 334 (ixA up a k) = feeV (wF T v up p) (cF T v up p) k) ∧ (∀ j, (∀ k, 1 ≤ k → k ≤ n → j ≠ ixA up a k) → q 334 j = M 334 j) ∧ ∀ c, c ≠ 334 → c ≠ 336 → q c = M c) := by
  have hw := wF_R hT v up p
  have inj : ∀ k l, 1 ≤ k → k ≤ n → 1 ≤ l → l ≤ n → ixA up a k = ixA up a l → k = l := fun k l k1 k2 l1 l2 e => by
    unfold ixA at e
    cases up
    · have := hdn rfl
      simp only [Bool.false_eq_true, if_false] at e; omega
    · simp only [if_true] at e; omega
  have hv1 : w32 (w32 ((if up = true then ((a + n : Nat) : Int) else ((a - n : Nat) : Int)) - (a : Int)) * (if up = true then 1 else -1)) = (n : Int) := by
    cases up
    · have := hdn rfl
      simp only [Bool.false_eq_true, if_false]
      rw [w32e (n := ((a - n : Nat) : Int) - (a : Int)) (by omega) (by omega), w32e (by omega) (by omega)]; omega
    · have := hup rfl
      simp only [if_true]
      rw [w32e (n := ((a + n : Nat) : Int) - (a : Int)) (by omega) (by omega), w32e (by omega) (by omega)]; omega
  unfold f_Roads_priceSteps
  rw [hv1]
  refine Ret.letI ?_
  refine Ret.bind (R := fun e => (∀ k, 1 ≤ k → k ≤ n → Sum.elim id id e 334 (ixA up a k) = feeV (wF T v up p) (cF T v up p) k) ∧ (∀ j, (∀ k, 1 ≤ k → k ≤ n → j ≠ ixA up a k) → Sum.elim id id e 334 j = M 334 j) ∧ ∀ c, c ≠ 334 → c ≠ 336 → Sum.elim id id e c = M c) (Ret.loop n (fun i s => s.2.1 = ((i + 1 : Nat) : Int) ∧ (∃ r, fwS (wF T v up p) (cF T v up p) i = some (s.1, r) ∧ ∀ o, o < 8 → s.2.2 336 o = (r o : Int)) ∧ (∀ k, 1 ≤ k → k ≤ i → s.2.2 334 (ixA up a k) = feeV (wF T v up p) (cF T v up p) k) ∧ (∀ k, i < k → k ≤ n → s.2.2 334 (ixA up a k) = 100000000) ∧ (∀ j, (∀ k, 1 ≤ k → k ≤ n → j ≠ ixA up a k) → s.2.2 334 j = M 334 j) ∧ ∀ c, c ≠ 334 → c ≠ 336 → s.2.2 c = M c) ⟨rfl, ⟨_, rfl, hr⟩, fun k k1 k2 => by omega, fun k k1 k2 => h0 k (by omega) k2, fun j _ => rfl, fun c _ _ => rfl⟩ ?_ ?_) ?_
  · rintro i s hi ⟨k1, ⟨r, k2, k3⟩, k4, k5, k6, k7⟩
    have fr := fw_R hw _ i _ k2
    have hrp : r p = 0 := by
      have := fr.2 p
      have e : cF T v up p p = 0 := if_neg (fun q => q.2 rfl)
      dsimp only at this
      omega
    have hsq' : SQX (rdK T v 8) s.2.2 := by
      unfold SQX; rw [k7 335 (by omega) (by omega)]; exact hsq
    rw [k1]
    refine Ret.t (by omega) ?_
    refine Ret.bind (R := fun x => x = if up = true then (1 : Int) else 0) ?_ ?_
    · cases up
      · exact Ret.t (by decide) (Ret.pure rfl)
      · exact Ret.f (by decide) (Ret.pure rfl)
    · rintro x rfl
      rw [X_nearest up hp hsq' k3 hrp, ob_some]
      cases hb : bestO (wF T v up p) r with
      | none =>
        rw [(bestO_none hb).1]
        refine Ret.t rfl (Ret.pure ⟨fun k q1 q2 => ?_, k6, k7⟩)
        show s.2.2 334 _ = _
        by_cases hki : k ≤ i
        · exact k4 k q1 hki
        · rw [k5 k (by omega) q2]
          have e1 : fwS (wF T v up p) (cF T v up p) (i + 1) = none := by
            rw [fwS_s, k2]
            show stepR _ _ = none
            unfold stepR
            dsimp only
            rw [hb]
          have e2 := fwS_none e1 (k - (i + 1))
          rw [show i + 1 + (k - (i + 1)) = k by omega] at e2
          exact (feeV_none e2).symm
      | some o =>
        obtain ⟨g, ge⟩ := bestO_some hb
        obtain ⟨g1, g2, g3, g4⟩ := g
        have hop : o ≠ p := fun e => by subst e; omega
        have e1 : fwS (wF T v up p) (cF T v up p) (i + 1) = some (s.1 + wF T v up p o, decR r o 1) := by
          rw [fwS_s, k2]
          show stepR _ _ = _
          unfold stepR
          dsimp only
          rw [hb]
        have fr2 := fw_R hw _ (i + 1) _ e1
        have rl := fr.2 o
        have rl2 := hcr o
        dsimp only at rl fr2
        rw [ge]
        refine Ret.f (by omega) ?_
        rw [atM_nat _ _ _ g1, k3 o g1, w32e (n := (r o : Int) - 1) (by omega) (by omega), putM_nat _ _ _ _ g1]
        refine Ret.letM ?_
        have q336 : ∀ q, q < 8 → mupd s.2.2 336 o ((r o : Int) - 1) 336 q = (decR r o 1 q : Int) := fun q hq => by
          unfold decR
          by_cases hqo : q = o
          · subst hqo
            rw [mupd_same, if_pos rfl]; omega
          · rw [mupd_ne2 _ _ hqo, if_neg hqo]; exact k3 q hq
        have q335 : mupd s.2.2 336 o ((r o : Int) - 1) 335 = s.2.2 335 := by funext z; rw [mupd_ne _ _ (by omega)]
        have q334 : mupd s.2.2 336 o ((r o : Int) - 1) 334 = s.2.2 334 := by funext z; rw [mupd_ne _ _ (by omega)]
        have qc : ∀ c, c ≠ 334 → c ≠ 336 → mupd s.2.2 336 o ((r o : Int) - 1) c = M c := fun c c1 c2 => by funext z; rw [mupd_ne _ _ c2, k7 c c1 c2]
        generalize mupd s.2.2 336 o ((r o : Int) - 1) = M5 at q336 q335 q334 qc ⊢
        have ew : (if up = true then M5 335 (8 * o + p) else M5 335 (8 * p + o)) = wF T v up p o := by
          rw [q335]
          unfold wF
          cases up
          · exact (hsq' p o hp g1).1 (Ne.symm hop)
          · exact (hsq' o p g1 hp).1 hop
        rw [X_roadFrom hp g1, X_roadFrom g1 hp, ob_some, ob_some]
        refine Ret.bind (R := fun x => x = wF T v up p o) ?_ ?_
        · cases up
          · exact Ret.t (by decide) (Ret.pure ew)
          · exact Ret.f (by decide) (Ret.pure ew)
        rintro x rfl
        have w0 := hw o
        have eix : w32 ((a : Int) + w32 (((i + 1 : Nat) : Int) * (if up = true then 1 else -1))) = (ixA up a (i + 1) : Int) ∧ ixA up a (i + 1) < 151 := by
          unfold ixA
          cases up
          · have := hdn rfl
            simp only [Bool.false_eq_true, if_false]
            rw [w32e (n := ((i + 1 : Nat) : Int) * -1) (by omega) (by omega), w32e (by omega) (by omega)]; omega
          · have := hup rfl
            simp only [if_true]
            rw [w32e (n := ((i + 1 : Nat) : Int) * 1) (by omega) (by omega), w32e (by omega) (by omega)]; omega
        rw [w32e (n := s.1 + wF T v up p o) (by omega) (by omega), eix.1, w32e (n := ((i + 1 : Nat) : Int) + 1) (by omega) (by omega)]
        refine Ret.letI ?_
        rw [putM_nat _ _ _ _ eix.2]
        refine (Ret.letM (Ret.pure ⟨by dsimp only; omega, ⟨_, e1, fun q hq => ?_⟩, fun k l1 l2 => ?_, fun k l1 l2 => ?_, fun j hj => ?_, fun c c1 c2 => ?_⟩))
        · dsimp only
          rw [mupd_ne _ _ (by omega)]; exact q336 q hq
        · dsimp only
          by_cases hki : k = i + 1
          · subst hki
            rw [mupd_same, feeV_some e1]
          · rw [mupd_ne2 _ _ (fun e => hki (inj _ _ l1 (by omega) (by omega) (by omega) e)), q334]
            exact k4 k l1 (by omega)
        · dsimp only
          rw [mupd_ne2 _ _ (fun e => by have := inj _ _ (by omega) l2 (by omega) (by omega) e; omega), q334]
          exact k5 k (by omega) l2
        · dsimp only
          rw [mupd_ne2 _ _ (hj (i + 1) (by omega) (by omega)), q334]
          exact k6 j hj
        · dsimp only
          funext z; rw [mupd_ne _ _ c1, qc c c1 c2]
  · rintro s ⟨k1, k2, k4, k5, k6, k7⟩
    rw [k1]
    exact Ret.f (by omega) (Ret.pure ⟨k4, k6, k7⟩)
  · rintro (e | e) he
    · exact Ret.pure he
    · exact Ret.pure he
