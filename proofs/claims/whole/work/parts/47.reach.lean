/-! REACH -/
theorem M_fare {T : TW} {v : Nat → Int} {p i : Nat} {M : KM} (hp : p < 8) (hi : i < 8) (hsq : SQ 413 (rdK T v 8) M) (m : Int) : f_M_fare (p : Int) (i : Int) m M = some (wF T v (decide (0 < m)) p i) := by
  have w1 := w8 hp hi
  have w2 := w8 hi hp
  refine Ret.some_of ?_
  unfold f_M_fare wF
  rw [w1.1, w2.1, Int.toNat_natCast, Int.toNat_natCast, hsq p i hp hi, hsq i p hi hp]
  refine Ret.bind (R := fun x => x = if decide (0 < m) = true then rdK T v 8 i p else rdK T v 8 p i) (Ret.br (fun hc => Ret.t (by omega) (Ret.pure ?_)) (fun hc => Ret.t (by omega) (Ret.pure ?_))) (fun x hx => Ret.pure hx)
  · rw [decide_eq_false (by omega), if_neg (by decide)]
  · rw [decide_eq_true (by omega), if_pos rfl]
def usR (us : Nat → Bool) (o : Nat) : Nat := if us o = true then 0 else 1
def unN (us : Nat → Bool) : Nat := cntN (fun o => !us o) 8
/-- what stands in the second side's search of the cheapest chunks -/
def ICo (T : TW) (v : Nat → Int) (up : Bool) (p N : Nat) (M0 : KM) (k : Nat) (s : Int × Int × KM) : Prop := ∃ (i : Nat) (r : Nat → Nat) (us : Nat → Bool), i ≤ N ∧ s.1 = ((N - i : Nat) : Int) ∧ fwS (wF T v up p) (cF T v up p) i = some (s.2.1, r) ∧ (∀ o, o < 8 → s.2.2 419 o = if us o = true then 1 else 0) ∧ (∀ o, o < 8 → us o = false → sfA v o = true ∧ o ≠ p) ∧ k = unN us ∧ (∀ c, c ≠ 419 → s.2.2 c = M0 c) ∧ (i = N ∨ ∀ o, o < 8 → r o = if us o = true then 0 else cF T v up p o)
theorem unN_lt {us : Nat → Bool} {o : Nat} (ho : o < 8) (h : us o = false) : unN (fun q => us q || decide (q = o)) < unN us := by
  have key : cntN (fun q => !(us q || decide (q = o))) 8 + 1 ≤ cntN (fun q => !us q) 8 := (cntN_mono (f := fun q => !(us q || decide (q = o))) (g := fun q => !us q) (fun q hq => by
    cases hu : us q with
    | false => rfl
    | true => rw [hu] at hq; cases hq) 8).2 o ho (by simp) (by rw [h]; rfl)
  exact key
theorem M_costOf {b : Nat} {T : TW} {R : Nat → RL} {v : Nat → Int} {M : KM} (h : WM b T R v M) (ho : WO T R v) {p : Nat} (hp : (p : Int) < T 0 0) (hsq : SQ 413 (rdK T v 8) M) {m : Int} (hm : -150 ≤ m ∧ m ≤ 150) :
    Ret (f_M_costOf (p : Int) m M) (fun q => q.1 = feeV (wF T v (decide (0 < m)) p) (cF T v (decide (0 < m)) p) (if 0 < m then m.toNat else (-m).toNat) ∧ ∀ c, c ≠ 419 → q.2 c = M c) := by
  have o := ho.1.1
  have hw := wF_R ho.1 v (decide (0 < m)) p
  generalize hN : (if 0 < m then m.toNat else (-m).toNat) = N
  have hN150 : N ≤ 150 := by rw [← hN]; split <;> omega
  unfold f_M_costOf
  refine Ret.bind (R := fun M1 => (∀ q, q < 8 → M1 419 q = if (!(sfA v q && decide (q ≠ p))) = true then 1 else 0) ∧ ∀ c, c ≠ 419 → M1 c = M c) (Ret.loop 8 (fun i s => s.1 = (i : Int) ∧ (∀ q, q < i → s.2 419 q = if (!(sfA v q && decide (q ≠ p))) = true then 1 else 0) ∧ ∀ c, c ≠ 419 → s.2 c = M c) ⟨rfl, fun j hj => absurd hj (Nat.not_lt_zero _), fun c _ => rfl⟩ ?_ ?_) ?_
  · rintro i s hi ⟨k1, k2, k3⟩
    have hws : WM b T R v s.2 := h.congr fun k j hk => by rw [k3 k (by unfold pR at hk; omega)]
    rw [k1, M_isPerson hws ho, ob_some, e_M_isAlive (hws.all (by omega)) ho.2 (by omega) (by omega), ob_some, w32e (n := (i : Int) + 1) (by omega) (by omega)]
    refine Ret.t (by omega) ?_
    refine Ret.bind (R := fun x => x = if (!(sfA v i && decide (i ≠ p))) = true then 1 else 0) ?_ ?_
    · by_cases hip : i = p
      · refine Ret.t (by omega) (Ret.pure ?_)
        simp [hip]
      · refine Ret.f (by omega) ?_
        by_cases ha : sfA v i = true
        · have := sfA_lt ho.2 ha
          refine Ret.f (by rw [if_pos ⟨Int.natCast_nonneg _, this⟩]; omega) (Ret.f (by rw [if_pos (show alv v i = true from ha)]; omega) (Ret.pure ?_))
          simp [ha, hip]
        · have done : Ret (some (1 : Int)) (fun x => x = if (!(sfA v i && decide (i ≠ p))) = true then 1 else 0) := Ret.pure (by simp [ha])
          exact Ret.br (fun _ => done) (fun _ => Ret.t (by rw [if_neg (show ¬ alv v i = true from ha)]) done)
    · rintro x rfl
      refine Ret.t ⟨by omega, by split <;> omega⟩ (Ret.letM (Ret.pure ⟨rfl, fun q hq => ?_, fun c hc => ?_⟩))
      · dsimp only
        rw [Int.toNat_natCast]
        by_cases hqi : q = i
        · subst hqi; exact mupd_same _ _ _ _
        · rw [mupd_ne2 _ _ hqi]; exact k2 q (by omega)
      · dsimp only
        funext z; rw [mupd_ne _ _ hc, k3 c hc]
  · rintro s ⟨k1, k2, k3⟩
    rw [k1]
    exact Ret.f (by omega) (Ret.pure ⟨k2, k3⟩)
  rintro M1 ⟨z1, z2⟩
  refine Ret.bind (R := fun x => x = (N : Int)) (Ret.br (fun hc => Ret.pure ?_) (fun hc => Ret.pure ?_)) ?_
  · rw [w32e (by omega) (by omega), ← hN, if_neg (by omega)]; omega
  · rw [← hN]; split <;> omega
  rintro x rfl
  refine Ret.bind (R := fun e => Sum.elim (fun a => a.1 = feeV (wF T v (decide (0 < m)) p) (cF T v (decide (0 < m)) p) N ∧ ∀ c, c ≠ 419 → a.2 c = M c) (fun a => feeV (wF T v (decide (0 < m)) p) (cF T v (decide (0 < m)) p) N = 100000000 ∧ ∀ c, c ≠ 419 → a c = M c) e) (Ret.meas (ICo T v (decide (0 < m)) p N M) ?_ _ _ ⟨0, cF T v (decide (0 < m)) p, fun q => !(sfA v q && decide (q ≠ p)), Nat.zero_le _, rfl, rfl, z1, fun q hq hu => ?_, rfl, z2, Or.inr fun q hq => ?_⟩) ?_
  · rintro k s ⟨i, r, us, i1, i2, i3, i4, i5, i6, i7, i8⟩
    have hws : WM b T R v s.2.2 := h.congr fun k j hk => by rw [i7 k (by unfold pR at hk; omega)]
    have hsqs : SQ 413 (rdK T v 8) s.2.2 := by unfold SQ; rw [i7 413 (by omega)]; exact hsq
    have fr := fw_R hw _ i _ i3
    refine Ret.br (fun hc => Ret.pure ?_) (fun hc => ?_)
    · have : i = N := by omega
      subst this
      exact ⟨(feeV_some i3).symm, i7⟩
    have hiN : ¬ i = N := by omega
    have hr : ∀ o, o < 8 → r o = if us o = true then 0 else cF T v (decide (0 < m)) p o := by
      rcases i8 with i8 | i8
      · exact absurd i8 hiN
      · exact i8
    refine Ret.bind (R := fun x => x = (nrO (wF T v (decide (0 < m)) p) (usR us) 8).2) (Ret.loop 8 (fun j t => t.2 = (j : Int) ∧ t.1 = (nrO (wF T v (decide (0 < m)) p) (usR us) j).2) ⟨rfl, rfl⟩ ?_ ?_) ?_
    · rintro j t hj ⟨t1, t2⟩
      rw [t1, w32e (n := (j : Int) + 1) (by omega) (by omega), Int.toNat_natCast, i4 j hj, M_fare (by omega : p < 8) hj hsqs m, ob_some]
      refine Ret.t (by omega) (Ret.t (by omega) ?_)
      refine Ret.bind (R := fun x => x = (nrO (wF T v (decide (0 < m)) p) (usR us) (j + 1)).2) ?_ (fun x hx => Ret.pure ⟨rfl, hx⟩)
      rw [nrO_s]
      by_cases hu : us j = true
      · have e0 : usR us j = 0 := if_pos hu
        refine Ret.f (by rw [if_pos hu]; omega) (Ret.pure ?_)
        rw [if_neg (by omega), t2]
      · have e1 : usR us j = 1 := if_neg hu
        refine Ret.t (by rw [if_neg hu]) ?_
        have hwj := hw j
        rcases nrO_ok (wF T v (decide (0 < m)) p) (usR us) j with ⟨q1, q2⟩ | ⟨q, q1, q2⟩
        · rw [q1] at t2 ⊢
          dsimp only at t2
          rw [t2]
          refine Ret.br (fun hc => Ret.t (by omega) (Ret.pure ?_)) (fun hc => Ret.pure ?_)
          · rw [if_pos ⟨by omega, hc⟩]
          · rw [if_neg (fun z => hc z.2)]
        · rw [q1] at t2 ⊢
          dsimp only at t2
          obtain ⟨g1, g2, g3, g4⟩ := q2
          rw [t2, ob_some, M_fare (by omega : p < 8) (by omega : q < 8) hsqs m, ob_some]
          refine Ret.br (fun hc => Ret.f (by omega) (Ret.br (fun hd => Ret.pure ?_) (fun hd => Ret.pure ?_))) (fun hc => Ret.pure ?_)
          · rw [if_pos ⟨by omega, hd⟩]
          · rw [if_neg (fun z => hd z.2)]
          · rw [if_neg (fun z => by have := z.2; dsimp only at this; omega)]
    · rintro t ⟨t1, t2⟩
      rw [t1]
      exact Ret.f (by omega) (Ret.pure t2)
    rintro e rfl
    cases hb : bestO (wF T v (decide (0 < m)) p) (usR us) with
    | none =>
      obtain ⟨b1, b2⟩ := bestO_none hb
      rw [b1]
      refine Ret.t (by omega) (Ret.pure ⟨?_, i7⟩)
      have hbr : bestO (wF T v (decide (0 < m)) p) r = none := by
        cases hq : bestO (wF T v (decide (0 < m)) p) r with
        | none => rfl
        | some q =>
          obtain ⟨⟨g1, g2, g3, g4⟩, _⟩ := bestO_some hq
          rw [hr q g1] at g2
          have : usR us q = 1 := by
            unfold usR
            split
            · rename_i hu; rw [if_pos hu] at g2; omega
            · rfl
          have := b2 q g1 (by omega)
          omega
      have e1 : fwS (wF T v (decide (0 < m)) p) (cF T v (decide (0 < m)) p) (i + 1) = none := by
        rw [fwS_s, i3]
        show stepR _ _ = none
        unfold stepR
        dsimp only
        rw [hbr]
      have e2 := fwS_none e1 (N - (i + 1))
      rw [show i + 1 + (N - (i + 1)) = N by omega] at e2
      exact feeV_none e2
    | some o' =>
      obtain ⟨⟨g1, g2, g3, g4⟩, ge⟩ := bestO_some hb
      have hu : us o' = false := by
        cases hq : us o' with
        | false => rfl
        | true => unfold usR at g2; rw [if_pos hq] at g2; omega
      obtain ⟨hal, hop⟩ := i5 o' g1 hu
      have hol := sfA_lt ho.2 hal
      have hv := ho.2.2.2.1 o' hol
      have hcf := cFr ho (p := p) (i := o') (decide (0 < m))
      rw [if_pos ⟨hal, hop⟩] at hcf
      have hro : r o' = cF T v (decide (0 < m)) p o' := by rw [hr o' g1, if_neg (by rw [hu]; decide)]
      have hro150 := cF_R ho (decide (0 < m)) p o'
      have hwo := hw o'
      rw [ge]
      refine Ret.f (by omega) (Ret.t (by omega) (Ret.letM ?_))
      rw [Int.toNat_natCast]
      have n1 : ∀ q, q < 8 → mupd s.2.2 419 o' 1 419 q = if (us q || decide (q = o')) = true then 1 else 0 := fun q hq => by
        by_cases hqo : q = o'
        · subst hqo; rw [mupd_same]; simp
        · rw [mupd_ne2 _ _ hqo, i4 q hq]; simp [hqo]
      have n2 : ∀ c, c ≠ 419 → mupd s.2.2 419 o' 1 c = M c := fun c hc => by funext z; rw [mupd_ne _ _ hc, i7 c hc]
      generalize mupd s.2.2 419 o' 1 = M5 at n1 n2 ⊢
      have hw5 : WM b T R v M5 := h.congr fun k j hk => by rw [n2 k (by unfold pR at hk; omega)]
      have hsq5 : SQ 413 (rdK T v 8) M5 := by unfold SQ; rw [n2 413 (by omega)]; exact hsq
      have ag := hw5.age ho (p := o') (by omega) hol
      rw [Int.toNat_natCast] at ag
      rw [ag.1, Int.toNat_natCast, ag.2.2, hw5.bl.2.1, hw5.bl.2.2]
      refine Ret.bind (R := fun x => x = (cF T v (decide (0 < m)) p o' : Int)) (Ret.br (fun hc => Ret.t hw5.bl.1 (Ret.t ag.2.1 (Ret.pure ?_))) (fun hc => Ret.t ag.2.1 (Ret.t hw5.bl.1 (Ret.pure ?_)))) ?_
      · rw [decide_eq_false (show ¬ 0 < m by omega), if_neg (by decide)] at hcf
        rw [decide_eq_false (show ¬ 0 < m by omega), hcf, w32e (by omega) (by omega)]
      · rw [decide_eq_true (show 0 < m by omega), if_pos rfl] at hcf
        rw [decide_eq_true (show 0 < m by omega), hcf, w32e (by omega) (by omega)]
      rintro x rfl
      generalize ht : min (cF T v (decide (0 < m)) p o') (N - i) = t
      refine Ret.bind (R := fun x => x = (t : Int)) (Ret.br (fun hc => Ret.pure (by omega)) (fun hc => Ret.pure (by omega))) ?_
      rintro x rfl
      rw [M_fare (by omega : p < 8) g1 hsq5 m, ob_some]
      have many := fw_many i3 g1 g3 (fun q hq hrq => g4 q hq (by
        rw [hr q hq] at hrq
        unfold usR
        split
        · rename_i hu2; rw [if_pos hu2] at hrq; omega
        · omega)) t (by omega)
      have fr2 := fw_R hw _ (i + t) _ many
      dsimp only at fr fr2
      have hmul : 0 ≤ (t : Int) * wF T v (decide (0 < m)) p o' := Int.mul_nonneg (by omega) hwo.1
      have hmul2 : (t : Int) * wF T v (decide (0 < m)) p o' ≤ 150 * 25344 := Int.mul_le_mul (by omega) (by omega) hwo.1 (by omega)
      rw [w32e (n := (t : Int) * wF T v (decide (0 < m)) p o') (by omega) (by omega), w32e (n := s.2.1 + (t : Int) * wF T v (decide (0 < m)) p o') (by omega) (by omega), w32e (n := s.1 - (t : Int)) (by omega) (by omega)]
      refine Ret.letI (Ret.letI (Ret.pure ⟨unN (fun q => us q || decide (q = o')), ?_, i + t, decR r o' t, fun q => us q || decide (q = o'), by omega, by dsimp only; omega, many, n1, fun q hq hq2 => ?_, rfl, n2, ?_⟩))
      · rw [i6]; exact unN_lt g1 hu
      · dsimp only at hq2
        rw [Bool.or_eq_false_iff] at hq2
        exact i5 q hq hq2.1
      · by_cases hfull : cF T v (decide (0 < m)) p o' ≤ N - i
        · refine Or.inr fun q hq => ?_
          unfold decR
          by_cases hqo : q = o'
          · subst hqo
            rw [if_pos rfl]; simp; omega
          · rw [if_neg hqo, hr q hq]; simp [hqo]
        · exact Or.inl (by omega)
  · simp only [Bool.not_eq_false', Bool.and_eq_true, decide_eq_true_eq] at hu
    exact hu
  · dsimp only
    by_cases hc : sfA v q = true ∧ q ≠ p
    · rw [if_neg]
      simp [hc]
    · rw [if_pos]
      · exact if_neg hc
      · by_cases h1 : sfA v q = true
        · have : q = p := Classical.byContradiction fun h2 => hc ⟨h1, h2⟩
          simp [this]
        · simp [h1]
  · rintro (e | e) he
    · exact Ret.pure he
    · exact Ret.pure ⟨he.1.symm, he.2⟩
def rchS (T : TW) (R : Nat → RL) (v : Nat → Int) (p : Nat) (r : Int) : Nat → Int × Int := itF (fun k s => if feeA T v p (T 0 3 + k) < s.1 ∧ hasV T R v p r (T 0 3 + k) ≠ 0 then (feeA T v p (T 0 3 + k), T 0 3 + k) else s) (100000000, -1)
def reachA (T : TW) (R : Nat → RL) (v : Nat → Int) (p r w : Int) : Int := if alv v p = true ∧ (0 ≤ r ∧ r < T 0 2) ∧ (0 ≤ w ∧ w ≤ 1) then (if (rchS T R v p.toNat r (sfS T + 1)).2 = -1 then -1 else if w = 0 then (rchS T R v p.toNat r (sfS T + 1)).1 else (rchS T R v p.toNat r (sfS T + 1)).2) else -1
def pRch (k j : Nat) : Prop := pV k j ∨ k = 334 ∨ k = 335 ∨ k = 336
theorem X_reach {T : TW} {R : Nat → RL} {v : Nat → Int} {M : KM} (h : WC T R v M) (ho : WO T R v) (p r w : Int) : Ret (f_X_reach p r w M) (fun q => q.1 = reachA T R v p r w ∧ Fp pRch M q.2) := by
  have o := ho.1.1
  have hs := sfS_R ho
  have no : ¬ (alv v p = true ∧ (0 ≤ r ∧ r < T 0 2) ∧ (0 ≤ w ∧ w ≤ 1)) → reachA T R v p r w = -1 := fun q => if_neg q
  unfold f_X_reach
  rw [e_X_isAlive h.n h.alive ho.2, ob_some, e_X_isRight, ob_some, h.rights]
  refine Ret.br (fun hc => Ret.pure ⟨(no (fun q => by rw [if_pos q.1] at hc; omega)).symm, Fp.rf⟩) (fun hc => ?_)
  have ha : alv v p = true := by
    by_cases hq : alv v p = true
    · exact hq
    · rw [if_neg hq] at hc; omega
  refine Ret.br (fun hd => Ret.pure ⟨(no (fun q => by rw [if_pos q.2.1] at hd; omega)).symm, Fp.rf⟩) (fun hd => ?_)
  have hr : 0 ≤ r ∧ r < T 0 2 := by
    by_cases hq : 0 ≤ r ∧ r < T 0 2
    · exact hq
    · rw [if_neg hq] at hd; omega
  refine Ret.br (fun he => Ret.pure ⟨(no (fun q => by omega)).symm, Fp.rf⟩) (fun he => Ret.br (fun hf => ?_) (fun hf => Ret.pure ⟨(no (fun q => by omega)).symm, Fp.rf⟩))
  obtain ⟨hp0, hp1⟩ := alv_R ho.2 ha
  obtain ⟨x, rfl⟩ := Int.eq_ofNat_of_zero_le hp0
  have eA : reachA T R v (x : Int) r w = if (rchS T R v x r (sfS T + 1)).2 = -1 then -1 else if w = 0 then (rchS T R v x r (sfS T + 1)).1 else (rchS T R v x r (sfS T + 1)).2 := if_pos ⟨ha, hr, by omega⟩
  rw [eA]
  refine Ret.bind (X_measure h ho) ?_
  rintro M1 ⟨m1, m2⟩
  have f1 : Fp pRch M M1 := fun k j hk => by rw [m2 k (fun e => hk (Or.inr (Or.inr (Or.inl e))))]
  have hw1 : WC T R v M1 := h.congr fun k j hk => f1 k j (by unfold pN at hk; unfold pRch pV; omega)
  refine Ret.bind (X_priceAges hw1 ho hp1 m1) ?_
  rintro M2 ⟨n1, n2, n3⟩
  have f2 : Fp pRch M M2 := f1.tr (n3.mono fun k j hk => Or.inr hk)
  have ew : ∀ M', Fp pRch M M' → WC T R v M' := fun M' hf => h.congr fun k j hk => hf k j (by unfold pN at hk; unfold pRch pV; omega)
  obtain ⟨L, hL⟩ := Int.eq_ofNat_of_zero_le o.2.2.2.2.2.2.1
  rw [(ew M2 f2).least]
  refine Ret.letI ?_
  refine Ret.bind (R := fun e => (e.1, e.2.1) = rchS T R v x r (sfS T + 1) ∧ Fp pRch M e.2.2) (Ret.loop (sfS T + 1) (fun i s => s.2.2.1 = T 0 3 + (i : Int) ∧ (s.1, s.2.1) = rchS T R v x r i ∧ Fp pRch M s.2.2.2 ∧ ∀ j, s.2.2.2 334 j = M2 334 j) ⟨by dsimp only; omega, rfl, f2, fun _ => rfl⟩ ?_ ?_) ?_
  · rintro i s hi ⟨k1, k2, k3, k4⟩
    have hws := ew s.2.2.2 k3
    have e1 : s.1 = (rchS T R v x r i).1 := by rw [← k2]
    have e2 : s.2.1 = (rchS T R v x r i).2 := by rw [← k2]
    have eT : T 0 3 + (i : Int) = ((L + i : Nat) : Int) := by omega
    have ep : atM s.2.2.2 334 151 (T 0 3 + (i : Int)) = feeA T v x (T 0 3 + (i : Int)) := by
      rw [eT, atM_nat _ _ _ (by omega), k4, n1 (L + i) (by omega) (by omega)]
    rw [k1, hws.most, ep, w32e (n := T 0 3 + (i : Int) + 1) (by omega) (by omega)]
    refine Ret.t (by omega) (Ret.letI ?_)
    refine Ret.bind (R := fun e => (e.1, e.2.1) = rchS T R v x r (i + 1) ∧ Fp pRch M e.2.2 ∧ ∀ j, e.2.2 334 j = M2 334 j) ?_ (fun e he => Ret.pure ⟨by dsimp only; omega, he.1, he.2.1, he.2.2⟩)
    have es : rchS T R v x r (i + 1) = if feeA T v x (T 0 3 + i) < (rchS T R v x r i).1 ∧ hasV T R v x r (T 0 3 + i) ≠ 0 then (feeA T v x (T 0 3 + i), T 0 3 + (i : Int)) else rchS T R v x r i := rfl
    rw [es, ← e1]
    refine Ret.br (fun hlt => Ret.bind (X_wouldHave hws ho _ _ _) ?_) (fun hlt => Ret.pure ⟨by rw [if_neg (fun q => hlt q.1)]; exact k2, k3, k4⟩)
    rintro q ⟨q1, q2⟩
    have f5 : Fp pRch M q.2 := k3.tr (q2.mono fun _ _ => Or.inl)
    have k5 : ∀ j, q.2 334 j = M2 334 j := fun j => by rw [q2 334 j (by unfold pV; omega), k4]
    rw [q1]
    refine Ret.br (fun hz => Ret.pure ⟨by rw [if_neg (fun q => q.2 hz)]; exact k2, f5, k5⟩) (fun hz => Ret.pure ⟨by rw [if_pos ⟨hlt, hz⟩], f5, k5⟩)
  · rintro s ⟨k1, k2, k3, k4⟩
    rw [k1, (ew _ k3).most]
    exact Ret.f (by omega) (Ret.pure ⟨k2, k3⟩)
  rintro e ⟨e1, e2⟩
  have e3 : e.1 = (rchS T R v x r (sfS T + 1)).1 := by rw [← e1]
  have e4 : e.2.1 = (rchS T R v x r (sfS T + 1)).2 := by rw [← e1]
  rw [e3, e4]
  refine Ret.br (fun hz => Ret.pure ⟨by rw [if_pos hz], e2⟩) (fun hz => ?_)
  rw [if_neg hz]
  refine Ret.bind (R := fun z => z = if w = 0 then (rchS T R v x r (sfS T + 1)).1 else (rchS T R v x r (sfS T + 1)).2) (Ret.br (fun hq => Ret.pure (by rw [if_pos hq])) (fun hq => Ret.pure (by rw [if_neg hq]))) (fun z hz => Ret.pure ⟨hz, e2⟩)
/-! the second side -/
def pRcM (k j : Nat) : Prop := pW k j ∨ k = 413 ∨ k = 419
theorem M_reach {b : Nat} {T : TW} {R : Nat → RL} {v : Nat → Int} {M : KM} (h : WM b T R v M) (ho : WO T R v) (p r w : Int) : Ret (f_M_reach p r w M) (fun q => q.1 = reachA T R v p r w ∧ Fp pRcM M q.2) := by
  have o := ho.1.1
  have hs := sfS_R ho
  have no : ¬ (alv v p = true ∧ (0 ≤ r ∧ r < T 0 2) ∧ (0 ≤ w ∧ w ≤ 1)) → reachA T R v p r w = -1 := fun q => if_neg q
  unfold f_M_reach
  rw [M_isPerson h ho, ob_some]
  refine Ret.br (fun hc => Ret.pure ⟨(no (fun q => by rw [if_pos (alv_R ho.2 q.1)] at hc; omega)).symm, Fp.rf⟩) (fun hc => ?_)
  have hp : 0 ≤ p ∧ p < T 0 0 := by
    by_cases hq : 0 ≤ p ∧ p < T 0 0
    · exact hq
    · rw [if_neg hq] at hc; omega
  rw [e_M_isAlive (h.all (by omega)) ho.2 hp.1 (by omega), ob_some]
  refine Ret.br (fun hc => Ret.pure ⟨(no (fun q => by rw [if_pos q.1] at hc; omega)).symm, Fp.rf⟩) (fun hc => ?_)
  have ha : alv v p = true := by
    by_cases hq : alv v p = true
    · exact hq
    · rw [if_neg hq] at hc; omega
  rw [M_isRight h ho, ob_some]
  refine Ret.br (fun hd => Ret.pure ⟨(no (fun q => by rw [if_pos q.2.1] at hd; omega)).symm, Fp.rf⟩) (fun hd => ?_)
  have hr : 0 ≤ r ∧ r < T 0 2 := by
    by_cases hq : 0 ≤ r ∧ r < T 0 2
    · exact hq
    · rw [if_neg hq] at hd; omega
  rw [e_M_isIn, ob_some]
  refine Ret.br (fun hd => Ret.pure ⟨(no (fun q => by rw [if_pos q.2.2] at hd; omega)).symm, Fp.rf⟩) (fun hd => ?_)
  have hw01 : 0 ≤ w ∧ w ≤ 1 := by
    by_cases hq : 0 ≤ w ∧ w ≤ 1
    · exact hq
    · rw [if_neg hq] at hd; omega
  obtain ⟨hp0, hp1⟩ := hp
  obtain ⟨x, rfl⟩ := Int.eq_ofNat_of_zero_le hp0
  have eA : reachA T R v (x : Int) r w = if (rchS T R v x r (sfS T + 1)).2 = -1 then -1 else if w = 0 then (rchS T R v x r (sfS T + 1)).1 else (rchS T R v x r (sfS T + 1)).2 := if_pos ⟨ha, hr, hw01⟩
  rw [eA]
  refine Ret.bind (M_layRoads h ho) ?_
  rintro M1 ⟨m1, m2⟩
  have f1 : Fp pRcM M M1 := fun k j hk => by rw [m2 k (fun e => hk (Or.inr (Or.inl e)))]
  have ew : ∀ M', Fp pRcM M M' → WM b T R v M' := fun M' hf => h.congr fun k j hk => hf k j (by unfold pR at hk; unfold pRcM pW; omega)
  have hv := ho.2.2.2.1 x hp1
  refine Ret.t (ew M1 f1).bl.1 (Ret.letI ?_)
  rw [(ew M1 f1).bl.2.1]
  refine Ret.bind (R := fun e => (e.2.1, e.1) = rchS T R v x r (sfS T + 1) ∧ Fp pRcM M e.2.2) (Ret.loop (sfS T + 1) (fun i s => s.2.2.1 = T 0 3 + (i : Int) ∧ (s.2.1, s.1) = rchS T R v x r i ∧ Fp pRcM M s.2.2.2 ∧ ∀ j, s.2.2.2 413 j = M1 413 j) ⟨by dsimp only; omega, rfl, f1, fun _ => rfl⟩ ?_ ?_) ?_
  · rintro i s hi ⟨k1, k2, k3, k4⟩
    have hws := ew s.2.2.2 k3
    have e1 : s.2.1 = (rchS T R v x r i).1 := by rw [← k2]
    have e2 : s.1 = (rchS T R v x r i).2 := by rw [← k2]
    rw [k1, hws.bl.2.2, w32e (n := T 0 3 + (i : Int) + 1) (by omega) (by omega)]
    refine Ret.t hws.bl.1 (Ret.t (by omega) (Ret.bind (M_wouldHave hws ho hp0 hp1 hr _) ?_))
    rintro q ⟨q1, q2⟩
    have f5 : Fp pRcM M q.2 := k3.tr (q2.mono fun _ _ => Or.inl)
    have k5 : ∀ j, q.2 413 j = M1 413 j := fun j => by rw [q2 413 j (by unfold pW; omega), k4]
    have hw5 := ew q.2 f5
    have sq5 : SQ 413 (rdK T v 8) q.2 := fun a c ha hc => by rw [k5]; exact m1 a c ha hc
    have ag := hw5.age ho (p := x) hp0 hp1
    rw [Int.toNat_natCast] at ag
    rw [q1, ag.1, Int.toNat_natCast, ag.2.2, w32e (n := T 0 3 + (i : Int) - v x) (by omega) (by omega)]
    refine Ret.bind (R := fun e => (e.2.1, e.1) = rchS T R v x r (i + 1) ∧ Fp pRcM M e.2.2 ∧ ∀ j, e.2.2 413 j = M1 413 j) ?_ (fun e he => Ret.pure ⟨by dsimp only; omega, he.1, he.2.1, he.2.2⟩)
    have es : rchS T R v x r (i + 1) = if feeA T v x (T 0 3 + i) < (rchS T R v x r i).1 ∧ hasV T R v x r (T 0 3 + i) ≠ 0 then (feeA T v x (T 0 3 + i), T 0 3 + (i : Int)) else rchS T R v x r i := rfl
    rw [es, ← e1]
    refine Ret.br (fun hz => Ret.pure ⟨by rw [if_neg (fun q => q.2 hz)]; exact k2, f5, k5⟩) (fun hz => Ret.t ag.2.1 ?_)
    refine Ret.bind (M_costOf hw5 ho hp1 sq5 (by omega)) ?_
    rintro c ⟨c1, c2⟩
    have ef : feeV (wF T v (decide (0 < T 0 3 + (i : Int) - v x)) x) (cF T v (decide (0 < T 0 3 + (i : Int) - v x)) x) (if 0 < T 0 3 + (i : Int) - v x then (T 0 3 + (i : Int) - v x).toNat else (-(T 0 3 + (i : Int) - v x)).toNat) = feeA T v x (T 0 3 + i) := by
      unfold feeA
      by_cases h1 : 0 < T 0 3 + (i : Int) - v x
      · rw [decide_eq_true h1, if_pos h1, if_pos (by omega)]
      · rw [decide_eq_false h1, if_neg h1]
        by_cases h2 : v x ≤ T 0 3 + (i : Int)
        · rw [if_pos h2, show (-(T 0 3 + (i : Int) - v x)).toNat = 0 by omega, show (T 0 3 + (i : Int) - v x).toNat = 0 by omega, feeV_0, feeV_0]
        · rw [if_neg h2, show (-(T 0 3 + (i : Int) - v x)).toNat = (v x - (T 0 3 + (i : Int))).toNat by omega]
    have f6 : Fp pRcM M c.2 := fun k j hk => by rw [c2 k (fun e => hk (Or.inr (Or.inr e))), f5 k j hk]
    have k6 : ∀ j, c.2 413 j = M1 413 j := fun j => by rw [c2 413 (by omega), k5]
    rw [c1, ef]
    refine Ret.br (fun hlt => Ret.pure ⟨by rw [if_pos ⟨hlt, hz⟩], f6, k6⟩) (fun hlt => Ret.pure ⟨by rw [if_neg (fun q => hlt q.1)]; exact k2, f6, k6⟩)
  · rintro s ⟨k1, k2, k3, k4⟩
    have hws := ew s.2.2.2 k3
    rw [k1, hws.bl.2.2]
    exact Ret.t hws.bl.1 (Ret.f (by omega) (Ret.pure ⟨k2, k3⟩))
  rintro e ⟨e1, e2⟩
  have e3 : e.2.1 = (rchS T R v x r (sfS T + 1)).1 := by rw [← e1]
  have e4 : e.1 = (rchS T R v x r (sfS T + 1)).2 := by rw [← e1]
  have hneg : ∀ i, (rchS T R v x r i).2 = -1 ∨ 0 ≤ (rchS T R v x r i).2 := fun i => by
    induction i with
    | zero => exact Or.inl rfl
    | succ i ih =>
      show (if _ then _ else _ : Int × Int).2 = -1 ∨ 0 ≤ (if _ then _ else _ : Int × Int).2
      split
      · exact Or.inr (by dsimp only; omega)
      · exact ih
  have hn := hneg (sfS T + 1)
  rw [e3, e4]
  refine Ret.bind (R := fun z => z = if (rchS T R v x r (sfS T + 1)).2 = -1 then -1 else if w = 0 then (rchS T R v x r (sfS T + 1)).1 else (rchS T R v x r (sfS T + 1)).2) (Ret.br (fun hz => Ret.pure ?_) (fun hz => Ret.br (fun hq => Ret.pure ?_) (fun hq => Ret.pure ?_))) (fun z hz => Ret.pure ⟨hz, e2⟩)
  · rw [if_pos (by omega)]
  · rw [if_neg (by omega), if_pos hq]
  · rw [if_neg (by omega), if_neg hq]
