/-! BARRED -/
def barB (T : TW) (v : Nat → Int) (tg : Nat → Bool) (ta : Nat → Int) (p : Nat) : Bool := tg p && (sfA v p && decide (100000000 ≤ feeA T v p (ta p)))
def barA (T : TW) (v : Nat → Int) (tg : Nat → Bool) (ta : Nat → Int) (z : Int) : Prop := 0 ≤ z ∧ z < 256 ∧ ∀ p, bt z p = (decide (p < (T 0 0).toNat) && barB T v tg ta p)
theorem or_bit8 {z : Int} {g : Nat → Bool} {i : Nat} (hi : i < 31) (h : (0 ≤ z ∧ z < 2147483648) ∧ ∀ p, bt z p = (decide (p < i) && g p)) :
    (g i = true → (0 ≤ kior z (kishl 1 (i : Int)) ∧ kior z (kishl 1 (i : Int)) < 2147483648) ∧ ∀ p, bt (kior z (kishl 1 (i : Int))) p = (decide (p < i + 1) && g p)) ∧ (g i = false → (0 ≤ z ∧ z < 2147483648) ∧ ∀ p, bt z p = (decide (p < i + 1) && g p)) := by
  obtain ⟨b1, b2, b3⟩ := kior_bit h.1.1 h.1.2 hi
  have e : ∀ p, p ≠ i → decide (p < i + 1) = decide (p < i) := fun p hp => decide_eq_decide.mpr (by omega)
  refine ⟨fun hg => ⟨⟨b1, b2⟩, fun p => ?_⟩, fun hg => ⟨h.1, fun p => ?_⟩⟩
  · rw [b3, h.2]
    by_cases hp : p = i
    · subst hp; rw [hg]; simp
    · rw [e p hp]; simp [hp]
  · rw [h.2]
    by_cases hp : p = i
    · subst hp; rw [hg]; simp
    · rw [e p hp]
theorem end_bit8 {z : Int} {g : Nat → Bool} {n : Nat} (hn : n ≤ 8) (h : (0 ≤ z ∧ z < 2147483648) ∧ ∀ p, bt z p = (decide (p < n) && g p)) : 0 ≤ z ∧ z < 256 ∧ ∀ p, bt z p = (decide (p < n) && g p) := by
  refine ⟨h.1.1, ?_, h.2⟩
  have := bt_lt8 (n := 8) h.1.1 fun i hi => by
    rw [h.2, show decide (i < n) = false from decide_eq_false (by omega)]
    rfl
  omega
def pBar (k _ : Nat) : Prop := k = 334 ∨ k = 335 ∨ k = 336
theorem X_barred {T : TW} {R : Nat → RL} {v : Nat → Int} {tg : Nat → Bool} {ta : Nat → Int} {M : KM} (h : WC T R v M) (ho : WO T R v) (hG : GC_ tg ta M) (hok : okG T tg ta) : Ret (f_X_barred M) (fun q => barA T v tg ta q.1 ∧ Fp pBar M q.2) := by
  have o := ho.1.1
  unfold f_X_barred
  refine Ret.bind (X_measure h ho) ?_
  rintro M1 ⟨m1, m2⟩
  have f1 : Fp pBar M M1 := fun k j hk => by rw [m2 k (fun e => hk (Or.inr (Or.inl e)))]
  refine Ret.bind (R := fun e => ((0 ≤ e.1 ∧ e.1 < 2147483648) ∧ ∀ p, bt e.1 p = (decide (p < (T 0 0).toNat) && barB T v tg ta p)) ∧ Fp pBar M e.2) (Ret.loop (T 0 0).toNat (fun i s => s.2.1 = (i : Int) ∧ ((0 ≤ s.1 ∧ s.1 < 2147483648) ∧ ∀ p, bt s.1 p = (decide (p < i) && barB T v tg ta p)) ∧ SQX (rdK T v 8) s.2.2 ∧ Fp pBar M s.2.2) ⟨rfl, ⟨by dsimp only; omega, fun p => by simp [bt]⟩, m1, f1⟩ ?_ ?_) (fun e he => Ret.pure ⟨end_bit8 (by omega) he.1, he.2⟩)
  · rintro i s hi ⟨k1, k2, k3, k4⟩
    have hi' : (i : Int) < T 0 0 := by omega
    have hw : WC T R v s.2.2 := h.congr fun k j hk => k4 k j (by unfold pN at hk; unfold pBar; omega)
    have e09 : s.2.2 0 9 = M 0 9 := k4 0 9 (by unfold pBar; omega)
    have e331 : s.2.2 331 i = M 331 i := k4 331 i (by unfold pBar; omega)
    obtain ⟨u1, u2⟩ := or_bit8 (by omega : i < 31) k2
    rw [k1, hw.n, e_X_isAlive hw.n hw.alive ho.2, ob_some, e09, isInV_bt hG.1.1 (by have := hG.1.2.1; omega), Int.toNat_natCast, hG.1.2.2, w32e (n := (i : Int) + 1) (by omega) (by omega)]
    refine Ret.t hi' ?_
    refine Ret.bind (R := fun e => ((0 ≤ e.1 ∧ e.1 < 2147483648) ∧ ∀ p, bt e.1 p = (decide (p < i + 1) && barB T v tg ta p)) ∧ SQX (rdK T v 8) e.2 ∧ Fp pBar M e.2) ?_ (fun e he => Ret.pure ⟨rfl, he.1, he.2.1, he.2.2⟩)
    by_cases ha : sfA v i = true
    · refine Ret.f (by rw [if_pos (show alv v i = true from ha)]; omega) ?_
      by_cases ht : tg i = true
      · refine Ret.f (by rw [if_pos ⟨by omega, ht⟩]; omega) ?_
        refine Ret.bind (X_priceAges hw ho hi' k3) ?_
        rintro q ⟨q1, q2, q3⟩
        have hk := hok i ht
        obtain ⟨a, hax⟩ := Int.eq_ofNat_of_zero_le (show 0 ≤ ta i by omega)
        have f4 : Fp pBar M q := k4.tr q3
        have e4 : q 331 i = ta i := by rw [f4 331 i (by unfold pBar; omega)]; exact hG.2 i (by omega) ht
        rw [atM_nat _ _ _ (by omega : i < 8), e4, hax, atM_nat _ _ _ (by omega : a < 151), q1 a (by omega) (by omega)]
        refine Ret.br (fun hc => Ret.pure ⟨u2 ?_, q2, f4⟩) (fun hc => Ret.letI (Ret.pure ⟨u1 ?_, q2, f4⟩))
        · unfold barB; rw [hax, decide_eq_false (by omega)]; simp
        · unfold barB; rw [hax, decide_eq_true (by omega), ht, ha]; rfl
      · refine Ret.t (by rw [if_neg (fun q => ht q.2)]) (Ret.pure ⟨u2 ?_, k3, k4⟩)
        unfold barB; simp [ht]
    · refine Ret.t (by rw [if_neg (show ¬ alv v i = true from ha)]) (Ret.pure ⟨u2 ?_, k3, k4⟩)
      unfold barB; simp [ha]
  · rintro s ⟨k1, k2, k3, k4⟩
    have hw : WC T R v s.2.2 := h.congr fun k j hk => k4 k j (by unfold pN at hk; unfold pBar; omega)
    rw [k1, hw.n]
    exact Ret.f (by omega) (Ret.pure ⟨k2, k4⟩)
/-! the second side -/
theorem capN_stop {w : Nat → Int} {c : Nat → Nat} {n : Nat} (hn : n ≤ 8) (h : ∀ q, n ≤ q → c q = 0) : capN w c 8 = capN w c n := by
  have e : 8 = n + (8 - n) := by omega
  rw [e]
  exact itF_stop _ fun i hi _ s => by rw [h i hi, Nat.add_zero]; split <;> rfl
theorem capN_150 {w : Nat → Int} {c : Nat → Nat} (h : ∀ q, c q ≤ 150) : ∀ n, capN w c n ≤ 150 * n := by
  intro n
  induction n with
  | zero => exact Nat.zero_le _
  | succ n ih =>
    rw [capN_s]
    have := h n
    split <;> omega
theorem cF_out {T : TW} {v : Nat → Int} (hS : okS T v) (up : Bool) (p : Nat) {q : Nat} (hq : T 0 0 ≤ (q : Int)) : cF T v up p q = 0 := by
  unfold cF
  rw [if_neg]
  intro h
  have := sfA_lt hS h.1
  omega
theorem M_canCome {b : Nat} {T : TW} {R : Nat → RL} {v : Nat → Int} {M : KM} (h : WM b T R v M) (ho : WO T R v) {p : Nat} (hp : p < 8) (hsq : SQ 413 (rdK T v 8) M) : f_M_canCome (p : Int) M = some (capN (wF T v true p) (cF T v true p) 8 : Int) := by
  have o := ho.1.1
  refine Ret.some_of ?_
  unfold f_M_canCome
  refine Ret.bind (R := fun x => x = (capN (wF T v true p) (cF T v true p) 8 : Int)) (Ret.loop (T 0 0).toNat (fun i s => s.2 = (i : Int) ∧ s.1 = (capN (wF T v true p) (cF T v true p) i : Int)) ⟨rfl, rfl⟩ ?_ ?_) (fun x hx => Ret.pure hx)
  · rintro i s hi ⟨k1, k2⟩
    have hi' : (i : Int) < T 0 0 := by omega
    have hi8 : i < 8 := by omega
    have w := w8 hi8 hp
    have ag := h.age ho (p := i) (by omega) hi'
    have hv := ho.2.2.2.1 i hi'
    have hb := capN_150 (w := wF T v true p) (cF_R ho true p) i
    have hcf := cFr ho (p := p) (i := i) true
    have hwf : wF T v true p i = rdK T v 8 i p := if_pos rfl
    rw [k1, k2, e_M_many h.1, ob_some, h.n, w32e (n := (i : Int) + 1) (by omega) (by omega), e_M_isAlive (h.all (by omega)) ho.2 (by omega) (by omega), ob_some, w.1, Int.toNat_natCast, hsq i p hi8 hp, ag.1, ag.2.2, h.bl.2.1, Int.toNat_natCast]
    refine Ret.t hi' ?_
    refine Ret.bind (R := fun x => x = (capN (wF T v true p) (cF T v true p) (i + 1) : Int)) ?_ (fun x hx => Ret.pure ⟨rfl, hx⟩)
    rw [capN_s, hwf]
    by_cases hip : i = p
    · refine Ret.t (by omega) (Ret.pure ?_)
      rw [if_neg (fun q => q.2 hip)] at hcf
      split <;> omega
    · refine Ret.f (by omega) ?_
      by_cases ha : sfA v i = true
      · rw [if_pos ⟨ha, hip⟩, if_pos rfl] at hcf
        refine Ret.f (by rw [if_pos (show alv v i = true from ha)]; omega) (Ret.t (by omega) (Ret.br (fun hc => Ret.t ag.2.1 (Ret.t h.bl.1 (Ret.letI (Ret.pure ?_)))) (fun hc => Ret.pure ?_)))
        · rw [if_pos hc, w32e (n := v i - T 0 3) (by omega) (by omega), w32e (by omega) (by omega)]; omega
        · rw [if_neg hc]
      · rw [if_neg (fun q => ha q.1)] at hcf
        refine Ret.t (by rw [if_neg (show ¬ alv v i = true from ha)]) (Ret.pure ?_)
        split <;> omega
  · rintro s ⟨k1, k2⟩
    rw [k1, e_M_many h.1, ob_some, h.n]
    refine Ret.f (by omega) (Ret.pure ?_)
    rw [capN_stop (n := (T 0 0).toNat) (by omega) (fun q hq => cF_out ho.2 true p (by omega))]
    exact k2
theorem M_canLeave {b : Nat} {T : TW} {R : Nat → RL} {v : Nat → Int} {M : KM} (h : WM b T R v M) (ho : WO T R v) {p : Nat} (hp : p < 8) (hsq : SQ 413 (rdK T v 8) M) : f_M_canLeave (p : Int) M = some (capN (wF T v false p) (cF T v false p) 8 : Int) := by
  have o := ho.1.1
  refine Ret.some_of ?_
  unfold f_M_canLeave
  refine Ret.bind (R := fun x => x = (capN (wF T v false p) (cF T v false p) 8 : Int)) (Ret.loop (T 0 0).toNat (fun i s => s.2 = (i : Int) ∧ s.1 = (capN (wF T v false p) (cF T v false p) i : Int)) ⟨rfl, rfl⟩ ?_ ?_) (fun x hx => Ret.pure hx)
  · rintro i s hi ⟨k1, k2⟩
    have hi' : (i : Int) < T 0 0 := by omega
    have hi8 : i < 8 := by omega
    have w := w8 hp hi8
    have ag := h.age ho (p := i) (by omega) hi'
    have hv := ho.2.2.2.1 i hi'
    have hb := capN_150 (w := wF T v false p) (cF_R ho false p) i
    have hcf := cFr ho (p := p) (i := i) false
    have hwf : wF T v false p i = rdK T v 8 p i := if_neg (by decide)
    rw [k1, k2, e_M_many h.1, ob_some, h.n, w32e (n := (i : Int) + 1) (by omega) (by omega), e_M_isAlive (h.all (by omega)) ho.2 (by omega) (by omega), ob_some, w.1, Int.toNat_natCast, hsq p i hp hi8, ag.1, ag.2.2, h.bl.2.2, Int.toNat_natCast]
    refine Ret.t hi' ?_
    refine Ret.bind (R := fun x => x = (capN (wF T v false p) (cF T v false p) (i + 1) : Int)) ?_ (fun x hx => Ret.pure ⟨rfl, hx⟩)
    rw [capN_s, hwf]
    by_cases hip : i = p
    · refine Ret.t (by omega) (Ret.pure ?_)
      rw [if_neg (fun q => q.2 hip)] at hcf
      split <;> omega
    · refine Ret.f (by omega) ?_
      by_cases ha : sfA v i = true
      · rw [if_pos ⟨ha, hip⟩, if_neg (by decide)] at hcf
        refine Ret.f (by rw [if_pos (show alv v i = true from ha)]; omega) (Ret.t (by omega) (Ret.br (fun hc => Ret.t h.bl.1 (Ret.t ag.2.1 (Ret.letI (Ret.pure ?_)))) (fun hc => Ret.pure ?_)))
        · rw [if_pos hc, w32e (n := T 0 4 - v i) (by omega) (by omega), w32e (by omega) (by omega)]; omega
        · rw [if_neg hc]
      · rw [if_neg (fun q => ha q.1)] at hcf
        refine Ret.t (by rw [if_neg (show ¬ alv v i = true from ha)]) (Ret.pure ?_)
        split <;> omega
  · rintro s ⟨k1, k2⟩
    rw [k1, e_M_many h.1, ob_some, h.n]
    refine Ret.f (by omega) (Ret.pure ?_)
    rw [capN_stop (n := (T 0 0).toNat) (by omega) (fun q hq => cF_out ho.2 false p (by omega))]
    exact k2
def misV (v : Nat → Int) (tg : Nat → Bool) (ta : Nat → Int) (p : Nat) : Int := if tg p = true ∧ sfA v p = true then ta p - v p else 0
theorem M_missing {b : Nat} {T : TW} {R : Nat → RL} {v : Nat → Int} {tg : Nat → Bool} {ta : Nat → Int} {M : KM} (h : WM b T R v M) (ho : WO T R v) (hG : GM_ tg ta M) (hok : okG T tg ta) {p : Nat} (hp : (p : Int) < T 0 0) : f_M_missing (p : Int) M = some (misV v tg ta p) := by
  have o := ho.1.1
  have ag := h.age ho (p := p) (by omega) hp
  have hv := ho.2.2.2.1 p hp
  refine Ret.some_of ?_
  unfold f_M_missing misV
  rw [Int.toNat_natCast, hG p (by omega), e_M_isAlive (h.all (by omega)) ho.2 (by omega) (by omega), ob_some, ag.1, ag.2.2, Int.toNat_natCast]
  refine Ret.t (by omega) (Ret.bind (R := fun x => x = if tg p = true ∧ sfA v p = true then ta p - v p else 0) ?_ (fun x hx => Ret.pure hx))
  by_cases ht : tg p = true
  · have hk := hok p ht
    rw [if_pos ht]
    refine Ret.f (by omega) ?_
    by_cases ha : sfA v p = true
    · refine Ret.f (by rw [if_pos (show alv v p = true from ha)]; omega) (Ret.t (by omega) (Ret.t ag.2.1 (Ret.pure ?_)))
      rw [if_pos ⟨ht, ha⟩, w32e (by omega) (by omega)]
    · refine Ret.t (by rw [if_neg (show ¬ alv v p = true from ha)]) (Ret.pure ?_)
      rw [if_neg (fun q => ha q.2)]
  · rw [if_neg ht]
    refine Ret.t (by omega) (Ret.pure ?_)
    rw [if_neg (fun q => ht q.1)]
def pRM (k _ : Nat) : Prop := k = 413
theorem M_barred {b : Nat} {T : TW} {R : Nat → RL} {v : Nat → Int} {tg : Nat → Bool} {ta : Nat → Int} {M : KM} (h : WM b T R v M) (ho : WO T R v) (hG : GM_ tg ta M) (hok : okG T tg ta) : Ret (f_M_barred M) (fun q => barA T v tg ta q.1 ∧ Fp pRM M q.2) := by
  have o := ho.1.1
  unfold f_M_barred
  refine Ret.bind (M_layRoads h ho) ?_
  rintro M1 ⟨m1, m2⟩
  have hw : WM b T R v M1 := h.congr fun k j hk => by rw [m2 k (by unfold pR at hk; omega)]
  have hG1 : GM_ tg ta M1 := fun p hp => by rw [m2 414 (by omega)]; exact hG p hp
  refine Ret.bind (R := fun e => (0 ≤ e ∧ e < 2147483648) ∧ ∀ p, bt e p = (decide (p < (T 0 0).toNat) && barB T v tg ta p)) (Ret.loop (T 0 0).toNat (fun i s => s.2 = (i : Int) ∧ ((0 ≤ s.1 ∧ s.1 < 2147483648) ∧ ∀ p, bt s.1 p = (decide (p < i) && barB T v tg ta p))) ⟨rfl, by dsimp only; omega, fun p => by simp [bt]⟩ ?_ ?_) (fun e he => Ret.pure ⟨end_bit8 (by omega) he, fun k j hk => by dsimp only; rw [m2 k hk]⟩)
  · rintro i s hi ⟨k1, k2⟩
    have hi' : (i : Int) < T 0 0 := by omega
    obtain ⟨u1, u2⟩ := or_bit8 (by omega : i < 31) k2
    have hv := ho.2.2.2.1 i hi'
    rw [k1, e_M_many hw.1, ob_some, hw.n, M_missing hw ho hG1 hok hi', ob_some, M_canCome hw ho (by omega : i < 8) m1, M_canLeave hw ho (by omega : i < 8) m1, ob_some, ob_some, w32e (n := (i : Int) + 1) (by omega) (by omega)]
    refine Ret.t hi' ?_
    refine Ret.bind (R := fun e => (0 ≤ e ∧ e < 2147483648) ∧ ∀ p, bt e p = (decide (p < i + 1) && barB T v tg ta p)) ?_ (fun e he => Ret.pure ⟨rfl, he⟩)
    by_cases hc : tg i = true ∧ sfA v i = true
    · have hk := hok i hc.1
      have em : misV v tg ta i = ta i - v i := if_pos hc
      have fu := feeV_lt (wF_R ho.1 v true i) (cF T v true i) (i := (ta i - v i).toNat) (by omega)
      have fd := feeV_lt (wF_R ho.1 v false i) (cF T v false i) (i := (v i - ta i).toNat) (by omega)
      have eb : barB T v tg ta i = decide (100000000 ≤ feeA T v i (ta i)) := by unfold barB; rw [hc.1, hc.2]; rfl
      have ea : feeA T v i (ta i) = if v i ≤ ta i then feeV (wF T v true i) (cF T v true i) (ta i - v i).toNat else feeV (wF T v false i) (cF T v false i) (v i - ta i).toNat := rfl
      rw [eb, ea] at u1 u2
      rw [em, w32e (n := -(ta i - v i)) (by omega) (by omega)]
      refine Ret.br (fun hle => Ret.br (fun hlt => ?_) (fun hlt => Ret.pure (u2 (decide_eq_false ?_)))) (fun hle => Ret.br (fun hx => Ret.letI (Ret.pure (u1 (decide_eq_true ?_)))) (fun hx => Ret.f (by omega) (Ret.pure (u2 (decide_eq_false ?_)))))
      · refine Ret.br (fun hx => Ret.letI (Ret.pure (u1 (decide_eq_true ?_)))) (fun hx => Ret.pure (u2 (decide_eq_false ?_)))
        · rw [if_neg (by omega)]; omega
        · rw [if_neg (by omega)]; omega
      · rw [if_pos (by omega)]; omega
      · rw [if_pos (by omega)]; omega
      · rw [if_pos (by omega)]; omega
    · have em : misV v tg ta i = 0 := if_neg hc
      have eb : barB T v tg ta i = false := by
        unfold barB
        by_cases h1 : tg i = true
        · have h2 : ¬ sfA v i = true := fun h2 => hc ⟨h1, h2⟩
          simp [h2]
        · simp [h1]
      rw [em]
      exact Ret.t (by omega) (Ret.f (by omega) (Ret.pure (u2 eb)))
  · rintro s ⟨k1, k2⟩
    rw [k1, e_M_many hw.1, ob_some, hw.n]
    exact Ret.f (by omega) (Ret.pure k2)
