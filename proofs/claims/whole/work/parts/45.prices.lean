/-! THE PRICES OF ALL AGES: the first side -/
def pRc (k _ : Nat) : Prop := k = 334 ∨ k = 335 ∨ k = 336
theorem cFr {T : TW} {R : Nat → RL} {v : Nat → Int} (ho : WO T R v) {p i : Nat} (up : Bool) : (cF T v up p i : Int) = if sfA v i = true ∧ i ≠ p then (if up = true then v i - T 0 3 else T 0 4 - v i) else 0 := by
  unfold cF
  by_cases h : sfA v i = true ∧ i ≠ p
  · rw [if_pos h, if_pos h]
    have := ho.2.2.2.1 i (sfA_lt ho.2 h.1)
    split <;> omega
  · rw [if_neg h, if_neg h]; rfl
/-- the rooms are laid -/
theorem X_rooms {T : TW} {R : Nat → RL} {v : Nat → Int} {p : Nat} (ho : WO T R v) (up : Bool) {M : KM} (h : WC T R v M) {body : (Int × KM) → Option ((Int × KM) ⊕ KM)}
    (hb : ∀ (i : Nat) (M' : KM), i < 8 → WC T R v M' → body ((i : Int), M') = some (Sum.inl (((i + 1 : Nat) : Int), mupd M' 336 i (cF T v up p i : Int)))) (he : ∀ M', body ((8 : Int), M') = some (Sum.inr M')) :
    Ret (whileO body ((0 : Int), M)) (fun M' => (∀ o, o < 8 → M' 336 o = (cF T v up p o : Int)) ∧ ∀ c, c ≠ 336 → M' c = M c) := by
  refine Ret.loop 8 (fun i s => s.1 = (i : Int) ∧ (∀ o, o < i → s.2 336 o = (cF T v up p o : Int)) ∧ ∀ c, c ≠ 336 → s.2 c = M c) ⟨rfl, fun j hj => absurd hj (Nat.not_lt_zero _), fun c _ => rfl⟩ ?_ ?_
  · rintro i ⟨x, M'⟩ hi ⟨k1, k2, k3⟩
    dsimp only at k1 k2 k3
    subst k1
    rw [hb i M' hi (h.congr fun k j hk => by rw [k3 k (by unfold pN at hk; omega)])]
    refine Ret.pure ⟨rfl, fun o ho' => ?_, fun c hc => ?_⟩
    · dsimp only
      by_cases hoi : o = i
      · subst hoi; exact mupd_same _ _ _ _
      · rw [mupd_ne2 _ _ hoi]; exact k2 o (by omega)
    · dsimp only
      funext z; rw [mupd_ne _ _ hc, k3 c hc]
  · rintro ⟨x, M'⟩ ⟨k1, k2, k3⟩
    dsimp only at k1 k2 k3
    subst k1
    rw [show ((8 : Nat) : Int) = 8 from rfl, he M']
    exact Ret.pure ⟨k2, k3⟩
theorem X_priceAges {T : TW} {R : Nat → RL} {v : Nat → Int} {p : Nat} {M : KM} (h : WC T R v M) (ho : WO T R v) (hp : (p : Int) < T 0 0) (hsq : SQX (rdK T v 8) M) : Ret (f_Roads_priceAges (p : Int) M) (fun q => (∀ a : Nat, T 0 3 ≤ (a : Int) → (a : Int) ≤ T 0 4 → q 334 a = feeA T v p a) ∧ SQX (rdK T v 8) q ∧ Fp pRc M q) := by
  have o := ho.1.1
  have hv := ho.2.2.2.1 p hp
  obtain ⟨L, hL⟩ := Int.eq_ofNat_of_zero_le o.2.2.2.2.2.2.1
  obtain ⟨U, hU⟩ := Int.eq_ofNat_of_zero_le (show 0 ≤ T 0 4 by omega)
  obtain ⟨a, ha⟩ := Int.eq_ofNat_of_zero_le (show 0 ≤ v p by omega)
  unfold f_Roads_priceAges
  refine Ret.bind (R := fun M1 => (∀ j, j < 151 → M1 334 j = 100000000) ∧ ∀ c, c ≠ 334 → M1 c = M c) (Ret.loop 151 (fun i s => s.1 = (i : Int) ∧ (∀ j, j < i → s.2 334 j = 100000000) ∧ ∀ c, c ≠ 334 → s.2 c = M c) ⟨rfl, fun j hj => absurd hj (Nat.not_lt_zero _), fun c _ => rfl⟩ ?_ ?_) ?_
  · rintro i s hi ⟨k1, k2, k3⟩
    rw [k1, w32e (n := (i : Int) + 1) (by omega) (by omega)]
    refine Ret.t (by omega) (Ret.t (by omega) (Ret.letM (Ret.pure ⟨rfl, fun j hj => ?_, fun c hc => by funext z; dsimp only; rw [mupd_ne _ _ hc, k3 c hc]⟩)))
    dsimp only
    rw [mupd_at, Int.toNat_natCast]
    by_cases hji : j = i
    · rw [if_pos ⟨rfl, hji⟩]
    · rw [if_neg (fun q => hji q.2)]; exact k2 j (by omega)
  · rintro s ⟨k1, k2, k3⟩
    rw [k1]
    exact Ret.f (by omega) (Ret.pure ⟨k2, k3⟩)
  rintro M1 ⟨z1, z2⟩
  have ew : ∀ (M2 : KM), (∀ c, c ≠ 334 → c ≠ 335 → c ≠ 336 → M2 c = M c) → WC T R v M2 := fun M2 hM => h.congr fun k j hk => by rw [hM k (by unfold pN at hk; omega) (by unfold pN at hk; omega) (by unfold pN at hk; omega)]
  have hw1 := ew M1 fun c c1 _ _ => z2 c c1
  have ag := hw1.age ho (p := p) (by omega) hp
  rw [Int.toNat_natCast] at ag
  rw [ag, ha]
  refine Ret.letI ?_
  rw [putM_nat _ _ _ _ (by omega : a < 151)]
  refine Ret.letM ?_
  have x1 : ∀ j, j < 151 → mupd M1 334 a 0 334 j = if j = a then 0 else 100000000 := fun j hj => by
    by_cases hja : j = a
    · subst hja; rw [mupd_same, if_pos rfl]
    · rw [mupd_ne2 _ _ hja, if_neg hja]; exact z1 j hj
  have x2 : ∀ c, c ≠ 334 → mupd M1 334 a 0 c = M c := fun c hc => by funext z; rw [mupd_ne _ _ hc, z2 c hc]
  generalize mupd M1 334 a 0 = M2 at x1 x2 ⊢
  have hw2 := ew M2 fun c c1 _ _ => x2 c c1
  have cand : ∀ (i : Nat) (M' : KM), i < 8 → WC T R v M' → Ret (if isInV (M' 34 3) (i : Int) = (0 : Int) then some (0 : Int) else (if (i : Int) = (p : Int) then some (0 : Int) else some (1 : Int))) (fun x => x = if sfA v i = true ∧ i ≠ p then 1 else 0) := fun i M' hi hw => by
    rw [hw.alive, alv_in ho.2]
    by_cases hal : sfA v i = true
    · refine Ret.f (by rw [if_pos hal]; omega) (Ret.br (fun hc => Ret.pure ?_) (fun hc => Ret.pure ?_))
      · rw [if_neg (fun q => q.2 (by omega))]
      · rw [if_pos ⟨hal, by omega⟩]
    · refine Ret.t (by rw [if_neg hal]) (Ret.pure ?_)
      rw [if_neg (fun q => hal q.1)]
  refine Ret.bind (R := fun M3 => (∀ o, o < 8 → M3 336 o = (cF T v true p o : Int)) ∧ ∀ c, c ≠ 336 → M3 c = M2 c) (X_rooms ho true hw2 (fun i M' hi hw => ?_) (fun M' => ?_)) ?_
  · refine Ret.some_of ?_
    refine Ret.t (by dsimp only; omega) (Ret.bind (cand i M' hi hw) ?_)
    rintro x rfl
    have c3 := cFr ho (p := p) (i := i) true
    rw [w32e (n := (i : Int) + 1) (by omega) (by omega)]
    refine Ret.bind (R := fun x => x = (cF T v true p i : Int)) ?_ (fun x hx => ?_)
    · by_cases hc : sfA v i = true ∧ i ≠ p
      · have hi' := sfA_lt ho.2 hc.1
        have g := hw.age ho (p := i) (by omega) hi'
        rw [Int.toNat_natCast] at g
        have hvi := ho.2.2.2.1 i hi'
        refine Ret.f (by rw [if_pos hc]; omega) (Ret.pure ?_)
        dsimp only
        rw [c3, if_pos hc, if_pos rfl, g, hw.least, w32e (by omega) (by omega)]
      · refine Ret.t (by rw [if_neg hc]) (Ret.pure ?_)
        rw [c3, if_neg hc]
    · subst hx
      dsimp only
      rw [putM_nat _ _ _ _ hi]
      exact Ret.letM (Ret.pure rfl)
  · rfl
  rintro M3 ⟨r1, r2⟩
  have q34 : ∀ c, c ≠ 334 → c ≠ 336 → M3 c = M c := fun c c1 c2 => by rw [r2 c c2, x2 c c1]
  have hw3 := ew M3 fun c c1 _ c3 => q34 c c1 c3
  have sq3 : SQX (rdK T v 8) M3 := by unfold SQX; rw [q34 335 (by omega) (by omega)]; exact hsq
  have st1 := X_priceSteps (p := p) (a := a) (n := U - a) (M := M3) ho.1 true (by omega) sq3 r1 (cF_R ho true p) (by omega) (fun _ => by omega) (fun q => by cases q) (fun k k1 k2 => by
    rw [r2 334 (by omega), x1 _ (by unfold ixA; simp only [if_true]; omega)]
    exact if_neg (by unfold ixA; simp only [if_true]; omega))
  have e1 : (if true = true then ((a + (U - a) : Nat) : Int) else ((a - (U - a) : Nat) : Int)) = T 0 4 := by rw [if_pos rfl]; omega
  rw [e1, if_pos rfl] at st1
  rw [hw3.most]
  refine Ret.bind st1 ?_
  rintro M4 ⟨s1, s2, s3⟩
  have q4 : ∀ c, c ≠ 334 → c ≠ 336 → M4 c = M c := fun c c1 c2 => by rw [s3 c c1 c2, q34 c c1 c2]
  have hw4 := ew M4 fun c c1 _ c3 => q4 c c1 c3
  refine Ret.bind (R := fun M5 => (∀ o, o < 8 → M5 336 o = (cF T v false p o : Int)) ∧ ∀ c, c ≠ 336 → M5 c = M4 c) (X_rooms ho false hw4 (fun i M' hi hw => ?_) (fun M' => ?_)) ?_
  · refine Ret.some_of ?_
    refine Ret.t (by dsimp only; omega) (Ret.bind (cand i M' hi hw) ?_)
    rintro x rfl
    have c3 := cFr ho (p := p) (i := i) false
    rw [w32e (n := (i : Int) + 1) (by omega) (by omega)]
    refine Ret.bind (R := fun x => x = (cF T v false p i : Int)) ?_ (fun x hx => ?_)
    · by_cases hc : sfA v i = true ∧ i ≠ p
      · have hi' := sfA_lt ho.2 hc.1
        have g := hw.age ho (p := i) (by omega) hi'
        rw [Int.toNat_natCast] at g
        have hvi := ho.2.2.2.1 i hi'
        refine Ret.f (by rw [if_pos hc]; omega) (Ret.pure ?_)
        dsimp only
        rw [c3, if_pos hc, if_neg (by decide), g, hw.most, w32e (by omega) (by omega)]
      · refine Ret.t (by rw [if_neg hc]) (Ret.pure ?_)
        rw [c3, if_neg hc]
    · subst hx
      dsimp only
      rw [putM_nat _ _ _ _ hi]
      exact Ret.letM (Ret.pure rfl)
  · rfl
  rintro M5 ⟨t1, t2⟩
  have q5 : ∀ c, c ≠ 334 → c ≠ 336 → M5 c = M c := fun c c1 c2 => by rw [t2 c c2, q4 c c1 c2]
  have hw5 := ew M5 fun c c1 _ c3 => q5 c c1 c3
  have sq5 : SQX (rdK T v 8) M5 := by unfold SQX; rw [q5 335 (by omega) (by omega)]; exact hsq
  have low : ∀ j, j < a → M5 334 j = 100000000 := fun j hj => by
    rw [t2 334 (by omega), s2 j (fun k k1 k2 => by unfold ixA; simp only [if_true]; omega), r2 334 (by omega), x1 j (by omega), if_neg (by omega)]
  have st2 := X_priceSteps (p := p) (a := a) (n := a - L) (M := M5) ho.1 false (by omega) sq5 t1 (cF_R ho false p) (by omega) (fun q => by cases q) (fun _ => by omega) (fun k k1 k2 => low _ (by unfold ixA; simp only [Bool.false_eq_true, if_false]; omega))
  have e2 : (if false = true then ((a + (a - L) : Nat) : Int) else ((a - (a - L) : Nat) : Int)) = T 0 3 := by rw [if_neg (by decide)]; omega
  rw [e2, if_neg (by decide)] at st2
  rw [hw5.least]
  refine Ret.bind st2 ?_
  rintro M6 ⟨y1, y2, y3⟩
  refine Ret.pure ⟨fun x hx1 hx2 => ?_, ?_, fun k j hk => ?_⟩
  · unfold feeA
    rw [ha]
    by_cases hxa : a ≤ x
    · rw [if_pos (by omega), y2 x (fun k k1 k2 => by unfold ixA; simp only [Bool.false_eq_true, if_false]; omega), t2 334 (by omega)]
      by_cases hxe : x = a
      · subst hxe
        rw [s2 x (fun k k1 k2 => by unfold ixA; simp only [if_true]; omega), r2 334 (by omega), x1 x (by omega), if_pos rfl, show ((x : Int) - (x : Int)).toNat = 0 by omega, feeV_0]
      · have := s1 (x - a) (by omega) (by omega)
        unfold ixA at this
        rw [if_pos rfl, show a + (x - a) = x by omega] at this
        rw [this]; congr 1; omega
    · rw [if_neg (by omega)]
      have := y1 (a - x) (by omega) (by omega)
      unfold ixA at this
      rw [if_neg (by decide), show a - (a - x) = x by omega] at this
      rw [this]; congr 1; omega
  · unfold SQX; rw [y3 335 (by omega) (by omega)]; exact sq5
  · rw [y3 k (fun e => hk (Or.inl e)) (fun e => hk (Or.inr (Or.inr e))), q5 k (fun e => hk (Or.inl e)) (fun e => hk (Or.inr (Or.inr e)))]
