/-! A YEAR -/
theorem WC.st {T : TW} {R : Nat → RL} {v s : Nat → Int} {M M' : KM} (h : WC T R v M) (hs : SC 34 (T 0 0) s M') (he : ∀ k j, (2 ≤ k ∧ k ≤ 12 ∧ ¬ (k = 11 ∧ j = 3)) → M' k j = M k j) : WC T R s M' := by
  have g : ∀ k, 2 ≤ k ∧ k ≤ 10 ∨ k = 12 → M' k = M k := fun k hk => by
    funext j; exact he k j (by omega)
  have g11 : M' 11 1 = M 11 1 := he 11 1 (by omega)
  have g12 := g 12 (by omega)
  obtain ⟨⟨h1, h2, h3, h4, h5, h6⟩, h7⟩ := h
  refine ⟨⟨?_, ?_, ?_, ?_, ?_, ?_⟩, hs⟩
  · rw [g 2 (by omega)]; exact h1
  · show ∀ p : Nat, (p : Int) < T 0 0 → M' 3 p = T 1 p ∧ M' 4 p = T 2 p ∧ M' 5 p = T 3 p ∧ M' 6 p = T 4 p
    rw [g 3 (by omega), g 4 (by omega), g 5 (by omega), g 6 (by omega)]; exact h2
  · show ∀ f : Nat, (f : Int) < T 0 1 → M' 7 f = T 5 f ∧ M' 8 f = T 6 f ∧ M' 9 f = T 7 f
    rw [g 7 (by omega), g 8 (by omega), g 9 (by omega)]; exact h3
  · intro r hr
    show CRule 2 M' (M' 10 r) (R r)
    rw [g 10 (by omega)]
    exact (h4 r hr).congr g11 g12
  · rw [g 2 (by omega)]
    exact ⟨h5.1, fun hq => (h5.2 hq).congr g11 g12⟩
  · show 0 ≤ M' 11 1 ∧ M' 11 1 ≤ 1600
    rw [g11]; exact h6
theorem WM.st {b : Nat} {T : TW} {R : Nat → RL} {v s : Nat → Int} {M M' : KM} (h : WM b T R v M) (hs : SM 411 0 s M') (he : ∀ k j, ((384 < k ∧ k < 410) ∨ (k = 382 ∧ j = 37)) → M' k j = M k j) : WM b T R s M' := by
  have g : ∀ k, 384 < k ∧ k < 410 → M' k = M k := fun k hk => by
    funext j; exact he k j (by omega)
  obtain ⟨h1, ⟨h2, h3, h4, h5, h6⟩, h7⟩ := h
  have gr : ∀ r L, MRule b M r L → MRule b M' r L := fun r L hL => by
    unfold MRule at hL ⊢
    rw [g 400 (by omega), g 401 (by omega), g 406 (by omega), g 407 (by omega)]; exact hL
  refine ⟨⟨h1.1, by rw [he 382 37 (by omega)]; exact h1.2⟩, ⟨?_, ?_, ?_, fun r hr => gr _ _ (h5 r hr), fun hq => gr _ _ (h6 hq)⟩, hs⟩
  · rw [g 385 (by omega), g 386 (by omega), g 387 (by omega), g 388 (by omega), g 389 (by omega), g 390 (by omega), g 391 (by omega), g 403 (by omega)]; exact h2
  · rw [g 393 (by omega), g 394 (by omega), g 395 (by omega), g 396 (by omega)]; exact h3
  · rw [g 397 (by omega), g 398 (by omega), g 399 (by omega)]; exact h4
theorem SM.at {v : Nat → Int} {M : KM} (h : SM 411 0 v M) {j : Nat} (hj : j < 171) : M 411 j = v j := by
  have := h j hj; rwa [Nat.zero_add] at this
def growS (T : TW) (v : Nat → Int) : Nat → Nat → Int := itF (fun p s => if alv s p = true then vset s p (min (T 0 4) (s p + 1)) else s) v
theorem growS_s (T : TW) (v : Nat → Int) (p : Nat) : growS T v (p + 1) = if alv (growS T v p) p = true then vset (growS T v p) p (min (T 0 4) (growS T v p p + 1)) else growS T v p := rfl
theorem growS_at (T : TW) (v : Nat → Int) : ∀ i : Nat, i ≤ 8 → ∀ j, growS T v i j = if j < i ∧ bt (v 16) j = true then min (T 0 4) (v j + 1) else v j := by
  intro i
  induction i with
  | zero => intro _ j; rw [if_neg (by omega)]; rfl
  | succ i ih =>
    intro hi j
    have ih := ih (by omega)
    have ea : alv (growS T v i) i = bt (v 16) i := by rw [alv_nat, ih 16, if_neg (by omega)]
    rw [growS_s, ea]
    by_cases hb : bt (v 16) i = true
    · rw [if_pos hb]
      by_cases hj : j = i
      · subst hj
        rw [vset_same, ih j, if_neg (by omega), if_pos ⟨by omega, hb⟩]
      · rw [vset_ne _ _ hj, ih j]
        exact ifc ⟨fun q => ⟨by omega, q.2⟩, fun q => ⟨by omega, q.2⟩⟩
    · rw [if_neg hb, ih j]
      refine ifc ⟨fun q => ⟨by omega, q.2⟩, fun q => ⟨?_, q.2⟩⟩
      by_cases hj : j = i
      · subst hj; exact absurd q.2 hb
      · omega
theorem growS_hi {T : TW} {v : Nat → Int} {i j : Nat} (hi : i ≤ 8) (hj : 8 ≤ j) : growS T v i j = v j := by rw [growS_at T v i hi, if_neg (by omega)]
theorem okS_grow {T : TW} {R : Nat → RL} {v : Nat → Int} (ho : WO T R v) {i : Nat} (hi : i ≤ 8) : okS T (growS T v i) := by
  have o := ho.1.1
  obtain ⟨k1, k2, k3, k4⟩ := ho.2
  have eo : ∀ j, 8 ≤ j → growS T v i j = v j := fun j hj => growS_hi hi hj
  refine ⟨?_, ?_, fun p hp => ?_, fun l hl => ?_⟩
  · rw [eo 16 (by omega), eo 17 (by omega), eo 19 (by omega), eo 20 (by omega)]; exact k1
  · rw [eo 16 (by omega)]; exact k2
  · have := k3 p hp
    rw [growS_at T v i hi]
    split
    · omega
    · omega
  · rw [eo 17 (by omega)] at hl
    rw [eo _ (by omega), eo _ (by omega), eo _ (by omega), eo _ (by omega)]
    exact k4 l hl
theorem X_growOlder {T : TW} {R : Nat → RL} {v : Nat → Int} {M : KM} (h : SC 34 (T 0 0) v M) (ho : WO T R v) : Ret (f_State_growOlder (T 0 4) M) (fun M' => SC 34 (T 0 0) (growS T v (T 0 0).toNat) M' ∧ ∀ c, c ≠ 35 → M' c = M c) := by
  have o := ho.1.1
  unfold f_State_growOlder
  refine Ret.bind (R := fun M' => SC 34 (T 0 0) (growS T v (T 0 0).toNat) M' ∧ ∀ c, c ≠ 35 → M' c = M c) (Ret.loop (T 0 0).toNat (fun i s => s.1 = (i : Int) ∧ SC 34 (T 0 0) (growS T v i) s.2 ∧ ∀ c, c ≠ 35 → s.2 c = M c) ⟨rfl, h, fun c _ => rfl⟩ ?_ ?_) (fun q hq => Ret.pure hq)
  · rintro i s hi ⟨h1, h2, h3⟩
    have hi' : (i : Int) < T 0 0 := by omega
    have e16 : s.2 34 3 = v 16 := by rw [h2.1.2.1, growS_hi (by omega) (by omega)]
    have eage : atM s.2 35 8 i = growS T v i i := by rw [atM_nat _ _ _ (by omega)]; exact (h2.2.1 i hi').1
    have egr : growS T v i i = v i := by rw [growS_at T v i (by omega), if_neg (by omega)]
    have ag := ages_ok ho i hi'
    have ea : alv (growS T v i) i = bt (v 16) i := by rw [alv_nat, growS_hi (by omega) (by omega)]
    rw [h1]
    refine Ret.t (by rw [h2.1.1]; exact hi') ?_
    rw [e16, isInV_bt ho.2.1.1 (by have := ho.2.1.2.1; omega), Int.toNat_natCast, eage, egr, w32e (n := v i + 1) (by omega) (by omega), w32e (n := (i : Int) + 1) (by omega) (by omega), putM_nat _ _ _ _ (by omega)]
    refine Ret.bind (R := fun M' => SC 34 (T 0 0) (growS T v (i + 1)) M' ∧ ∀ c, c ≠ 35 → M' c = M c) ?_ ?_
    · rw [growS_s, ea]
      by_cases hb : bt (v 16) i = true
      · rw [if_pos hb, if_pos (show 0 ≤ (i : Int) ∧ bt (v 16) i = true from ⟨by omega, hb⟩), egr]
        exact Ret.f (by omega) (Ret.letM (Ret.pure ⟨SC_age h2 o.2.1 hi' _, fun c hc => by rw [← h3 c hc]; funext j; exact mupd_ne _ _ hc⟩))
      · rw [if_neg hb, if_neg (fun q : 0 ≤ (i : Int) ∧ bt (v 16) i = true => hb q.2)]
        exact Ret.t rfl (Ret.pure ⟨h2, h3⟩)
    · rintro M1 ⟨g1, g2⟩
      exact Ret.pure ⟨by dsimp only; omega, g1, g2⟩
  · rintro s ⟨h1, h2, h3⟩
    exact Ret.f (by rw [h1, h2.1.1]; omega) (Ret.pure ⟨h2, h3⟩)
/-! LOANS come back -/
def comeV (T : TW) (s : Nat → Int) (l : Nat) : Nat → Int :=
  if alv s (s (21 + 5 * l)) = true ∧ alv s (s (22 + 5 * l)) = true then
    (if T 0 3 ≤ s (s (22 + 5 * l)).toNat - s (23 + 5 * l) ∧ s (s (21 + 5 * l)).toNat + s (23 + 5 * l) ≤ T 0 4 then passV (vset s (25 + 5 * l) 1) (s (22 + 5 * l)).toNat (s (21 + 5 * l)).toNat (s (23 + 5 * l)) else vset (vset s (25 + 5 * l) 1) 18 (w32 (s 18 + 1)))
  else vset s (25 + 5 * l) 1
def backS (T : TW) (v : Nat → Int) : Nat → Nat → Int := itF (fun l s => if s (25 + 5 * l) = 0 ∧ s (24 + 5 * l) = s 19 then comeV T s l else s) v
theorem backS_s (T : TW) (v : Nat → Int) (l : Nat) : backS T v (l + 1) = if backS T v l (25 + 5 * l) = 0 ∧ backS T v l (24 + 5 * l) = backS T v l 19 then comeV T (backS T v l) l else backS T v l := rfl
theorem okS_over {T : TW} {v : Nat → Int} (h : okS T v) (hn : T 0 0 ≤ 8) (l : Nat) : okS T (vset v (25 + 5 * l) 1) := by
  obtain ⟨k1, k2, k3, k4⟩ := h
  refine ⟨?_, ?_, fun p hp => ?_, fun i hi => ?_⟩
  · rw [vset_ne _ _ (by omega), vset_ne _ _ (by omega), vset_ne _ _ (by omega), vset_ne _ _ (by omega)]; exact k1
  · rw [vset_ne _ _ (by omega)]; exact k2
  · rw [vset_ne _ _ (by omega)]; exact k3 p hp
  · rw [vset_ne _ _ (by omega)] at hi
    rw [vset_ne _ _ (by omega), vset_ne _ _ (by omega), vset_ne _ _ (by omega)]
    have := k4 i hi
    refine ⟨this.1, this.2.1, this.2.2.1, this.2.2.2.1, this.2.2.2.2.1, this.2.2.2.2.2.1, this.2.2.2.2.2.2.1, ?_⟩
    by_cases hil : i = l
    · subst hil; rw [vset_same]; exact Or.inr rfl
    · rw [vset_ne _ _ (by omega)]; exact this.2.2.2.2.2.2.2
theorem okS_bad {T : TW} {v : Nat → Int} (h : okS T v) (hn : T 0 0 ≤ 8) (x : Int) : okS T (vset v 18 x) := by
  obtain ⟨k1, k2, k3, k4⟩ := h
  refine ⟨?_, ?_, fun p hp => ?_, fun i hi => ?_⟩
  · rw [vset_ne _ _ (by omega), vset_ne _ _ (by omega), vset_ne _ _ (by omega), vset_ne _ _ (by omega)]; exact k1
  · rw [vset_ne _ _ (by omega)]; exact k2
  · rw [vset_ne _ _ (by omega)]; exact k3 p hp
  · rw [vset_ne _ _ (by omega)] at hi
    rw [vset_ne _ _ (by omega), vset_ne _ _ (by omega), vset_ne _ _ (by omega), vset_ne _ _ (by omega)]
    exact k4 i hi
theorem comeV_ok {T : TW} {R : Nat → RL} {s : Nat → Int} (ho : WO T R s) {l : Nat} (hl : (l : Int) < s 17) : okS T (comeV T s l) ∧ comeV T s l 17 = s 17 ∧ comeV T s l 19 = s 19 := by
  have o := ho.1.1
  have k := ho.2.2.2.2 l hl
  have ho1 := okS_over ho.2 o.2.1 l
  have w1 : WO T R (vset s (25 + 5 * l) 1) := ⟨ho.1, ho1⟩
  unfold comeV
  by_cases h1 : alv s (s (21 + 5 * l)) = true ∧ alv s (s (22 + 5 * l)) = true
  · rw [if_pos h1]
    by_cases h2 : T 0 3 ≤ s (s (22 + 5 * l)).toNat - s (23 + 5 * l) ∧ s (s (21 + 5 * l)).toNat + s (23 + 5 * l) ≤ T 0 4
    · rw [if_pos h2]
      refine ⟨okS_pass w1 (by omega) (by omega) (by omega) (by omega) ?_ ?_, ?_, ?_⟩
      · rw [vset_ne _ _ (by omega)]; exact h2.1
      · rw [vset_ne _ _ (by omega)]; exact h2.2
      · rw [passV_hi (by omega) (by omega) (by omega), vset_ne _ _ (by omega)]
      · rw [passV_hi (by omega) (by omega) (by omega), vset_ne _ _ (by omega)]
    · rw [if_neg h2]
      exact ⟨okS_bad ho1 o.2.1 _, by rw [vset_ne _ _ (by omega), vset_ne _ _ (by omega)], by rw [vset_ne _ _ (by omega), vset_ne _ _ (by omega)]⟩
  · rw [if_neg h1]
    exact ⟨ho1, by rw [vset_ne _ _ (by omega)], by rw [vset_ne _ _ (by omega)]⟩
theorem backS_ok {T : TW} {R : Nat → RL} {v : Nat → Int} (ho : WO T R v) : ∀ l : Nat, (l : Int) ≤ v 17 → okS T (backS T v l) ∧ backS T v l 17 = v 17 ∧ backS T v l 19 = v 19 := by
  intro l
  induction l with
  | zero => intro _; exact ⟨ho.2, rfl, rfl⟩
  | succ l ih =>
    intro hl
    obtain ⟨k1, k2, k3⟩ := ih (by omega)
    rw [backS_s]
    split
    · obtain ⟨g1, g2, g3⟩ := comeV_ok (R := R) ⟨ho.1, k1⟩ (l := l) (by omega)
      exact ⟨g1, by rw [g2, k2], by rw [g3, k3]⟩
    · exact ⟨k1, k2, k3⟩
theorem SC_over {n : Int} {v : Nat → Int} {M : KM} (h : SC 34 n v M) (hn : n ≤ 8) {l : Nat} (hl : (l : Int) < v 17) (h17 : v 17 ≤ 30) : SC 34 n (vset v (25 + 5 * l) 1) (mupd M 34 8 (kior (M 34 8) (kishl 1 l))) := by
  obtain ⟨h1, h2, h3, h4⟩ := h
  obtain ⟨k1, k2, k3⟩ := kior_bit (a := M 34 8) (p := l) h3.1 (by omega) (by omega)
  refine ⟨?_, fun p hp => ?_, ?_, fun i hi => ?_⟩
  · rw [vset_ne _ _ (by omega), vset_ne _ _ (by omega), vset_ne _ _ (by omega), vset_ne _ _ (by omega), vset_ne _ _ (by omega), mupd_ne2 _ _ (by omega), mupd_ne2 _ _ (by omega), mupd_ne2 _ _ (by omega), mupd_ne2 _ _ (by omega), mupd_ne2 _ _ (by omega), mupd_ne2 _ _ (by omega)]
    exact h1
  · rw [mupd_ne _ _ (by omega), mupd_ne _ _ (by omega), vset_ne _ _ (by omega), vset_ne _ _ (by omega)]
    exact h2 p hp
  · rw [mupd_same, vset_ne _ _ (show 17 ≠ 25 + 5 * l by omega)]
    refine ⟨k1, ?_, fun i hi => by rw [k3, h3.2.2 i hi]; simp; omega⟩
    have := bt_lt8 k1 (n := 30) (fun i hi => by
      rw [k3]
      have : bt (M 34 8) i = false := Nat.testBit_lt_two_pow (Nat.lt_of_lt_of_le (by omega : (M 34 8).toNat < 2 ^ 30) (Nat.pow_le_pow_right (by omega) hi))
      rw [this]; simp; omega)
    omega
  · rw [vset_ne _ _ (by omega)] at hi
    rw [mupd_ne _ _ (by omega), mupd_ne _ _ (by omega), mupd_ne _ _ (by omega), mupd_ne _ _ (by omega), mupd_same, k3, vset_ne _ _ (by omega), vset_ne _ _ (by omega), vset_ne _ _ (by omega), vset_ne _ _ (by omega)]
    have := h4 i hi
    refine ⟨this.1, this.2.1, this.2.2.1, this.2.2.2.1, ?_⟩
    by_cases hil : i = l
    · subst hil; rw [vset_same]; simp
    · rw [vset_ne _ _ (by omega)]
      have e : (bt (M 34 8) i || decide (i = l)) = bt (M 34 8) i := by simp [hil]
      rw [e]; exact this.2.2.2.2
theorem X_returnYears {T : TW} {R : Nat → RL} {s : Nat → Int} {M : KM} (ho : WO T R s) {l : Nat} (hl : (l : Int) < s 17) (h : SC 34 (T 0 0) (vset s (25 + 5 * l) 1) M) : Ret (f_State_returnYears (s (22 + 5 * l)) (s (21 + 5 * l)) (s (23 + 5 * l)) (T 0 3) (T 0 4) M) (fun M' => SC 34 (T 0 0) (comeV T s l) M' ∧ ∀ c, (c < 34 ∨ 40 < c) → M' c = M c) := by
  have o := ho.1.1
  have k := ho.2.2.2.2 l hl
  have ho1 := okS_over ho.2 o.2.1 l
  have w1 : WO T R (vset s (25 + 5 * l) 1) := ⟨ho.1, ho1⟩
  have e3 : M 34 3 = s 16 := by rw [h.1.2.1, vset_ne _ _ (by omega)]
  have eal : ∀ i, isInV (s 16) i = if alv s i = true then 1 else 0 := by
    intro i
    rw [isInV_bt ho.2.1.1 (by have := ho.2.1.2.1; omega)]
    unfold alv
    exact ifc (by rw [Bool.and_eq_true, decide_eq_true_eq])
  obtain ⟨x, hx⟩ := Int.eq_ofNat_of_zero_le k.1
  obtain ⟨y, hy⟩ := Int.eq_ofNat_of_zero_le k.2.2.1
  unfold f_State_returnYears comeV
  rw [e3, eal, eal]
  by_cases hb : alv s (s (22 + 5 * l)) = true
  · rw [if_pos hb]
    refine Ret.f (by omega) ?_
    by_cases ha : alv s (s (21 + 5 * l)) = true
    · rw [if_pos ha, if_pos (show alv s (s (21 + 5 * l)) = true ∧ alv s (s (22 + 5 * l)) = true from ⟨ha, hb⟩)]
      refine Ret.f (by omega) ?_
      rw [e_canMove h o.2.1 (ages_ok w1) ⟨k.2.2.1, k.2.2.2.1⟩ ⟨k.1, k.2.1⟩ (by omega), ob_some, vset_ne s _ (show (s (22 + 5 * l)).toNat ≠ 25 + 5 * l by omega), vset_ne s _ (show (s (21 + 5 * l)).toNat ≠ 25 + 5 * l by omega)]
      refine Ret.bind (R := fun M' => SC 34 (T 0 0) (if T 0 3 ≤ s (s (22 + 5 * l)).toNat - s (23 + 5 * l) ∧ s (s (21 + 5 * l)).toNat + s (23 + 5 * l) ≤ T 0 4 then passV (vset s (25 + 5 * l) 1) (s (22 + 5 * l)).toNat (s (21 + 5 * l)).toNat (s (23 + 5 * l)) else vset (vset s (25 + 5 * l) 1) 18 (w32 (s 18 + 1))) M' ∧ ∀ c, (c < 34 ∨ 40 < c) → M' c = M c) ?_ (fun q hq => Ret.pure hq)
      by_cases hc : T 0 3 ≤ s (s (22 + 5 * l)).toNat - s (23 + 5 * l) ∧ s (s (21 + 5 * l)).toNat + s (23 + 5 * l) ≤ T 0 4
      · rw [if_pos hc, if_pos hc]
        refine Ret.f (by omega) ?_
        rw [hx, hy, Int.toNat_natCast, Int.toNat_natCast]
        refine Ret.bind (X_moveYears h o.2.1 (a := y) (b := x) (by omega) (by omega) _) ?_
        rintro M1 ⟨g1, g2⟩
        exact Ret.pure ⟨g1, fun c hc => g2 c (by omega)⟩
      · rw [if_neg hc, if_neg hc]
        have e7 : M 34 7 = s 18 := by rw [h.1.2.2.2.2.2, vset_ne _ _ (by omega)]
        refine Ret.t rfl (Ret.letM (Ret.pure ⟨?_, fun c hc => by funext j; exact mupd_ne _ _ (by omega)⟩))
        rw [e7]
        exact SC_num h 7 18 (by omega) o.2.1 _
    · rw [if_neg ha, if_neg (fun q : alv s (s (21 + 5 * l)) = true ∧ alv s (s (22 + 5 * l)) = true => ha q.1)]
      exact Ret.t rfl (Ret.pure ⟨h, fun c _ => rfl⟩)
  · rw [if_neg hb, if_neg (fun q : alv s (s (21 + 5 * l)) = true ∧ alv s (s (22 + 5 * l)) = true => hb q.2)]
    exact Ret.t rfl (Ret.pure ⟨h, fun c _ => rfl⟩)
theorem X_bringBack {T : TW} {R : Nat → RL} {v : Nat → Int} {M : KM} (h : SC 34 (T 0 0) v M) (ho : WO T R v) : Ret (f_State_bringBack (T 0 3) (T 0 4) M) (fun M' => SC 34 (T 0 0) (backS T v (v 17).toNat) M' ∧ ∀ c, (c < 34 ∨ 40 < c) → M' c = M c) := by
  have o := ho.1.1
  have os := ho.2.1
  unfold f_State_bringBack
  refine Ret.bind (R := fun M' => SC 34 (T 0 0) (backS T v (v 17).toNat) M' ∧ ∀ c, (c < 34 ∨ 40 < c) → M' c = M c) (Ret.loop (v 17).toNat (fun l s => s.1 = (l : Int) ∧ SC 34 (T 0 0) (backS T v l) s.2 ∧ ∀ c, (c < 34 ∨ 40 < c) → s.2 c = M c) ⟨rfl, h, fun c _ => rfl⟩ ?_ ?_) (fun q hq => Ret.pure hq)
  · rintro l s hl ⟨h1, h2, h3⟩
    obtain ⟨k1, k2, k3⟩ := backS_ok ho l (by omega)
    have hl' : (l : Int) < backS T v l 17 := by omega
    have hL := h2.2.2.2 l hl'
    have e6 : s.2 34 6 = v 17 := by rw [h2.1.2.2.2.2.1, k2]
    rw [h1]
    refine Ret.t (by rw [e6]; omega) ?_
    have h8 := h2.2.2.1
    rw [h2.1.2.2.1, isInV_bt h8.1 (by omega), Int.toNat_natCast, w32e (n := (l : Int) + 1) (by omega) (by omega), atM_nat _ _ _ (show l < 30 by omega), hL.2.2.2.1]
    refine Ret.bind (R := fun M' => SC 34 (T 0 0) (backS T v (l + 1)) M' ∧ ∀ c, (c < 34 ∨ 40 < c) → M' c = M c) ?_ ?_
    · by_cases hy : backS T v l (24 + 5 * l) = backS T v l 19
      · by_cases hb : bt (s.2 34 8) l = true
        · have e25 : backS T v l (25 + 5 * l) = 1 := by rw [← hL.2.2.2.2, if_pos hb]
          have hcond : ¬ (backS T v l (25 + 5 * l) = 0 ∧ backS T v l (24 + 5 * l) = backS T v l 19) := fun q => by omega
          rw [backS_s, if_neg hcond]
          refine Ret.t hy (Ret.f ?_ (Ret.pure ⟨h2, h3⟩))
          rw [if_pos ⟨by omega, hb⟩]; omega
        · have e25 : backS T v l (25 + 5 * l) = 0 := by rw [← hL.2.2.2.2, if_neg hb]
          rw [backS_s, if_pos (show backS T v l (25 + 5 * l) = 0 ∧ backS T v l (24 + 5 * l) = backS T v l 19 from ⟨e25, hy⟩)]
          refine Ret.t hy (Ret.t (by rw [if_neg (fun q => hb q.2)]) (Ret.letM ?_))
          have h5 := SC_over h2 o.2.1 hl' (by omega)
          have e1 : ∀ c, c ≠ 34 → mupd s.2 34 8 (kior (s.2 34 8) (kishl 1 l)) c l = s.2 c l := fun c hc => mupd_ne _ _ hc
          rw [atM_nat _ _ _ (show l < 30 by omega), atM_nat _ _ _ (show l < 30 by omega), atM_nat _ _ _ (show l < 30 by omega), e1 38 (by omega), e1 37 (by omega), e1 39 (by omega), hL.1, hL.2.1, hL.2.2.1]
          refine Ret.bind (X_returnYears (R := R) ⟨ho.1, k1⟩ hl' h5) ?_
          rintro M1 ⟨g1, g2⟩
          refine Ret.pure ⟨g1, fun c hc => ?_⟩
          rw [g2 c hc, ← h3 c hc]
          funext j
          exact mupd_ne _ _ (by omega)
      · have hcond : ¬ (backS T v l (25 + 5 * l) = 0 ∧ backS T v l (24 + 5 * l) = backS T v l 19) := fun q => hy q.2
        rw [backS_s, if_neg hcond]
        exact Ret.f hy (Ret.pure ⟨h2, h3⟩)
    · rintro M1 ⟨g1, g2⟩
      exact Ret.pure ⟨by dsimp only; omega, g1, g2⟩
  · rintro s ⟨h1, h2, h3⟩
    obtain ⟨k1, k2, k3⟩ := backS_ok ho (v 17).toNat (by omega)
    exact Ret.f (by rw [h1, h2.1.2.2.2.2.1, k2]; omega) (Ret.pure ⟨h2, h3⟩)
