/-! THE TAPE -/
def PC (L : Nat) (X : Nat → Int) (M : KM) : Prop := M 0 1 = (L : Int) ∧ ∀ i, i < L → M 1 i = X i
def PM (L : Nat) (X : Nat → Int) (M : KM) : Prop := M 382 2 = (L : Int) ∧ ∀ i, i < L → M 383 i = X i
def byteW (w : Int) (k : Nat) : Int := kw8 (kw8 (kishr w (24 - 8 * (k : Int))))
def word5 (a b c d e : Int) (k : Nat) : Int := if k < 4 then a else if k < 8 then b else if k < 12 then c else if k < 16 then d else e
def fedX (X : Nat → Int) (L : Nat) (a b c d e : Int) : Nat → Int := fun i => if i < L then X i else byteW (word5 a b c d e (i - L)) ((i - L) % 4)
def pT0 (k j : Nat) : Prop := k = 1 ∨ (k = 0 ∧ j = 1)
theorem X_putFour {M : KM} {L : Nat} (h : M 0 1 = (L : Int)) (hL : L + 4 ≤ 1600) (w : Int) : Ret (f_X_putFour w M) (fun M' => M' 0 1 = ((L + 4 : Nat) : Int) ∧ (∀ i, M' 1 i = if L ≤ i ∧ i < L + 4 then byteW w (i - L) else M 1 i) ∧ Fp pT0 M M') := by
  unfold f_X_putFour
  refine Ret.bind (R := fun M' => M' 0 1 = ((L + 4 : Nat) : Int) ∧ (∀ i, M' 1 i = if L ≤ i ∧ i < L + 4 then byteW w (i - L) else M 1 i) ∧ Fp pT0 M M') (Ret.loop 4 (fun k s => s.1 = 24 - 8 * (k : Int) ∧ s.2 0 1 = ((L + k : Nat) : Int) ∧ (∀ i, s.2 1 i = if L ≤ i ∧ i < L + k then byteW w (i - L) else M 1 i) ∧ Fp pT0 M s.2) ⟨rfl, h, fun i => by rw [if_neg (by omega)], Fp.rf⟩ ?_ ?_) (fun q hq => Ret.pure hq)
  · rintro k s hk ⟨h1, h2, h3, h4⟩
    rw [h1, h2]
    refine Ret.f (by omega) (Ret.bind (R := fun M' => M' = mupd (mupd s.2 1 (L + k) (byteW w k)) 0 1 ((L + k + 1 : Nat) : Int)) ?_ ?_)
    · refine Ret.f (by omega) (Ret.t (by omega) (Ret.t (by omega) (Ret.letM (Ret.letM (Ret.pure ?_)))))
      rw [mupd_ne _ _ (show 0 ≠ 1 by omega), h2, Int.toNat_natCast, w32e (by omega) (by omega)]
      rfl
    · rintro M1 rfl
      refine Ret.pure ⟨?_, by dsimp only; exact mupd_same _ _ _ _, fun i => ?_, (h4.upd (Or.inl rfl)).upd (Or.inr ⟨rfl, rfl⟩)⟩
      · dsimp only; rw [w32e (by omega) (by omega)]; omega
      · dsimp only
        rw [mupd_ne _ _ (by omega)]
        by_cases hi : i = L + k
        · rw [hi, mupd_same, if_pos (by omega), show L + k - L = k by omega]
        · rw [mupd_ne2 _ _ hi, h3]
          exact ifc (by omega)
  · rintro s ⟨h1, h2, h3, h4⟩
    exact Ret.t (by omega) (Ret.pure ⟨h2, h3, h4⟩)
def feedA (L : Nat) : Int := if L + 20 ≤ 1600 then (L : Int) + 20 else -1
theorem X_feed {M : KM} {L : Nat} {X : Nat → Int} (h : PC L X M) (hL : L ≤ 1600) (a b c d e : Int) : Ret (f_X_feed a b c d e M) (fun q => if L + 20 ≤ 1600 then q.1 = (L : Int) + 20 ∧ PC (L + 20) (fedX X L a b c d e) q.2 ∧ Fp pT0 M q.2 else q = (-1, M)) := by
  unfold f_X_feed
  rw [h.1, w32e (by omega) (by omega)]
  by_cases hc : L + 20 ≤ 1600
  · refine Ret.t (by omega) ?_
    refine Ret.bind (X_putFour h.1 (by omega) a) ?_
    rintro M1 ⟨a1, a2, a3⟩
    refine Ret.bind (X_putFour a1 (by omega) b) ?_
    rintro M2 ⟨b1, b2, b3⟩
    refine Ret.bind (X_putFour b1 (by omega) c) ?_
    rintro M3 ⟨c1, c2, c3⟩
    refine Ret.bind (X_putFour c1 (by omega) d) ?_
    rintro M4 ⟨d1, d2, d3⟩
    refine Ret.bind (X_putFour d1 (by omega) e) ?_
    rintro M5 ⟨e1, e2, e3⟩
    refine Ret.pure ?_
    rw [if_pos hc]
    refine ⟨by dsimp only; rw [e1]; omega, ⟨by dsimp only; rw [e1], fun i hi => ?_⟩, (((a3.tr b3).tr c3).tr d3).tr e3⟩
    dsimp only
    rw [e2, d2, c2, b2, a2]
    unfold fedX word5
    by_cases h0 : i < L
    · rw [if_neg (by omega), if_neg (by omega), if_neg (by omega), if_neg (by omega), if_neg (by omega), if_pos h0]
      exact h.2 i h0
    · by_cases h1 : i < L + 4
      · rw [if_neg (by omega), if_neg (by omega), if_neg (by omega), if_neg (by omega), if_pos (by omega), if_neg (by omega), if_pos (by omega)]
        congr 1; omega
      · by_cases h2 : i < L + 8
        · rw [if_neg (by omega), if_neg (by omega), if_neg (by omega), if_pos (by omega), if_neg (by omega), if_neg (by omega), if_pos (by omega)]
          congr 1; omega
        · by_cases h3 : i < L + 12
          · rw [if_neg (by omega), if_neg (by omega), if_pos (by omega), if_neg (by omega), if_neg (by omega), if_neg (by omega), if_pos (by omega)]
            congr 1; omega
          · by_cases h4 : i < L + 16
            · rw [if_neg (by omega), if_pos (by omega), if_neg (by omega), if_neg (by omega), if_neg (by omega), if_neg (by omega), if_pos (by omega)]
              congr 1; omega
            · rw [if_pos (by omega), if_neg (by omega), if_neg (by omega), if_neg (by omega), if_neg (by omega), if_neg (by omega)]
              congr 1; omega
  · exact Ret.f (by omega) (Ret.pure (by rw [if_neg hc]))
theorem kiand3 : ∀ k : Nat, k < 20 → w32 (24 - w32 (8 * kiand (k : Int) 3)) = 24 - 8 * ((k % 4 : Nat) : Int) := by decide +kernel
def pTM (k j : Nat) : Prop := k = 383 ∨ (k = 382 ∧ j = 2)
theorem M_feed {M : KM} {L : Nat} {X : Nat → Int} (h : PM L X M) (hL : L ≤ 1600) (a b c d e : Int) : Ret (f_M_feed a b c d e M) (fun q => if L + 20 ≤ 1600 then q.1 = (L : Int) + 20 ∧ PM (L + 20) (fedX X L a b c d e) q.2 ∧ Fp pTM M q.2 else q = (-1, M)) := by
  unfold f_M_feed
  rw [h.1, w32e (by omega) (by omega)]
  by_cases hc : L + 20 ≤ 1600
  · refine Ret.t (by omega) ?_
    refine Ret.bind (R := fun M' => (∀ i, M' 383 i = if L ≤ i ∧ i < L + 20 then byteW (word5 a b c d e (i - L)) ((i - L) % 4) else M 383 i) ∧ ∀ c, c ≠ 383 → M' c = M c) (Ret.loop 20 (fun k s => s.1 = (k : Int) ∧ (∀ i, s.2 383 i = if L ≤ i ∧ i < L + k then byteW (word5 a b c d e (i - L)) ((i - L) % 4) else M 383 i) ∧ ∀ c, c ≠ 383 → s.2 c = M c) ⟨rfl, fun i => by rw [if_neg (by omega)], fun c _ => rfl⟩ ?_ ?_) ?_
    · rintro k s hk ⟨h1, h2, h3⟩
      have e2 : s.2 382 2 = (L : Int) := by rw [h3 382 (by omega)]; exact h.1
      rw [h1]
      refine Ret.t (by omega) ?_
      have ew : (if (k : Int) < 4 then some a else (if (k : Int) < 8 then some b else (if (k : Int) < 12 then some c else (if (k : Int) < 16 then some d else some e)))) = some (word5 a b c d e k) := by
        unfold word5
        by_cases z1 : k < 4
        · rw [if_pos (by omega), if_pos z1]
        · rw [if_neg (by omega), if_neg z1]
          by_cases z2 : k < 8
          · rw [if_pos (by omega), if_pos z2]
          · rw [if_neg (by omega), if_neg z2]
            by_cases z3 : k < 12
            · rw [if_pos (by omega), if_pos z3]
            · rw [if_neg (by omega), if_neg z3]
              by_cases z4 : k < 16
              · rw [if_pos (by omega), if_pos z4]
              · rw [if_neg (by omega), if_neg z4]
      rw [ew, ob_some, e2, w32e (n := (L : Int) + k) (by omega) (by omega), kiand3 k hk, w32e (n := (k : Int) + 1) (by omega) (by omega)]
      refine Ret.t (by omega) (Ret.letM (Ret.pure ⟨rfl, fun i => ?_, fun c hc => by funext z; dsimp only; rw [mupd_ne _ _ hc, h3 c hc]⟩))
      dsimp only
      rw [show ((L : Int) + k).toNat = L + k by omega]
      by_cases hi : i = L + k
      · rw [hi, mupd_same, if_pos (by omega), show L + k - L = k by omega]; rfl
      · rw [mupd_ne2 _ _ hi, h2]
        exact ifc (by omega)
    · rintro s ⟨h1, h2, h3⟩
      exact Ret.f (by omega) (Ret.pure ⟨h2, h3⟩)
    · rintro M1 ⟨y1, y2⟩
      have e2 : M1 382 2 = (L : Int) := by rw [y2 382 (by omega)]; exact h.1
      rw [e2, w32e (by omega) (by omega)]
      refine Ret.letM (Ret.pure ?_)
      rw [if_pos hc]
      refine ⟨by dsimp only; rw [mupd_same], ⟨by dsimp only; rw [mupd_same]; omega, fun i hi => ?_⟩, fun k j hk => ?_⟩
      · dsimp only
        rw [mupd_ne _ _ (by omega), y1]
        unfold fedX
        by_cases h0 : i < L
        · rw [if_neg (by omega), if_pos h0]; exact h.2 i h0
        · rw [if_pos (by omega), if_neg h0]
      · unfold pTM at hk
        dsimp only
        rw [mupd_at, if_neg (by omega), y2 k (by omega)]
  · exact Ret.f (by omega) (Ret.pure (by rw [if_neg hc]))
theorem X_end {M : KM} {L : Nat} {X : Nat → Int} (h : PC L X M) (n : Int) : Ret (f_X_end n M) (fun q => if 0 ≤ n ∧ n ≤ L then q.1 = n ∧ PC n.toNat X q.2 ∧ Fp pT0 M q.2 else q = (-1, M)) := by
  unfold f_X_end
  rw [h.1]
  by_cases h0 : n < 0
  · exact Ret.t h0 (Ret.pure (by rw [if_neg (by omega)]))
  · refine Ret.f h0 ?_
    by_cases h1 : n ≤ L
    · refine Ret.t h1 (Ret.letM (Ret.pure ?_))
      rw [if_pos (by omega)]
      exact ⟨rfl, ⟨by dsimp only; rw [mupd_same]; omega, fun i hi => by dsimp only; rw [mupd_ne _ _ (by omega)]; exact h.2 i (by omega)⟩, Fp.rf.upd (Or.inr ⟨rfl, rfl⟩)⟩
    · exact Ret.f h1 (Ret.pure (by rw [if_neg (by omega)]))
theorem M_end {M : KM} {L : Nat} {X : Nat → Int} (h : PM L X M) (n : Int) : Ret (f_M_end n M) (fun q => if 0 ≤ n ∧ n ≤ L then q.1 = n ∧ PM n.toNat X q.2 ∧ Fp pTM M q.2 else q = (-1, M)) := by
  unfold f_M_end
  rw [h.1]
  by_cases h0 : n < 0
  · exact Ret.t h0 (Ret.pure (by rw [if_neg (by omega)]))
  · refine Ret.f h0 ?_
    by_cases h1 : n ≤ L
    · refine Ret.t h1 (Ret.letM (Ret.pure ?_))
      rw [if_pos (by omega)]
      exact ⟨rfl, ⟨by dsimp only; rw [mupd_same]; omega, fun i hi => by dsimp only; rw [mupd_ne _ _ (by omega)]; exact h.2 i (by omega)⟩, Fp.rf.upd (Or.inr ⟨rfl, rfl⟩)⟩
    · exact Ret.f h1 (Ret.pure (by rw [if_neg (by omega)]))
/-! TARGETS -/
def GC_ (tg : Nat → Bool) (ta : Nat → Int) (M : KM) : Prop := (0 ≤ M 0 9 ∧ M 0 9 < 256 ∧ ∀ p, bt (M 0 9) p = tg p) ∧ ∀ p, p < 8 → tg p = true → M 331 p = ta p
def GM_ (tg : Nat → Bool) (ta : Nat → Int) (M : KM) : Prop := ∀ p, p < 8 → M 414 p = if tg p = true then ta p else -1
/-- TARGETS are ages of people -/
def okG (T : TW) (tg : Nat → Bool) (ta : Nat → Int) : Prop := ∀ p, tg p = true → (p : Int) < T 0 0 ∧ T 0 3 ≤ ta p ∧ ta p ≤ T 0 4
def tgN (tg : Nat → Bool) : Int := (cntN tg 8 : Int)
def pGC (k j : Nat) : Prop := k = 331 ∨ (k = 0 ∧ j = 9)
theorem GC_.congr {tg : Nat → Bool} {ta : Nat → Int} {M M' : KM} (h : GC_ tg ta M) (he : ∀ k j, pGC k j → M' k j = M k j) : GC_ tg ta M' := by
  unfold GC_ at h ⊢
  rw [he 0 9 (Or.inr ⟨rfl, rfl⟩)]
  exact ⟨h.1, fun p hp ht => by rw [he 331 p (Or.inl rfl)]; exact h.2 p hp ht⟩
theorem GC_pop {tg : Nat → Bool} {ta : Nat → Int} {M : KM} (h : GC_ tg ta M) : pop8 (M 0 9) = cntN tg 8 := by
  unfold pop8 cntN
  apply List.countP_congr
  intro p _
  rw [h.1.2.2 p]
theorem X_hush {tg : Nat → Bool} {ta : Nat → Int} {M : KM} (h : GC_ tg ta M) : Ret (f_X_hush M) (fun q => q.1 = tgN tg ∧ GC_ (fun _ => false) ta q.2 ∧ Fp pGC M q.2) := by
  unfold f_X_hush
  rw [e_bitCount _ h.1.1 h.1.2.1, ob_some, GC_pop h]
  refine Ret.letM (Ret.pure ⟨rfl, ⟨⟨by dsimp only; rw [mupd_same]; omega, by dsimp only; rw [mupd_same]; omega, fun p => by dsimp only; rw [mupd_same]; simp [bt]⟩, fun p _ hp => by cases hp⟩, Fp.rf.upd (Or.inr ⟨rfl, rfl⟩)⟩)
theorem M_targets {tg : Nat → Bool} {ta : Nat → Int} {M : KM} {T : TW} {R : Nat → RL} (ho : okT T R) (h : GM_ tg ta M) (hk : okG T tg ta) : f_M_targets M = some (tgN tg) := by
  have o := ho.1
  unfold f_M_targets
  rw [wh_for (fun i => ((cntN tg i : Int), (i : Int))) 8 (tgN tg) (by rfl) ?_ ?_, ob_some]
  · intro i hi
    dsimp only
    have hl := cntN_le tg i
    rw [if_pos (by omega), if_pos (by omega), Int.toNat_natCast, h i hi, w32e (n := (i : Int) + 1) (by omega) (by omega), cntN_s]
    by_cases ht : tg i = true
    · have := hk i ht
      rw [if_pos ht, if_neg (by omega), ob_some, letI_e, w32e (by omega) (by omega), if_pos ht]; rfl
    · rw [if_neg ht, if_pos (by omega), ob_some, letI_e, w32e (by omega) (by omega), if_neg ht]; rfl
  · dsimp only
    rw [if_neg (by omega)]; rfl
theorem M_hush {tg : Nat → Bool} {ta : Nat → Int} {M : KM} {T : TW} {R : Nat → RL} (ho : okT T R) (h : GM_ tg ta M) (hk : okG T tg ta) : Ret (f_M_hush M) (fun q => q.1 = tgN tg ∧ GM_ (fun _ => false) ta q.2 ∧ Fp (fun k _ => k = 414) M q.2) := by
  unfold f_M_hush
  rw [M_targets ho h hk, ob_some]
  refine Ret.bind (R := fun M' => GM_ (fun _ => false) ta M' ∧ Fp (fun k _ => k = 414) M M') (Ret.loop 8 (fun i s => s.1 = (i : Int) ∧ (∀ p, p < i → s.2 414 p = -1) ∧ Fp (fun k _ => k = 414) M s.2) ⟨rfl, fun p hp => absurd hp (Nat.not_lt_zero _), Fp.rf⟩ ?_ ?_) (fun q hq => Ret.pure ⟨rfl, hq.1, hq.2⟩)
  · rintro i s hi ⟨h1, h2, h3⟩
    rw [h1, w32e (n := (i : Int) + 1) (by omega) (by omega)]
    refine Ret.t (by omega) (Ret.t (by omega) (Ret.letM (Ret.pure ⟨rfl, fun p hp => ?_, h3.upd rfl⟩)))
    dsimp only
    rw [Int.toNat_natCast]
    by_cases hpi : p = i
    · subst hpi; rw [mupd_same]
    · rw [mupd_ne2 _ _ hpi]; exact h2 p (by omega)
  · rintro s ⟨h1, h2, h3⟩
    exact Ret.f (by omega) (Ret.pure ⟨fun p hp => h2 p hp, h3⟩)
def tgS (tg : Nat → Bool) (p : Nat) : Nat → Bool := fun q => tg q || decide (q = p)
theorem X_target {T : TW} {R : Nat → RL} {v : Nat → Int} {tg : Nat → Bool} {ta : Nat → Int} {M : KM} (hw : WC T R v M) (ho : WO T R v) (h : GC_ tg ta M) (p a : Int) : Ret (f_X_target p a M) (fun q => if (0 ≤ p ∧ p < T 0 0) ∧ (T 0 3 ≤ a ∧ a ≤ T 0 4) then q.1 = tgN (tgS tg p.toNat) ∧ GC_ (tgS tg p.toNat) (vset ta p.toNat a) q.2 ∧ Fp pGC M q.2 else q = (-1, M)) := by
  have o := ho.1.1
  unfold f_X_target
  rw [e_X_isPerson, ob_some, hw.n]
  by_cases hp : 0 ≤ p ∧ p < T 0 0
  · rw [if_pos hp]
    refine Ret.f (by omega) ?_
    rw [e_X_isAge, ob_some, hw.least, hw.most]
    by_cases ha : T 0 3 ≤ a ∧ a ≤ T 0 4
    · rw [if_pos ha]
      refine Ret.f (by omega) (Ret.letM (Ret.letM ?_))
      obtain ⟨n, rfl⟩ := Int.eq_ofNat_of_zero_le hp.1
      rw [putM_nat _ _ _ _ (by omega), mupd_ne _ _ (show 0 ≠ 331 by omega)]
      obtain ⟨k1, k2, k3⟩ := kior_bit (a := M 0 9) (p := n) h.1.1 (by have := h.1.2.1; omega) (by omega)
      have k4 : ∀ q, bt (kior (M 0 9) (kishl 1 n)) q = tgS tg n q := fun q => by rw [k3, h.1.2.2]; rfl
      have k5 : kior (M 0 9) (kishl 1 n) < 256 := by
        have := bt_lt8 k1 (n := 8) (fun j hj => by
          rw [k3]
          have : bt (M 0 9) j = false := Nat.testBit_lt_two_pow (Nat.lt_of_lt_of_le (by have := h.1.2.1; omega : (M 0 9).toNat < 2 ^ 8) (Nat.pow_le_pow_right (by omega) hj))
          rw [this]; simp; omega)
        omega
      have hG : GC_ (tgS tg n) (vset ta n a) (mupd (mupd M 331 n a) 0 9 (kior (M 0 9) (kishl 1 n))) := by
        refine ⟨⟨by rw [mupd_same]; exact k1, by rw [mupd_same]; exact k5, fun q => by rw [mupd_same]; exact k4 q⟩, fun q hq ht => ?_⟩
        rw [mupd_ne _ _ (by omega)]
        by_cases hqn : q = n
        · subst hqn; rw [mupd_same, vset_same]
        · rw [mupd_ne2 _ _ hqn, vset_ne _ _ hqn]
          refine h.2 q hq ?_
          unfold tgS at ht
          simpa [hqn] using ht
      rw [e_bitCount _ hG.1.1 hG.1.2.1, ob_some, GC_pop hG]
      refine Ret.pure ?_
      rw [if_pos ⟨hp, ha⟩]
      exact ⟨rfl, hG, (Fp.rf.upd (Or.inl rfl)).upd (Or.inr ⟨rfl, rfl⟩)⟩
    · rw [if_neg ha]
      exact Ret.t rfl (Ret.pure (by rw [if_neg (fun q : (0 ≤ p ∧ p < T 0 0) ∧ (T 0 3 ≤ a ∧ a ≤ T 0 4) => ha q.2)]))
  · rw [if_neg hp]
    exact Ret.t rfl (Ret.pure (by rw [if_neg (fun q : (0 ≤ p ∧ p < T 0 0) ∧ (T 0 3 ≤ a ∧ a ≤ T 0 4) => hp q.1)]))
theorem okG_set {T : TW} {tg : Nat → Bool} {ta : Nat → Int} (h : okG T tg ta) {p : Nat} {a : Int} (hp : (p : Int) < T 0 0) (ha : T 0 3 ≤ a ∧ a ≤ T 0 4) : okG T (tgS tg p) (vset ta p a) := by
  intro q hq
  by_cases hqp : q = p
  · subst hqp; rw [vset_same]; exact ⟨hp, ha⟩
  · rw [vset_ne _ _ hqp]
    refine h q ?_
    unfold tgS at hq
    simpa [hqp] using hq
theorem M_target {b : Nat} {T : TW} {R : Nat → RL} {v : Nat → Int} {tg : Nat → Bool} {ta : Nat → Int} {M : KM} (hw : WM b T R v M) (ho : WO T R v) (h : GM_ tg ta M) (hk : okG T tg ta) (p a : Int) : Ret (f_M_target p a M) (fun q => if (0 ≤ p ∧ p < T 0 0) ∧ (T 0 3 ≤ a ∧ a ≤ T 0 4) then q.1 = tgN (tgS tg p.toNat) ∧ GM_ (tgS tg p.toNat) (vset ta p.toNat a) q.2 ∧ Fp (fun k _ => k = 414) M q.2 else q = (-1, M)) := by
  have o := ho.1.1
  unfold f_M_target
  rw [M_isPerson hw ho, ob_some]
  by_cases hp : 0 ≤ p ∧ p < T 0 0
  · rw [if_pos hp]
    refine Ret.f (by omega) ?_
    rw [M_isAge hw, ob_some]
    by_cases ha : T 0 3 ≤ a ∧ a ≤ T 0 4
    · rw [if_pos ha]
      obtain ⟨n, rfl⟩ := Int.eq_ofNat_of_zero_le hp.1
      refine Ret.f (by omega) (Ret.t (by omega) (Ret.letM ?_))
      rw [Int.toNat_natCast]
      have hG : GM_ (tgS tg n) (vset ta n a) (mupd M 414 n a) := by
        intro q hq
        by_cases hqn : q = n
        · subst hqn; rw [mupd_same, vset_same, if_pos (by simp [tgS])]
        · rw [mupd_ne2 _ _ hqn, vset_ne _ _ hqn, h q hq]
          have : tgS tg n q = tg q := by unfold tgS; simp [hqn]
          rw [this]
      rw [M_targets ho.1 hG (okG_set hk hp.2 ha), ob_some]
      refine Ret.pure ?_
      rw [if_pos ⟨hp, ha⟩]
      exact ⟨rfl, hG, Fp.rf.upd rfl⟩
    · rw [if_neg ha]
      exact Ret.t rfl (Ret.pure (by rw [if_neg (fun q : (0 ≤ p ∧ p < T 0 0) ∧ (T 0 3 ≤ a ∧ a ≤ T 0 4) => ha q.2)]))
  · rw [if_neg hp]
    exact Ret.t rfl (Ret.pure (by rw [if_neg (fun q : (0 ≤ p ∧ p < T 0 0) ∧ (T 0 3 ≤ a ∧ a ≤ T 0 4) => hp q.1)]))
