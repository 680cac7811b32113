/-! SAFEST: the second side -/
theorem M_layPerson {b : Nat} {T : TW} {R : Nat → RL} {v : Nat → Int} {M : KM} (h : WM b T R v M) (ho : WO T R v) {p n k : Nat} (hp : (p : Int) < T 0 0) (hn : n < 8) (hk : k ≤ 1200) (h3 : ∀ a, a ≤ sfS T → M 423 a = sfG T R v a) (h2 : ∀ j, j ≤ k → M 422 ((p + 1) * 1201 + j) = Vs (sfG T R v) (sfS T) n j) :
    f_M_layPerson (p : Int) (k : Int) M = some (Vs (sfG T R v) (sfS T) (if sfA v p = true then n + 1 else n) k) := by
  have o := ho.1.1
  have hs := sfS_R ho
  have hg : ∀ a, a ≤ sfS T → 0 ≤ sfG T R v a ∧ sfG T R v a ≤ 100 := fun a _ => sfG_R T R v a
  unfold f_M_layPerson
  rw [e_M_isAlive (h.all (by omega)) ho.2 (by omega) (by omega), ob_some, w32e (n := (p : Int) + 1) (by omega) (by omega), show (p : Int) + 1 = ((p + 1 : Nat) : Int) by omega, (mul_1201 (x := p + 1) (by omega)).2, w32e (n := (((p + 1) * 1201 : Nat) : Int) + (k : Int)) (by omega) (by omega)]
  by_cases ha : sfA v p = true
  · have ha' : alv v p = true := ha
    rw [if_pos ha', if_neg (by omega), if_pos ha, M_bestAge h ho (by omega) hn hk h3 h2, ob_some]
    by_cases hf : k ≤ (n + 1) * sfS T
    · have hle := argA_le hg hn hf
      have hok := (argI_ok hg hn hf).2.1
      have hcell := h2 (k - argA (sfG T R v) (sfS T) n k) (by omega)
      have hr := Vs_r hg (n := n + 1) (by omega) hf
      rw [if_pos hf, if_neg (show ¬ ((argA (sfG T R v) (sfS T) n k : Nat) : Int) < 0 by omega), w32e (n := (((p + 1) * 1201 : Nat) : Int) + (k : Int) - ((argA (sfG T R v) (sfS T) n k : Nat) : Int)) (by omega) (by omega)]
      have e5 : ((((p + 1) * 1201 : Nat) : Int) + (k : Int) - ((argA (sfG T R v) (sfS T) n k : Nat) : Int)).toNat = (p + 1) * 1201 + (k - argA (sfG T R v) (sfS T) n k) := by omega
      rw [e5, hcell, Int.toNat_natCast, h3 _ hle.1]
      have hh : sfG T R v (argA (sfG T R v) (sfS T) n k) + Vs (sfG T R v) (sfS T) n (k - argA (sfG T R v) (sfS T) n k) = Vs (sfG T R v) (sfS T) (n + 1) k := hok
      rw [hh, w32e (n := Vs (sfG T R v) (sfS T) (n + 1) k) (by omega) (by omega), if_pos (show 0 ≤ ((argA (sfG T R v) (sfS T) n k : Nat) : Int) ∧ ((argA (sfG T R v) (sfS T) n k : Nat) : Int) < 151 by omega), if_pos (by omega), ob_some]
    · rw [if_neg hf, if_pos (show (-1 : Int) < 0 by omega), ob_some, Vs_no _ _ (by omega)]
  · have ha' : ¬ alv v p = true := ha
    rw [if_neg ha', if_pos rfl, if_neg ha, if_pos (by omega), show (((p + 1) * 1201 : Nat) : Int) + (k : Int) = (((p + 1) * 1201 + k : Nat) : Int) by omega, Int.toNat_natCast, h2 k (Nat.le_refl _)]
theorem M_safest {b : Nat} {T : TW} {R : Nat → RL} {v : Nat → Int} {M : KM} (h : WM b T R v M) (ho : WO T R v) : Ret (f_M_safest M) (fun q => q.1 = (safeA T R v).1 ∧ LM (safeA T R v).2 q.2 ∧ Fp pSM M q.2) := by
  have o := ho.1.1
  have hs := sfS_R ho
  obtain ⟨L, hL⟩ := Int.eq_ofNat_of_zero_le o.2.2.2.2.2.2.1
  obtain ⟨n, hn⟩ := Int.eq_ofNat_of_zero_le o.1
  have hnn : (T 0 0).toNat = n := by omega
  have hY8 := sfY_1200 ho
  have hYC := sfY_le ho
  rw [hnn] at hY8 hYC
  have hYn := hY8 n (Nat.le_refl _)
  have hC8 : sfC T v ≤ n := by have := cntN_le (sfA v) (T 0 0).toNat; unfold sfC; omega
  have hYC' : sfY T v n ≤ sfC T v * sfS T := by unfold sfC; rw [hnn]; exact hYC n (Nat.le_refl _)
  have hg : ∀ a, a ≤ sfS T → 0 ≤ sfG T R v a ∧ sfG T R v a ≤ 100 := fun a _ => sfG_R T R v a
  have hC : cntN (sfA v) n = sfC T v := by rw [← hnn]; rfl
  unfold f_M_safest
  refine Ret.bind (R := fun y => y = (sfY T v n : Int)) (Ret.loop n (fun p t => t.2 = (p : Int) ∧ t.1 = (sfY T v p : Int)) ⟨rfl, rfl⟩ ?_ ?_) ?_
  · rintro p t hp ⟨t1, t2⟩
    have hyl := hY8 p (by omega)
    have hp' : (p : Int) < T 0 0 := by omega
    have hv := ho.2.2.2.1 p hp'
    have hag := h.age ho (p := p) (by omega) hp'
    rw [t1, t2, e_M_many h.1, ob_some, h.n, hn, w32e (n := (p : Int) + 1) (by omega) (by omega), e_M_isAlive (h.all (by omega)) ho.2 (by omega) (by omega), ob_some, hag.1, hag.2.2, h.bl.2.1, Int.toNat_natCast, w32e (n := v p - T 0 3) (by omega) (by omega)]
    refine Ret.t (by omega) ?_
    refine Ret.bind (R := fun x => x = if sfA v p = true then v p - T 0 3 else 0) ?_ ?_
    · by_cases ha : sfA v p = true
      · refine Ret.f (by rw [if_pos (show alv v p = true from ha)]; omega) (Ret.t hag.2.1 (Ret.t h.bl.1 (Ret.pure ?_)))
        rw [if_pos ha]
      · refine Ret.t (by rw [if_neg (show ¬ alv v p = true from ha)]) (Ret.pure ?_)
        rw [if_neg ha]
    · rintro x rfl
      refine Ret.letI (Ret.pure ⟨rfl, ?_⟩)
      dsimp only
      rw [sfY_s]
      split <;> rw [w32e (by omega) (by omega)] <;> omega
  · rintro t ⟨t1, t2⟩
    rw [t1, t2, e_M_many h.1, ob_some, h.n, hn]
    exact Ret.f (by omega) (Ret.pure rfl)
  rintro y rfl
  refine Ret.t h.bl.1 (Ret.letI ?_)
  rw [h.bl.2.1, hL]
  refine Ret.bind (R := fun M1 => Fp pSM M M1 ∧ ∀ a, a ≤ sfS T → M1 423 a = sfG T R v a) (Ret.loop (sfS T + 1) (fun i s => s.1 = ((L + i : Nat) : Int) ∧ Fp pSM M s.2 ∧ ∀ a, a < i → s.2 423 a = sfG T R v a) ⟨rfl, Fp.rf, fun a ha => absurd ha (Nat.not_lt_zero _)⟩ ?_ ?_) ?_
  · rintro i s hi ⟨k1, k2, k3⟩
    have hw : WM b T R v s.2 := h.congr fun k j hk => k2 k j (pR_pSM hk)
    rw [k1, hw.bl.2.2, w32e (n := ((L + i : Nat) : Int) + 1) (by omega) (by omega)]
    refine Ret.t hw.bl.1 (Ret.t (by omega) (Ret.t hw.bl.1 (Ret.bind (M_oddsOf hw ho _) ?_)))
    rintro q ⟨q1, q2⟩
    have hw2 := hw.w q2
    rw [q1, hw.bl.2.1, w32e (n := ((L + i : Nat) : Int) - T 0 3) (by omega) (by omega), show ((L + i : Nat) : Int) - T 0 3 = (i : Int) by omega, Int.toNat_natCast]
    refine Ret.t (by omega) (Ret.letM (Ret.pure ⟨by dsimp only; omega, (k2.tr (q2.mono fun _ _ => Or.inl)).upd (by unfold pSM; omega), fun a ha => ?_⟩))
    dsimp only
    by_cases hai : a = i
    · subst hai
      rw [mupd_same]
      unfold sfG
      rw [hL]; congr 1
    · rw [mupd_ne2 _ _ hai, q2 423 a (by unfold pW; omega)]
      exact k3 a (by omega)
  · rintro s ⟨k1, k2, k3⟩
    have hw : WM b T R v s.2 := h.congr fun k j hk => k2 k j (pR_pSM hk)
    rw [k1, hw.bl.2.2]
    exact Ret.t hw.bl.1 (Ret.f (by omega) (Ret.pure ⟨k2, fun a ha => k3 a (by omega)⟩))
  rintro M1 ⟨f1, h3⟩
  have hw1 : WM b T R v M1 := h.congr fun k j hk => f1 k j (pR_pSM hk)
  refine Ret.bind (R := fun M2 => (∀ j, j ≤ sfY T v n → M2 422 (n * 1201 + j) = Vs (sfG T R v) (sfS T) 0 j) ∧ ∀ c, c ≠ 422 → M2 c = M1 c) (Ret.loop (sfY T v n + 1) (fun i s => s.1 = (i : Int) ∧ (∀ j, j < i → s.2 422 (n * 1201 + j) = Vs (sfG T R v) (sfS T) 0 j) ∧ ∀ c, c ≠ 422 → s.2 c = M1 c) ⟨rfl, fun j hj => absurd hj (Nat.not_lt_zero _), fun c _ => rfl⟩ ?_ ?_) ?_
  · rintro i s hi ⟨k1, k2, k3⟩
    have hw : WM b T R v s.2 := hw1.congr fun k j hk => by rw [k3 k (by unfold pR at hk; omega)]
    rw [k1, e_M_many hw.1, ob_some, hw.n, hn, w32e (n := (i : Int) + 1) (by omega) (by omega), (mul_1201 (x := n) (by omega)).2, w32e (n := ((n * 1201 : Nat) : Int) + (i : Int)) (by omega) (by omega), show ((n * 1201 : Nat) : Int) + (i : Int) = ((n * 1201 + i : Nat) : Int) by omega, Int.toNat_natCast]
    refine Ret.t (by omega) (Ret.bind (R := fun x => x = Vs (sfG T R v) (sfS T) 0 i) (Ret.br (fun hz => Ret.pure ?_) (fun hz => Ret.pure ?_)) ?_)
    · exact (if_pos (show i = 0 by omega)).symm
    · exact (if_neg (show ¬ i = 0 by omega)).symm
    · rintro x rfl
      refine Ret.t (by omega) (Ret.letM (Ret.pure ⟨rfl, fun j hj => ?_, fun c hc => ?_⟩))
      · dsimp only
        by_cases hji : j = i
        · subst hji; exact mupd_same _ _ _ _
        · rw [mupd_ne2 _ _ (by omega)]; exact k2 j (by omega)
      · dsimp only
        funext z; rw [mupd_ne _ _ hc, k3 c hc]
  · rintro s ⟨k1, k2, k3⟩
    rw [k1]
    exact Ret.f (by omega) (Ret.pure ⟨fun j hj => k2 j (by omega), k3⟩)
  rintro M2 ⟨r0, g2⟩
  have hw2 : WM b T R v M2 := hw1.congr fun k j hk => by rw [g2 k (by unfold pR at hk; omega)]
  rw [e_M_many hw2.1, ob_some, hw2.n, hn, w32e (n := (n : Int) - 1) (by omega) (by omega)]
  refine Ret.letI ?_
  refine Ret.bind (R := fun M3 => (∀ q, q ≤ n → ∀ j, j ≤ sfY T v n → M3 422 (q * 1201 + j) = Vs (sfG T R v) (sfS T) (sfC T v - cntN (sfA v) q) j) ∧ ∀ c, c ≠ 422 → M3 c = M1 c) (Ret.loop n (fun i s => s.1 = (n : Int) - 1 - (i : Int) ∧ (∀ q, n ≤ q + i → q ≤ n → ∀ j, j ≤ sfY T v n → s.2 422 (q * 1201 + j) = Vs (sfG T R v) (sfS T) (sfC T v - cntN (sfA v) q) j) ∧ ∀ c, c ≠ 422 → s.2 c = M1 c) ⟨by dsimp only; omega, fun q hq1 hq2 j hj => ?_, g2⟩ ?_ ?_) ?_
  · have hqn : q = n := by omega
    subst hqn
    dsimp only
    rw [r0 j hj, hC, Nat.sub_self]
  · rintro i s hi ⟨k1, k2, k3⟩
    generalize hpp : n - 1 - i = p
    have k1' : s.1 = (p : Int) := by omega
    have hpn : p < n := by omega
    rw [k1', w32e (n := (p : Int) + -1) (by omega) (by omega)]
    have cn := cnt8 v (n := n) (p := p + 1) (by omega)
    rw [hC] at cn
    have cn2 : cntN (sfA v) (p + 1) = cntN (sfA v) p + if sfA v p = true then 1 else 0 := cntN_s _ _
    have eC : sfC T v - cntN (sfA v) p = if sfA v p = true then (sfC T v - cntN (sfA v) (p + 1)) + 1 else sfC T v - cntN (sfA v) (p + 1) := by
      split
      · rename_i ha; rw [if_pos ha] at cn2; omega
      · rename_i ha; rw [if_neg ha] at cn2; omega
    have hn8 : sfC T v - cntN (sfA v) (p + 1) < 8 := by
      by_cases ha : sfA v p = true
      · rw [if_pos ha] at cn2; omega
      · have := cntN_le (sfA v) p
        by_cases h0 : cntN (sfA v) (p + 1) = 0
        · have : sfC T v < 8 := by
            have hlt : cntN (sfA v) n < n := by
              have hz : cntN (sfA v) n + 1 ≤ cntN (fun _ => true) n := (cntN_mono (f := sfA v) (g := fun _ => true) (fun _ _ => rfl) n).2 p hpn (by simpa using ha) rfl
              have := cntN_le (fun _ => true) n
              omega
            omega
          omega
        · omega
    refine Ret.f (by omega) ?_
    refine Ret.bind (R := fun M3 => (∀ q, p ≤ q → q ≤ n → ∀ j, j ≤ sfY T v n → M3 422 (q * 1201 + j) = Vs (sfG T R v) (sfS T) (sfC T v - cntN (sfA v) q) j) ∧ ∀ c, c ≠ 422 → M3 c = M1 c) (Ret.loop (sfY T v n + 1) (fun k u => u.1 = (k : Int) ∧ (∀ q, p < q → q ≤ n → ∀ j, j ≤ sfY T v n → u.2 422 (q * 1201 + j) = Vs (sfG T R v) (sfS T) (sfC T v - cntN (sfA v) q) j) ∧ (∀ j, j < k → u.2 422 (p * 1201 + j) = Vs (sfG T R v) (sfS T) (sfC T v - cntN (sfA v) p) j) ∧ ∀ c, c ≠ 422 → u.2 c = M1 c) ⟨rfl, fun q q1 q2 j hj => k2 q (by omega) q2 j hj, fun j hj => absurd hj (Nat.not_lt_zero _), k3⟩ ?_ ?_) ?_
    · rintro k u hk ⟨u1, u2, u3, u4⟩
      have hw : WM b T R v u.2 := hw1.congr fun k j hk => by rw [u4 k (by unfold pR at hk; omega)]
      rw [u1, M_layPerson hw ho (p := p) (n := sfC T v - cntN (sfA v) (p + 1)) (by omega) hn8 (by omega) (fun a ha => by rw [u4 423 (by omega)]; exact h3 a ha) (fun j hj => u2 (p + 1) (by omega) (by omega) j (by omega)), ob_some, ← eC, w32e (n := (k : Int) + 1) (by omega) (by omega), (mul_1201 (x := p) (by omega)).2, w32e (n := ((p * 1201 : Nat) : Int) + (k : Int)) (by omega) (by omega), show ((p * 1201 : Nat) : Int) + (k : Int) = ((p * 1201 + k : Nat) : Int) by omega, Int.toNat_natCast]
      refine Ret.t (by omega) (Ret.t (by omega) (Ret.letM (Ret.pure ⟨rfl, fun q q1 q2 j hj => ?_, fun j hj => ?_, fun c hc => ?_⟩)))
      · dsimp only
        rw [mupd_ne2 _ _ (by omega)]; exact u2 q q1 q2 j hj
      · dsimp only
        by_cases hjk : j = k
        · subst hjk; exact mupd_same _ _ _ _
        · rw [mupd_ne2 _ _ (by omega)]; exact u3 j (by omega)
      · dsimp only
        funext z; rw [mupd_ne _ _ hc, u4 c hc]
    · rintro u ⟨u1, u2, u3, u4⟩
      rw [u1]
      refine Ret.f (by omega) (Ret.pure ⟨fun q q1 q2 j hj => ?_, u4⟩)
      by_cases hqp : q = p
      · subst hqp; exact u3 j (by omega)
      · exact u2 q (by omega) q2 j hj
    · rintro M3 ⟨a1, a2⟩
      refine Ret.pure ⟨by dsimp only; omega, fun q q1 q2 j hj => a1 q (by omega) q2 j hj, a2⟩
  · rintro s ⟨k1, k2, k3⟩
    rw [k1]
    exact Ret.t (by omega) (Ret.pure ⟨fun q hq j hj => k2 q (by omega) hq j hj, k3⟩)
  rintro M3 ⟨r1, g3⟩
  have hw3 : WM b T R v M3 := hw1.congr fun k j hk => by rw [g3 k (by unfold pR at hk; omega)]
  have e0 : M3 422 (sfY T v n) = Vs (sfG T R v) (sfS T) (sfC T v) (sfY T v n) := by
    have := r1 0 (by omega) (sfY T v n) (Nat.le_refl _)
    rw [cntN_0, Nat.sub_zero, Nat.zero_mul, Nat.zero_add] at this
    exact this
  rw [Int.toNat_natCast, e0]
  refine Ret.t (by omega) (Ret.letI ?_)
  refine Ret.bind (R := fun M4 => (∀ p, p < n → M4 424 p = layV T R v p) ∧ ∀ c, c ≠ 424 → M4 c = M3 c) (Ret.loop n (fun p t => t.1 = (sfL T R v p : Int) ∧ t.2.1 = (p : Int) ∧ (∀ q, q < p → t.2.2 424 q = layV T R v q) ∧ ∀ c, c ≠ 424 → t.2.2 c = M3 c) ⟨by rw [← hnn]; rfl, rfl, fun q hq => absurd hq (Nat.not_lt_zero _), fun c _ => rfl⟩ ?_ ?_) ?_
  · rintro p t hp ⟨t1, t2, t3, t4⟩
    have hp' : (p : Int) < T 0 0 := by omega
    have hw : WM b T R v t.2.2 := hw3.congr fun k j hk => by rw [t4 k (by unfold pR at hk; omega)]
    rw [t1, t2, e_M_many hw.1, ob_some, hw.n, hn, w32e (n := (p : Int) + 1) (by omega) (by omega), Int.toNat_natCast]
    refine Ret.t (by omega) (Ret.t (by omega) (Ret.letM ?_))
    have a1 : ∀ q, q < p + 1 → mupd t.2.2 424 p (-1) 424 q = if q = p then -1 else layV T R v q := fun q hq => by
      by_cases hqp : q = p
      · subst hqp; rw [mupd_same, if_pos rfl]
      · rw [mupd_ne2 _ _ hqp, if_neg hqp]; exact t3 q (by omega)
    have a2 : ∀ c, c ≠ 424 → mupd t.2.2 424 p (-1) c = M3 c := fun c hc => by funext z; rw [mupd_ne _ _ hc, t4 c hc]
    generalize mupd t.2.2 424 p (-1) = M4 at a1 a2 ⊢
    have hw4 : WM b T R v M4 := hw3.congr fun k j hk => by rw [a2 k (by unfold pR at hk; omega)]
    rw [e_M_isAlive (hw4.all (by omega)) ho.2 (by omega) (by omega), ob_some]
    have ok := sfL_ok ho p (by omega)
    rw [hnn] at ok
    have cn := cnt8 v (n := n) (p := p + 1) (by omega)
    rw [hC, cntN_s] at cn
    refine Ret.bind (R := fun e => e.1 = (sfL T R v (p + 1) : Int) ∧ (∀ q, q < p + 1 → e.2 424 q = layV T R v q) ∧ ∀ c, c ≠ 424 → e.2 c = M3 c) ?_ (fun e he => Ret.pure ⟨he.1, rfl, he.2.1, he.2.2⟩)
    rw [sfL_s]
    by_cases ha : sfA v p = true
    · rw [if_pos ha] at cn
      have eN : sfC T v - cntN (sfA v) p - 1 = sfC T v - cntN (sfA v) (p + 1) := by rw [cntN_s, if_pos ha]; omega
      have hk3 : sfL T R v p ≤ (sfC T v - cntN (sfA v) p - 1 + 1) * sfS T := by rw [show sfC T v - cntN (sfA v) p - 1 + 1 = sfC T v - cntN (sfA v) p by omega]; exact ok.1
      have hle := argA_le hg (n := sfC T v - cntN (sfA v) p - 1) (k := sfL T R v p) (by omega) hk3
      have okY := ok.2.1
      refine Ret.f (by rw [if_pos (show alv v p = true from ha)]; omega) ?_
      rw [M_bestAge hw4 ho (p := p) (n := sfC T v - cntN (sfA v) p - 1) (by omega) (by omega) (by omega) (fun a hq => by rw [a2 423 (by omega), g3 423 (by omega)]; exact h3 a hq) (fun j hj => by rw [a2 422 (by omega), eN]; exact r1 (p + 1) (by omega) j (by omega)), ob_some, if_pos hk3, hw4.bl.2.1, hL, w32e (n := (L : Int) + (argA (sfG T R v) (sfS T) (sfC T v - cntN (sfA v) p - 1) (sfL T R v p) : Int)) (by omega) (by omega), w32e (n := (sfL T R v p : Int) - (argA (sfG T R v) (sfS T) (sfC T v - cntN (sfA v) p - 1) (sfL T R v p) : Int)) (by omega) (by omega)]
      refine Ret.t hw4.bl.1 (Ret.t (by omega) (Ret.letM (Ret.letI (Ret.pure ⟨by dsimp only; rw [if_pos ha]; omega, fun q hq => ?_, fun c hc => ?_⟩))))
      · dsimp only
        by_cases hqp : q = p
        · subst hqp
          rw [mupd_same]
          unfold layV
          rw [if_pos ha, hL]
        · rw [mupd_ne2 _ _ hqp, a1 q hq, if_neg hqp]
      · dsimp only
        funext z; rw [mupd_ne _ _ hc, a2 c hc]
    · refine Ret.t (by rw [if_neg (show ¬ alv v p = true from ha)]) (Ret.pure ⟨by dsimp only; rw [if_neg ha], fun q hq => ?_, a2⟩)
      dsimp only
      rw [a1 q hq]
      by_cases hqp : q = p
      · subst hqp
        rw [if_pos rfl]
        unfold layV
        rw [if_neg ha]
      · rw [if_neg hqp]
  · rintro t ⟨t1, t2, t3, t4⟩
    have hw : WM b T R v t.2.2 := hw3.congr fun k j hk => by rw [t4 k (by unfold pR at hk; omega)]
    rw [t2, e_M_many hw.1, ob_some, hw.n, hn]
    exact Ret.f (by omega) (Ret.pure ⟨t3, t4⟩)
  rintro M4 ⟨s1, s2⟩
  have hw4 : WM b T R v M4 := hw3.congr fun k j hk => by rw [s2 k (by unfold pR at hk; omega)]
  rw [e_M_many hw4.1, ob_some, hw4.n, hn]
  refine Ret.letM (Ret.pure ⟨?_, ⟨?_, ?_, fun i x hx => ?_⟩, fun k j hk => ?_⟩)
  · unfold safeA
    rw [hnn]
  · unfold safeA
    rw [hnn]
    dsimp only
    rw [List.length_map, List.length_range]; omega
  · unfold safeA
    rw [hnn]
    dsimp only
    rw [mupd_same, List.length_map, List.length_range]
  · unfold safeA at hx
    rw [hnn] at hx
    dsimp only at hx ⊢
    rw [mupd_ne _ _ (by omega)]
    rw [List.getElem?_map] at hx
    by_cases hin : i < n
    · rw [List.getElem?_range hin] at hx
      cases hx
      exact s1 i hin
    · rw [List.getElem?_eq_none (by rw [List.length_range]; omega)] at hx
      cases hx
  · dsimp only
    rw [mupd_at, if_neg (fun q => hk (by unfold pSM; omega)), s2 k (by unfold pSM at hk; omega), g3 k (by unfold pSM at hk; omega), f1 k j hk]
