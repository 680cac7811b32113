/-! BOXES -/
def BC (fl : Nat → Bool) (bx : HS) (n : Int) (M : KM) : Prop := (0 ≤ M 0 7 ∧ M 0 7 < 8 ∧ ∀ i, i < 3 → bt (M 0 7) i = fl i) ∧ ∀ i, i < 3 → fl i = true → SC (361 + 7 * i) n (bx i) M
def BM (fl : Nat → Bool) (bx : HS) (M : KM) : Prop := (∀ i, i < 3 → M 434 i = if fl i = true then 1 else 0) ∧ ∀ i, i < 3 → fl i = true → SM 433 (171 * i) (bx i) M
def okB (T : TW) (fl : Nat → Bool) (bx : HS) : Prop := ∀ i, i < 3 → fl i = true → okS T (bx i)
def pBC (k j : Nat) : Prop := (k = 0 ∧ j = 7) ∨ (361 ≤ k ∧ k < 382)
def pBM (k _ : Nat) : Prop := k = 433 ∨ k = 434
theorem BC.congr {fl : Nat → Bool} {bx : HS} {n : Int} {M M' : KM} (h : BC fl bx n M) (he : ∀ k j, pBC k j → M' k j = M k j) : BC fl bx n M' := by
  obtain ⟨h1, h2⟩ := h
  refine ⟨by rw [he 0 7 (Or.inl ⟨rfl, rfl⟩)]; exact h1, fun i hi hf => (h2 i hi hf).congr (fun c c1 c2 => by funext j; exact he c j (Or.inr (by omega)))⟩
theorem BM.congr {fl : Nat → Bool} {bx : HS} {M M' : KM} (h : BM fl bx M) (he : ∀ k j, pBM k j → M' k j = M k j) : BM fl bx M' := by
  obtain ⟨h1, h2⟩ := h
  exact ⟨fun i hi => by rw [he 434 i (Or.inr rfl)]; exact h1 i hi, fun i hi hf => (h2 i hi hf).congr (fun j _ => he 433 _ (Or.inl rfl))⟩
def flS (fl : Nat → Bool) (b : Int) : Nat → Bool := fun i => if (i : Int) = b then true else fl i
def bxS (bx : HS) (b : Int) (v : Nat → Int) : HS := fun i => if (i : Int) = b then v else bx i
theorem kStB_b {i : Nat} (h : i < 3) : kStB (361 + 7 * i) = true := by
  have : i = 0 ∨ i = 1 ∨ i = 2 := by omega
  rcases this with rfl | rfl | rfl <;> rfl
theorem X_image {n : Int} {v : Nat → Int} {M : KM} {fl : Nat → Bool} {bx : HS} (h : SC 34 n v M) (h17 : v 17 ≤ 30) (hn : n ≤ 8) (hB : BC fl bx n M) (b : Int) : Ret (f_X_image b M) (fun q => if 0 ≤ b ∧ b < 3 then q.1 = v 19 ∧ BC (flS fl b) (bxS bx b v) n q.2 ∧ Fp pBC M q.2 else q = (-1, M)) := by
  unfold f_X_image
  by_cases h0 : b < 0
  · rw [if_pos h0]; exact Ret.pure (by rw [if_neg (by omega)])
  · rw [if_neg h0]
    by_cases h3 : b < 3
    · rw [if_pos h3]
      obtain ⟨i, rfl⟩ := Int.eq_ofNat_of_zero_le (by omega : 0 ≤ b)
      rw [Int.toNat_natCast]
      refine Ret.t (by omega) (Ret.t (kStB_b (by omega)) ?_)
      obtain ⟨M', e1, e2, e3⟩ := State_copy (k0 := 34) (k1 := 361 + 7 * i) (M := M) (by omega)
      rw [e1, ob_some]
      have e07 : M' 0 7 = M 0 7 := by rw [e2 0 (by omega)]
      rw [e07]
      obtain ⟨⟨b1, b2, b3⟩, b4⟩ := hB
      obtain ⟨k1, k2, k3⟩ := kior_bit (a := M 0 7) (p := i) b1 (by omega) (by omega)
      have k4 : kior (M 0 7) (kishl 1 i) < 8 := by
        have := bt_lt8 k1 (n := 3) (fun j hj => by
          rw [k3]
          have : bt (M 0 7) j = false := Nat.testBit_lt_two_pow (Nat.lt_of_lt_of_le (by omega : (M 0 7).toNat < 2 ^ 3) (Nat.pow_le_pow_right (by omega) hj))
          rw [this]; simp; omega)
        omega
      refine Ret.letM (Ret.pure ?_)
      rw [if_pos (show 0 ≤ (i : Int) ∧ (i : Int) < 3 by omega)]
      refine ⟨?_, ⟨⟨by dsimp only; rw [mupd_same]; exact k1, by dsimp only; rw [mupd_same]; exact k4, fun j hj => ?_⟩, fun j hj hf => ?_⟩, fun k j hk => ?_⟩
      · dsimp only
        rw [mupd_ne _ _ (by omega), e2 34 (by omega)]; exact h.1.2.2.1
      · dsimp only
        rw [mupd_same, k3, b3 j hj]
        unfold flS
        by_cases hji : j = i
        · subst hji; simp
        · rw [if_neg (by omega)]; simp [hji]
      · dsimp only
        unfold bxS
        by_cases hji : j = i
        · subst hji
          rw [if_pos rfl]
          exact (e3 n v h h17 hn).congr (fun c c1 c2 => by funext z; exact mupd_ne _ _ (by omega))
        · rw [if_neg (by omega)]
          unfold flS at hf
          rw [if_neg (by omega)] at hf
          exact (b4 j hj hf).congr (fun c c1 c2 => by rw [← e2 c (by omega)]; funext z; exact mupd_ne _ _ (by omega))
      · unfold pBC at hk
        dsimp only
        rw [mupd_at, if_neg (by omega), e2 k (by omega)]
    · rw [if_neg h3]; exact Ret.pure (by rw [if_neg (by omega)])
theorem M_image {v : Nat → Int} {M : KM} {fl : Nat → Bool} {bx : HS} (h : SM 411 0 v M) (hB : BM fl bx M) (b : Int) : Ret (f_M_image b M) (fun q => if 0 ≤ b ∧ b < 3 then q.1 = v 19 ∧ BM (flS fl b) (bxS bx b v) q.2 ∧ Fp pBM M q.2 else q = (-1, M)) := by
  unfold f_M_image
  rw [e_M_isIn, ob_some]
  by_cases h0 : 0 ≤ b ∧ b < 3
  · rw [if_pos (by omega : 0 ≤ b ∧ b ≤ 2)]
    obtain ⟨i, rfl⟩ := Int.eq_ofNat_of_zero_le h0.1
    have i19 : (19 : Int).toNat = 19 := rfl
    refine Ret.f (by omega) (Ret.bind (R := fun M1 => (∀ j, M1 433 j = if 171 * i ≤ j ∧ j < 171 * i + 171 then M 411 (j - 171 * i) else M 433 j) ∧ ∀ c, c ≠ 433 → M1 c = M c) (Ret.loop 171 (fun k s => s.1 = (k : Int) ∧ (∀ j, s.2 433 j = if 171 * i ≤ j ∧ j < 171 * i + k then M 411 (j - 171 * i) else M 433 j) ∧ ∀ c, c ≠ 433 → s.2 c = M c) ⟨rfl, fun j => by rw [if_neg (by omega)], fun c _ => rfl⟩ ?_ ?_) ?_)
    · rintro k s hk ⟨y1, y2, y3⟩
      rw [y1, w32e (n := 171 * (i : Int)) (by omega) (by omega), w32e (n := 171 * (i : Int) + k) (by omega) (by omega), w32e (n := (k : Int) + 1) (by omega) (by omega)]
      refine Ret.t (by omega) (Ret.t (by omega) (Ret.t (by omega) (Ret.letM (Ret.pure ⟨rfl, fun j => ?_, fun c hc => ?_⟩))))
      · dsimp only
        rw [Int.toNat_natCast, show (171 * (i : Int) + k).toNat = 171 * i + k by omega]
        by_cases hj : j = 171 * i + k
        · rw [hj, mupd_same, if_pos (by omega), y3 411 (by omega)]
          congr 1; omega
        · rw [mupd_ne2 _ _ hj, y2]
          exact ifc (by omega)
      · funext j; dsimp only; rw [mupd_ne _ _ hc, y3 c hc]
    · rintro s ⟨y1, y2, y3⟩
      exact Ret.f (by omega) (Ret.pure ⟨y2, y3⟩)
    · rintro M1 ⟨y1, y2⟩
      obtain ⟨b1, b2⟩ := hB
      refine Ret.t (by omega) (Ret.letM (Ret.t (by omega) (Ret.pure ?_)))
      rw [if_pos h0]
      refine ⟨?_, ⟨fun j hj => ?_, fun j hj hf z hz => ?_⟩, fun k j hk => ?_⟩
      · dsimp only
        rw [mupd_ne _ _ (by omega), y2 411 (by omega), i19]; exact h.at (by omega)
      · dsimp only
        rw [Int.toNat_natCast]
        unfold flS
        by_cases hji : j = i
        · subst hji; rw [mupd_same, if_pos rfl]; rfl
        · have e : (if (j : Int) = (i : Int) then true else fl j) = fl j := if_neg (by omega)
          rw [mupd_ne2 _ _ hji, y2 434 (by omega), e]; exact b1 j hj
      · dsimp only
        rw [mupd_ne _ _ (by omega), y1]
        unfold bxS
        by_cases hji : j = i
        · subst hji
          rw [if_pos (by omega), if_pos rfl, show 171 * j + z - 171 * j = z by omega]
          exact h.at hz
        · rw [if_neg (by omega), if_neg (by omega)]
          unfold flS at hf
          rw [if_neg (by omega)] at hf
          exact b2 j hj hf z hz
      · unfold pBM at hk
        dsimp only
        rw [mupd_ne _ _ (by omega), y2 k (by omega)]
  · rw [if_neg (by omega : ¬ (0 ≤ b ∧ b ≤ 2))]
    exact Ret.t rfl (Ret.pure (by rw [if_neg h0]))
theorem X_back {T : TW} {v : Nat → Int} {M : KM} {fl : Nat → Bool} {bx : HS} (hn : T 0 0 ≤ 8) (hB : BC fl bx (T 0 0) M) (hok : okB T fl bx) (b : Int) : Ret (f_X_back b M) (fun q => if (0 ≤ b ∧ b < 3) ∧ fl b.toNat = true then q.1 = bx b.toNat 19 ∧ SC 34 (T 0 0) (bx b.toNat) q.2 ∧ HC 0 0 (fun _ => bx b.toNat) (T 0 0) q.2 ∧ Fp (fun k _ => 34 ≤ k ∧ k < 330) M q.2 else q = (-1, M)) := by
  unfold f_X_back
  by_cases h0 : b < 0
  · rw [if_pos h0]; exact Ret.pure (by rw [if_neg (fun q : (0 ≤ b ∧ b < 3) ∧ fl b.toNat = true => by omega)])
  · rw [if_neg h0]
    by_cases h3 : b < 3
    · rw [if_pos h3]
      obtain ⟨i, rfl⟩ := Int.eq_ofNat_of_zero_le (by omega : 0 ≤ b)
      obtain ⟨⟨b1, b2, b3⟩, b4⟩ := hB
      rw [Int.toNat_natCast, isInV_bt b1 (by omega), Int.toNat_natCast, b3 i (by omega)]
      by_cases hf : fl i = true
      · refine Ret.f (by rw [if_pos ⟨by omega, hf⟩]; omega) (Ret.t (by omega) (Ret.t (kStB_b (by omega)) ?_))
        obtain ⟨M', e1, e2, e3⟩ := State_copy (k0 := 361 + 7 * i) (k1 := 34) (M := M) (by omega)
        have ok := hok i (by omega) hf
        have s34 := e3 (T 0 0) (bx i) (b4 i (by omega) hf) ok.1.2.2.2.1 hn
        rw [e1, ob_some]
        refine Ret.bind (X_begin s34 ok.1.2.2.2.1 hn) ?_
        rintro M2 ⟨y1, y2⟩
        have s34' : SC 34 (T 0 0) (bx i) M2 := s34.congr (fun c c1 c2 => y2.row (fun j => by unfold pHC; omega))
        refine Ret.pure ?_
        rw [if_pos (show (0 ≤ (i : Int) ∧ (i : Int) < 3) ∧ fl i = true from ⟨by omega, hf⟩)]
        refine ⟨s34'.1.2.2.1, s34', y1, fun k j hk => ?_⟩
        dsimp only
        rw [y2 k j (by unfold pHC; omega), e2 k (by omega)]
      · exact Ret.t (by rw [if_neg (fun q => hf q.2)]) (Ret.pure (by rw [if_neg (fun q : (0 ≤ (i : Int) ∧ (i : Int) < 3) ∧ fl i = true => hf q.2)]))
    · rw [if_neg h3]; exact Ret.pure (by rw [if_neg (fun q : (0 ≤ b ∧ b < 3) ∧ fl b.toNat = true => by omega)])
theorem M_back {M : KM} {fl : Nat → Bool} {bx : HS} (hB : BM fl bx M) (b : Int) : Ret (f_M_back b M) (fun q => if (0 ≤ b ∧ b < 3) ∧ fl b.toNat = true then q.1 = bx b.toNat 19 ∧ SM 411 0 (bx b.toNat) q.2 ∧ HM 0 0 (fun _ => bx b.toNat) q.2 ∧ Fp (fun k j => k = 411 ∨ (k = 382 ∧ (j = 48 ∨ j = 49))) M q.2 else q = (-1, M)) := by
  unfold f_M_back
  rw [e_M_isIn, ob_some]
  by_cases h0 : 0 ≤ b ∧ b < 3
  · rw [if_pos (by omega : 0 ≤ b ∧ b ≤ 2)]
    obtain ⟨i, rfl⟩ := Int.eq_ofNat_of_zero_le h0.1
    obtain ⟨b1, b2⟩ := hB
    have i19 : (19 : Int).toNat = 19 := rfl
    rw [Int.toNat_natCast, b1 i (by omega)]
    refine Ret.f (by omega) (Ret.t h0 ?_)
    by_cases hf : fl i = true
    · have hs := b2 i (by omega) hf
      refine Ret.f (by rw [if_pos hf]; omega) (Ret.bind (R := fun M1 => (∀ j, M1 411 j = if j < 171 then M 433 (171 * i + j) else M 411 j) ∧ ∀ c, c ≠ 411 → M1 c = M c) (Ret.loop 171 (fun k s => s.1 = (k : Int) ∧ (∀ j, s.2 411 j = if j < k then M 433 (171 * i + j) else M 411 j) ∧ ∀ c, c ≠ 411 → s.2 c = M c) ⟨rfl, fun j => by rw [if_neg (by omega)], fun c _ => rfl⟩ ?_ ?_) ?_)
      · rintro k s hk ⟨y1, y2, y3⟩
        rw [y1, w32e (n := 171 * (i : Int)) (by omega) (by omega), w32e (n := 171 * (i : Int) + k) (by omega) (by omega), w32e (n := (k : Int) + 1) (by omega) (by omega)]
        refine Ret.t (by omega) (Ret.t (by omega) (Ret.t (by omega) (Ret.letM (Ret.pure ⟨rfl, fun j => ?_, fun c hc => ?_⟩))))
        · dsimp only
          rw [Int.toNat_natCast, show (171 * (i : Int) + k).toNat = 171 * i + k by omega]
          by_cases hj : j = k
          · rw [hj, mupd_same, if_pos (by omega), y3 433 (by omega)]
          · rw [mupd_ne2 _ _ hj, y2]
            exact ifc (by omega)
        · funext j; dsimp only; rw [mupd_ne _ _ hc, y3 c hc]
      · rintro s ⟨y1, y2, y3⟩
        exact Ret.f (by omega) (Ret.pure ⟨y2, y3⟩)
      · rintro M1 ⟨y1, y2⟩
        have hv : SM 411 0 (bx i) M1 := fun j hj => by rw [Nat.zero_add, y1, if_pos hj]; exact hs j hj
        refine Ret.letM (Ret.letM (Ret.t (by omega) (Ret.pure ?_)))
        rw [if_pos (show (0 ≤ (i : Int) ∧ (i : Int) < 3) ∧ fl i = true from ⟨h0, hf⟩)]
        refine ⟨?_, ?_, ⟨⟨?_, ?_⟩, by omega, fun j hj => absurd hj (Nat.not_lt_zero _), fun j hj => absurd hj (Nat.not_lt_zero _)⟩, fun k j hk => ?_⟩
        · dsimp only
          rw [mupd_ne _ _ (by omega), mupd_ne _ _ (by omega), i19]; exact hv.at (by omega)
        · exact hv.congr (fun j _ => by dsimp only; rw [mupd_ne _ _ (by omega), mupd_ne _ _ (by omega)])
        · dsimp only; rw [mupd_ne2 _ _ (by omega), mupd_same]; rfl
        · dsimp only; rw [mupd_same]; rfl
        · dsimp only
          rw [mupd_at, if_neg (by omega), mupd_at, if_neg (by omega), y2 k (by omega)]
    · exact Ret.t (by rw [if_neg hf]) (Ret.pure (by rw [if_neg (fun q : (0 ≤ (i : Int) ∧ (i : Int) < 3) ∧ fl i = true => hf q.2)]))
  · rw [if_neg (by omega : ¬ (0 ≤ b ∧ b ≤ 2))]
    exact Ret.t rfl (Ret.pure (by rw [if_neg (fun q : (0 ≤ b ∧ b < 3) ∧ fl b.toNat = true => h0 q.1)]))
