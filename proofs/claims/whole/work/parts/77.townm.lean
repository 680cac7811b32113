/-! A TOWN is taken over: the second side -/
def pSA (k j : Nat) : Prop := k = 411 ∨ k = 414 ∨ k = 434 ∨ (k = 382 ∧ (j = 48 ∨ j = 49 ∨ j = 71 ∨ j = 63))
theorem M_startAnew {b : Nat} {T : TW} {R : Nat → RL} {M : KM} (hb : BK b M) (hT : okT T R) (h : TM b T R M) : Ret (f_M_startAnew M) (fun q => SM 411 0 (vIni T) q ∧ (∀ p, p < 8 → q 414 p = -1) ∧ (∀ i, i < 3 → q 434 i = 0) ∧ (q 382 48 = 0 ∧ q 382 49 = 0 ∧ q 382 71 = 0 ∧ q 382 63 = 0) ∧ Fp pSA M q) := by
  obtain ⟨hb2, h37⟩ := hb
  obtain ⟨⟨n0, n8, _⟩, _⟩ := hT
  obtain ⟨⟨t1, _, _, _, _, t6, _⟩, u1, _⟩ := h
  obtain ⟨N, hN⟩ : ∃ N : Nat, T 0 0 = (N : Int) := ⟨(T 0 0).toNat, by omega⟩
  have hN8 : N ≤ 8 := by omega
  have g : ∀ M' : KM, Fp pSA M M' → BK b M' ∧ M' 385 b = (N : Int) ∧ M' 389 b = T 0 5 ∧ ∀ p : Nat, p < N → M' 393 (8 * b + p) = T 1 p ∧ M' 394 (8 * b + p) = T 2 p := fun M' hf => by
    refine ⟨⟨hb2, by rw [hf 382 37 (by unfold pSA; omega)]; exact h37⟩, by rw [hf 385 b (by unfold pSA; omega), t1, hN], by rw [hf 389 b (by unfold pSA; omega)]; exact t6, fun p hp => ?_⟩
    obtain ⟨a1, a2, _⟩ := u1 p (by omega)
    exact ⟨by rw [hf 393 _ (by unfold pSA; omega)]; exact a1, by rw [hf 394 _ (by unfold pSA; omega)]; exact a2⟩
  unfold f_M_startAnew
  refine Ret.bind (R := fun q : KM => (∀ j, j < 171 → q 411 j = 0) ∧ Fp pSA M q) (Ret.loop 171 (fun k s => s.1 = (k : Int) ∧ (∀ j, j < k → s.2 411 j = 0) ∧ Fp pSA M s.2) ⟨rfl, fun j hj => by omega, Fp.rf⟩ ?_ ?_) ?_
  · rintro k s hk ⟨h1, h2, h3⟩
    rw [h1]
    refine Ret.t (by omega) (Ret.t (by omega) (Ret.letM (Ret.pure ⟨?_, fun j hj => ?_, h3.upd (Or.inl rfl)⟩)))
    · dsimp only; rw [w32e (by omega) (by omega)]; omega
    · dsimp only
      rw [Int.toNat_natCast, mupd_at]
      split
      · rfl
      · exact h2 j (by omega)
  · rintro s ⟨h1, h2, h3⟩
    exact Ret.f (by omega) (Ret.pure ⟨h2, h3⟩)
  rintro e3 ⟨z1, z2⟩
  refine Ret.bind (R := fun q : KM => (∀ j, j < 171 → q 411 j = (if j < 8 then (if j < N then T 1 j else 0) else if j < 16 then (if j - 8 < N then T 2 (j - 8) else 0) else 0)) ∧ Fp pSA M q) (Ret.loop N (fun k s => s.1 = (k : Int) ∧ (∀ j, j < 171 → s.2 411 j = (if j < 8 then (if j < k then T 1 j else 0) else if j < 16 then (if j - 8 < k then T 2 (j - 8) else 0) else 0)) ∧ Fp pSA M s.2) ⟨rfl, fun j hj => ?_, z2⟩ ?_ ?_) ?_
  · dsimp only
    rw [z1 j hj]
    split
    · rw [if_neg (by omega)]
    · split
      · rw [if_neg (by omega)]
      · rfl
  · rintro k s hk ⟨h1, h2, h3⟩
    obtain ⟨bk, k1, k2, k3⟩ := g s.2 h3
    obtain ⟨k4, k5⟩ := k3 k hk
    have wb : w32 (w32 (8 * s.2 382 37) + (k : Int)) = ((8 * b + k : Nat) : Int) := by
      rw [bk.2, w32e (n := 8 * (b : Int)) (by omega) (by omega), w32e (by omega) (by omega)]; omega
    have w0 : w32 (0 + (k : Int)) = (k : Int) := by rw [w32e (by omega) (by omega)]; omega
    have w8 : w32 (8 + (k : Int)) = ((8 + k : Nat) : Int) := by rw [w32e (by omega) (by omega)]; omega
    rw [h1, e_M_many bk, ob_some, k1]
    refine Ret.t (by omega) (Ret.t (by rw [wb]; omega) (Ret.t (by rw [w0]; omega) (Ret.letM ?_)))
    rw [mupd_ne _ _ (show (382 : Nat) ≠ 411 by omega), wb, w0, w8]
    refine Ret.t (by omega) (Ret.t (by omega) (Ret.letM (Ret.pure ⟨?_, fun j hj => ?_, (h3.upd (Or.inl rfl)).upd (Or.inl rfl)⟩)))
    · dsimp only; rw [w32e (by omega) (by omega)]; omega
    · dsimp only
      rw [Int.toNat_natCast, Int.toNat_natCast, Int.toNat_natCast, mupd_ne _ _ (show (394 : Nat) ≠ 411 by omega), k4, k5, mupd_at, mupd_at, h2 j hj]
      by_cases j8 : j < 8
      · rw [if_neg (by omega), if_pos j8, if_pos j8]
        by_cases jk : j = k
        · rw [if_pos ⟨rfl, jk⟩, if_pos (by omega), jk]
        · rw [if_neg (by omega)]
          by_cases j2 : j < k
          · rw [if_pos j2, if_pos (by omega)]
          · rw [if_neg j2, if_neg (by omega)]
      · rw [if_neg j8, if_neg j8]
        by_cases jk : j = 8 + k
        · rw [if_pos ⟨rfl, jk⟩, if_pos (show j < 16 by omega), if_pos (by omega), show j - 8 = k by omega]
        · rw [if_neg (by omega), if_neg (by omega)]
          by_cases j16 : j < 16
          · rw [if_pos j16, if_pos j16]
            by_cases j2 : j - 8 < k
            · rw [if_pos j2, if_pos (by omega)]
            · rw [if_neg j2, if_neg (by omega)]
          · rw [if_neg j16, if_neg j16]
  · rintro s ⟨h1, h2, h3⟩
    obtain ⟨bk, k1, _⟩ := g s.2 h3
    rw [h1, e_M_many bk, ob_some, k1]
    exact Ret.f (by omega) (Ret.pure ⟨h2, h3⟩)
  rintro e8 ⟨y1, y2⟩
  obtain ⟨bk, k1, k2, _⟩ := g e8 y2
  rw [e_M_many bk, ob_some, k1, ini_pow hN8]
  refine Ret.t (by decide) (Ret.letM ?_)
  rw [mupd_ne _ _ (show (382 : Nat) ≠ 411 by omega), bk.2]
  refine Ret.t (by omega) (Ret.t (by decide) (Ret.letM ?_))
  rw [Int.toNat_natCast, mupd_ne _ _ (show (389 : Nat) ≠ 411 by omega), k2]
  have hv : ∀ j, j < 171 → mupd (mupd e8 411 (16 : Int).toNat ((2 ^ N - 1 : Nat) : Int)) 411 (20 : Int).toNat (T 0 5) 411 j = vIni T j := fun j hj => by
    show mupd (mupd e8 411 16 ((2 ^ N - 1 : Nat) : Int)) 411 20 (T 0 5) 411 j = _
    rw [mupd_at, mupd_at, y1 j hj]
    unfold vIni
    rw [hN, Int.toNat_natCast]
    by_cases j8 : j < 8
    · rw [if_neg (by omega), if_neg (by omega), if_pos j8, if_pos j8]
      exact ifc (by omega)
    · rw [if_neg j8, if_neg j8]
      by_cases j16 : j < 16
      · rw [if_neg (by omega), if_neg (by omega), if_pos j16, if_pos j16]
        exact ifc (by omega)
      · rw [if_neg j16, if_neg j16]
        by_cases e16 : j = 16
        · rw [if_neg (by omega), if_pos ⟨rfl, e16⟩, if_pos e16]
        · rw [if_neg (show ¬ (411 = 411 ∧ j = 16) by omega), if_neg e16]
          exact ifc (by omega)
  have f10 : Fp pSA M (mupd (mupd e8 411 (16 : Int).toNat ((2 ^ N - 1 : Nat) : Int)) 411 (20 : Int).toNat (T 0 5)) := (y2.upd (Or.inl rfl)).upd (Or.inl rfl)
  generalize mupd (mupd e8 411 (16 : Int).toNat ((2 ^ N - 1 : Nat) : Int)) 411 (20 : Int).toNat (T 0 5) = M11 at *
  refine Ret.bind (R := fun q : KM => (∀ p, p < 8 → q 414 p = -1) ∧ q 411 = M11 411 ∧ Fp pSA M q) (Ret.loop 8 (fun k s => s.1 = (k : Int) ∧ (∀ j, j < k → s.2 414 j = -1) ∧ s.2 411 = M11 411 ∧ Fp pSA M s.2) ⟨rfl, fun j hj => by omega, rfl, f10⟩ ?_ ?_) ?_
  · rintro k s hk ⟨h1, h2, h3, h4⟩
    rw [h1]
    refine Ret.t (by omega) (Ret.t (by omega) (Ret.letM (Ret.pure ⟨?_, fun j hj => ?_, ?_, h4.upd (Or.inr (Or.inl rfl))⟩)))
    · dsimp only; rw [w32e (by omega) (by omega)]; omega
    · dsimp only
      rw [Int.toNat_natCast, mupd_at]
      split
      · rfl
      · exact h2 j (by omega)
    · dsimp only; rw [← h3]; funext z; rw [mupd_ne _ _ (by omega)]
  · rintro s ⟨h1, h2, h3, h4⟩
    exact Ret.f (by omega) (Ret.pure ⟨h2, h3, h4⟩)
  rintro e14 ⟨x1, x2, x3⟩
  refine Ret.letM (Ret.letM (Ret.letM (Ret.letM ?_)))
  refine Ret.bind (R := fun q : KM => (∀ i, i < 3 → q 434 i = 0) ∧ q 411 = M11 411 ∧ q 414 = e14 414 ∧ (q 382 48 = 0 ∧ q 382 49 = 0 ∧ q 382 71 = 0 ∧ q 382 63 = 0) ∧ Fp pSA M q) (Ret.loop 3 (fun k s => s.1 = (k : Int) ∧ (∀ j, j < k → s.2 434 j = 0) ∧ s.2 411 = M11 411 ∧ s.2 414 = e14 414 ∧ (s.2 382 48 = 0 ∧ s.2 382 49 = 0 ∧ s.2 382 71 = 0 ∧ s.2 382 63 = 0) ∧ Fp pSA M s.2) ⟨rfl, fun j hj => by omega, ?_, ?_, ?_, ?_⟩ ?_ ?_) ?_
  · dsimp only; rw [← x2]; funext z; simp [mupd_at]
  · dsimp only; funext z; simp [mupd_at]
  · dsimp only; simp [mupd_at]
  · dsimp only
    exact (((x3.upd (by unfold pSA; omega)).upd (by unfold pSA; omega)).upd (by unfold pSA; omega)).upd (by unfold pSA; omega)
  · rintro k s hk ⟨h1, h2, h3, h4, h5, h6⟩
    rw [h1]
    refine Ret.t (by omega) (Ret.t ⟨by omega, by decide⟩ (Ret.letM (Ret.pure ⟨?_, fun j hj => ?_, ?_, ?_, ?_, h6.upd (Or.inr (Or.inr (Or.inl rfl)))⟩)))
    · dsimp only; rw [w32e (by omega) (by omega)]; omega
    · dsimp only
      rw [Int.toNat_natCast, mupd_at]
      split
      · rfl
      · exact h2 j (by omega)
    · dsimp only; rw [← h3]; funext z; rw [mupd_ne _ _ (by omega)]
    · dsimp only; rw [← h4]; funext z; rw [mupd_ne _ _ (by omega)]
    · dsimp only; rw [mupd_ne _ _ (by omega), mupd_ne _ _ (by omega), mupd_ne _ _ (by omega), mupd_ne _ _ (by omega)]; exact h5
  · rintro s ⟨h1, h2, h3, h4, h5, h6⟩
    exact Ret.f (by omega) (Ret.pure ⟨h2, h3, h4, h5, h6⟩)
  rintro q ⟨a1, a2, a3, a4, a5⟩
  exact Ret.pure ⟨fun j hj => by rw [Nat.zero_add, a2]; exact hv j hj, fun p hp => by rw [a3]; exact x1 p hp, a1, a4, a5⟩
/-- the bank to read into is made empty -/
theorem M_clearBank {M : KM} {rb : Nat} (h : M 382 38 = (rb : Int)) (hrb : rb < 2) : Ret (f_M_clearBank M) (fun q => LMd rb 0 empT (fun _ => []) [] [] false q ∧ Fp (pLM rb) M q ∧ (∀ i, i ≠ 39 → q 382 i = M 382 i) ∧ q 384 = M 384) := by
  have hb : 0 ≤ (rb : Int) ∧ (rb : Int) < 2 := by omega
  have e7 : w32 (w32 (7 * (rb : Int)) + 6) = ((7 * rb + 6 : Nat) : Int) := by rw [w32e (n := 7 * (rb : Int)) (by omega) (by omega), w32e (by omega) (by omega)]; omega
  have e5 : w32 (560 * (rb : Int)) = ((560 * rb : Nat) : Int) := by rw [w32e (by omega) (by omega)]; omega
  have st : ∀ {M' : KM} {k i : Nat} {v : Int}, M' 382 38 = (rb : Int) → k ≠ 382 → mupd M' k i v 382 38 = (rb : Int) := fun h hk => by rw [mupd_ne _ _ (by omega)]; exact h
  unfold f_M_clearBank
  rw [h]
  refine Ret.t hb (Ret.letM ?_)
  have h1 := st (k := 385) (i := rb) (v := 0) h (by omega)
  rw [Int.toNat_natCast, h1]
  refine Ret.t hb (Ret.letM ?_)
  have h2 := st (k := 386) (i := rb) (v := 0) h1 (by omega)
  rw [Int.toNat_natCast, h2]
  refine Ret.t hb (Ret.letM ?_)
  have h3 := st (k := 387) (i := rb) (v := 0) h2 (by omega)
  rw [Int.toNat_natCast, h3]
  refine Ret.t hb (Ret.letM ?_)
  have h4 := st (k := 388) (i := rb) (v := 0) h3 (by omega)
  rw [Int.toNat_natCast, h4]
  refine Ret.t hb (Ret.letM ?_)
  have h5 := st (k := 389) (i := rb) (v := 0) h4 (by omega)
  rw [Int.toNat_natCast, h5]
  refine Ret.t hb (Ret.letM ?_)
  have h6 := st (k := 390) (i := rb) (v := 0) h5 (by omega)
  rw [Int.toNat_natCast, h6]
  refine Ret.t hb (Ret.letM ?_)
  have h7 := st (k := 391) (i := rb) (v := 120) h6 (by omega)
  rw [Int.toNat_natCast, h7]
  refine Ret.t hb (Ret.letM ?_)
  have h8 := st (k := 392) (i := rb) (v := 0) h7 (by omega)
  rw [Int.toNat_natCast, h8]
  refine Ret.t ⟨hb, by decide⟩ (Ret.letM ?_)
  have h9 := st (k := 402) (i := rb) (v := 0) h8 (by omega)
  rw [Int.toNat_natCast, h9, e7]
  refine Ret.t ⟨by omega, by decide⟩ (Ret.letM ?_)
  have h10 := st (k := 403) (i := 7 * rb + 6) (v := 0) h9 (by omega)
  rw [Int.toNat_natCast, h10, e5]
  refine Ret.letM (Ret.pure ⟨⟨?_, ⟨⟨?_, ?_, ?_, ?_, ?_, ?_, ?_, ?_⟩, fun p hp => ?_, fun f hf => ?_, fun r hr => ?_, fun q => ?_⟩, fun i u hu => (by cases hu), fun i u hu => (by cases hu), ?_, ?_, ?_, ⟨fun r hr => ?_, fun q => ?_⟩⟩, ?_, fun i hi => ?_, ?_⟩)
  · rw [mupd_ne2 _ _ (by omega)]; exact h10
  · show _ = (0 : Int); simp [mupd_at]
  · show _ = (0 : Int); simp [mupd_at]
  · show _ = (0 : Int); simp [mupd_at]
  · show _ = (0 : Int); simp [mupd_at]
  · show _ = (120 : Int); simp [mupd_at]
  · show _ = (0 : Int); simp [mupd_at]
  · show _ = (0 : Int); simp [mupd_at]
  · show _ = (0 : Int); simp [mupd_at]
  · have hp : (p : Int) < 0 := hp
    omega
  · have hf : (f : Int) < 0 := hf
    omega
  · have hr : (r : Int) < 0 := hr
    omega
  · have q : (0 : Int) = 1 := q
    omega
  · simp [mupd_at]
  · simp [mupd_at]
  · rw [mupd_same]
    have : empT 0 6 = 0 := rfl
    omega
  · have hr : (r : Int) < 0 := hr
    omega
  · have q : (0 : Int) = 1 := q
    omega
  · have f0 := Fp.upd (k := 385) (i := rb) (v := 0) (Fp.rf (P := pLM rb) (M := M)) (Or.inr (Or.inl ⟨by omega, by omega, rfl⟩))
    have f1 := Fp.upd (k := 386) (i := rb) (v := 0) f0 (Or.inr (Or.inl ⟨by omega, by omega, rfl⟩))
    have f2 := Fp.upd (k := 387) (i := rb) (v := 0) f1 (Or.inr (Or.inl ⟨by omega, by omega, rfl⟩))
    have f3 := Fp.upd (k := 388) (i := rb) (v := 0) f2 (Or.inr (Or.inl ⟨by omega, by omega, rfl⟩))
    have f4 := Fp.upd (k := 389) (i := rb) (v := 0) f3 (Or.inr (Or.inl ⟨by omega, by omega, rfl⟩))
    have f5 := Fp.upd (k := 390) (i := rb) (v := 0) f4 (Or.inr (Or.inl ⟨by omega, by omega, rfl⟩))
    have f6 := Fp.upd (k := 391) (i := rb) (v := 120) f5 (Or.inr (Or.inl ⟨by omega, by omega, rfl⟩))
    have f7 := Fp.upd (k := 392) (i := rb) (v := 0) f6 (Or.inr (Or.inl ⟨by omega, by omega, rfl⟩))
    have f8 := Fp.upd (k := 402) (i := rb) (v := 0) f7 (Or.inr (Or.inr (Or.inr (Or.inr (Or.inr (Or.inl ⟨rfl, rfl⟩))))))
    have f9 := Fp.upd (k := 403) (i := 7 * rb + 6) (v := 0) f8 (Or.inr (Or.inr (Or.inr (Or.inr (Or.inl ⟨Or.inr (Or.inr rfl), by omega, by omega⟩)))))
    exact Fp.upd f9 (Or.inl ⟨rfl, Or.inr ⟨by omega, by omega⟩⟩)
  · simp [mupd_at, hi]
  · funext z; simp [mupd_at]
