/-! A TOWN is taken over: the first side -/
def vIni (T : TW) : Nat → Int := fun j => if j < 8 then (if (j : Int) < T 0 0 then T 1 j else 0) else if j < 16 then (if ((j - 8 : Nat) : Int) < T 0 0 then T 2 (j - 8) else 0) else if j = 16 then ((2 ^ (T 0 0).toNat - 1 : Nat) : Int) else if j = 20 then T 0 5 else 0
theorem bt_ini (n i : Nat) : bt ((2 ^ n - 1 : Nat) : Int) i = decide (i < n) := by
  unfold bt
  rw [Int.toNat_natCast, Nat.testBit_two_pow_sub_one]
theorem pow_8 {n : Nat} (h : n ≤ 8) : 2 ^ n ≤ 256 ∧ 1 ≤ 2 ^ n := ⟨Nat.pow_le_pow_right (by omega) h, Nat.one_le_two_pow⟩
theorem okS_ini {T : TW} {R : Nat → RL} (h : okT T R) : okS T (vIni T) := by
  obtain ⟨⟨h0, h8, _, _, _, _, _, _, _, g1, g2, _⟩, h2, _⟩ := h
  have hp := pow_8 (n := (T 0 0).toNat) (by omega)
  have e16 : vIni T 16 = ((2 ^ (T 0 0).toNat - 1 : Nat) : Int) := rfl
  have e17 : vIni T 17 = 0 := rfl
  have e19 : vIni T 19 = 0 := rfl
  have e20 : vIni T 20 = T 0 5 := rfl
  refine ⟨⟨by rw [e16]; omega, by rw [e16]; omega, by omega, by omega, by omega, by omega, by omega, by omega⟩, fun p hb => ?_, fun p hb => ?_, fun l hl => ?_⟩
  · rw [e16, bt_ini] at hb
    have := of_decide_eq_true hb
    omega
  · have : vIni T p = T 1 p := by unfold vIni; rw [if_pos (by omega), if_pos hb]
    rw [this]
    have := h2 p hb
    omega
  · omega
theorem ini_pow {n : Nat} (h : n ≤ 8) : w32 (kishl 1 (n : Int) - 1) = ((2 ^ n - 1 : Nat) : Int) := by
  have hp := pow_8 h
  rw [kishl_one n (by omega), w32e (by omega) (by omega)]
  omega
/-- what the first side's town takes over -/
def becM (M : KM) : KM := mcp (mupd (mupd (mupd (mupd (mupd (mupd (mcp (mupd (mcp (mcp (mcp (mupd (mcp (mcp (mcp (mcp (mupd M 2 0 (M 15 0)) 16 3 8) 17 4 8) 18 5 8) 19 6 8) 2 5 (M 15 5)) 20 7 20) 21 8 20) 22 9 20) 2 9 (M 15 9)) 23 10 6) 2 11 (M 15 11)) 2 12 (M 15 12)) 2 13 (M 15 13)) 2 14 (M 15 14)) 2 15 (M 15 15)) 11 1 (M 24 1)) 25 12 1600
theorem X_become (M : KM) : f_Town_become M = some (becM M) := rfl
theorem becM_TC {T : TW} {R : Nat → RL} {M : KM} (hT : okT T R) (h : TC 15 T R M) : TC 2 T R (becM M) := by
  obtain ⟨⟨n0, n8, f0, f20, r0, r6, _⟩, _⟩ := hT
  obtain ⟨⟨t1, t2, t3, t4, t5, t6, t7⟩, u1, u2, u3, u4, u5⟩ := h
  have c11 : becM M 11 1 = M 24 1 := by simp [becM, mcp_at, mupd_at]
  have c12 : ∀ i, i < 1600 → becM M 12 i = M 25 i := fun i hi => by simp [becM, mcp_at, mupd_at, hi]
  have cr : ∀ s L, CRule 15 M s L → CRule 2 (becM M) s L := fun s L hc => by
    obtain ⟨a1, a2, a3, a4⟩ := hc
    have a2' : s + L.length < M 24 1 := a2
    have u5' : M 24 1 ≤ 1600 := u5.2
    refine ⟨a1, by show s + L.length < becM M 11 1; rw [c11]; exact a2, fun i q hq => ?_, ?_⟩
    · have : i < L.length := (List.getElem?_eq_some_iff.mp hq).1
      show becM M 12 _ = _
      rw [c12 _ (by omega)]
      exact a3 i q hq
    · show becM M 12 _ = _
      rw [c12 _ (by omega)]
      exact a4
  refine ⟨⟨?_, ?_, ?_, ?_, ?_, ?_, ?_⟩, fun p hp => ?_, fun f hf => ?_, fun r hr => ?_, ⟨fun q => ?_, fun q => ?_⟩, ?_⟩
  · rw [← t1]; simp [becM, mcp_at, mupd_at]
  · rw [← t2]; simp [becM, mcp_at, mupd_at]
  · rw [← t3]; simp [becM, mcp_at, mupd_at]
  · rw [← t4]; simp [becM, mcp_at, mupd_at]
  · rw [← t5]; simp [becM, mcp_at, mupd_at]
  · rw [← t6]; simp [becM, mcp_at, mupd_at]
  · rw [← t7]; simp [becM, mcp_at, mupd_at]
  · have hp8 : p < 8 := by omega
    obtain ⟨a1, a2, a3, a4⟩ := u1 p hp
    rw [← a1, ← a2, ← a3, ← a4]
    refine ⟨?_, ?_, ?_, ?_⟩ <;> simp [becM, mcp_at, mupd_at, hp8]
  · have hf8 : f < 20 := by omega
    obtain ⟨a1, a2, a3⟩ := u2 f hf
    rw [← a1, ← a2, ← a3]
    refine ⟨?_, ?_, ?_⟩ <;> simp [becM, mcp_at, mupd_at, hf8]
  · have hr6 : r < 6 := by omega
    have : becM M (2 + 8) r = M (15 + 8) r := by simp [becM, mcp_at, mupd_at, hr6]
    rw [this]
    exact cr _ _ (u3 r hr)
  · rw [← u4.1 q]; simp [becM, mcp_at, mupd_at]
  · have : becM M 2 11 = M 15 11 := by simp [becM, mcp_at, mupd_at]
    rw [this]
    exact cr _ _ (u4.2 q)
  · show 0 ≤ becM M 11 1 ∧ becM M 11 1 ≤ 1600
    rw [c11]
    exact u5
theorem becM_f (M : KM) : Fp (fun k _ => 2 ≤ k ∧ k ≤ 12) M (becM M) := by
  refine ((((((((((((((((((Fp.rf.upd ?_).cp ?_).cp ?_).cp ?_).cp ?_).upd ?_).cp ?_).cp ?_).cp ?_).upd ?_).cp ?_).upd ?_).upd ?_).upd ?_).upd ?_).upd ?_).upd ?_).cp ?_) <;> first | exact fun _ _ => by decide | decide
/-- the town's first state -/
def beginM (M : KM) : KM := mupd (mupd (mupd (mupd (mupd (mupd (mupd (mcp (mcp M 3 35 8) 4 36 8) 34 2 (M 2 0)) 34 3 (w32 (kishl 1 (M 2 0) - 1))) 34 4 0) 34 5 (M 2 14)) 34 6 0) 34 7 0) 34 8 0
theorem X_sbegin (M : KM) : f_State_begin M = some (beginM M) := by
  unfold f_State_begin beginM
  simp [letM_, mupd_at, mcp_at]
theorem beginM_SC {T : TW} {R : Nat → RL} {M : KM} (hT : okT T R) (h : TC 2 T R M) : SC 34 (T 0 0) (vIni T) (beginM M) := by
  obtain ⟨⟨n0, n8, _⟩, _⟩ := hT
  obtain ⟨⟨t1, t2, t3, t4, t5, t6, t7⟩, u1, _⟩ := h
  have e17 : vIni T 17 = 0 := rfl
  have e16 : vIni T 16 = ((2 ^ (T 0 0).toNat - 1 : Nat) : Int) := rfl
  have ep : w32 (kishl 1 (T 0 0) - 1) = vIni T 16 := by
    rw [e16, ← ini_pow (n := (T 0 0).toNat) (by omega), show ((T 0 0).toNat : Int) = T 0 0 by omega]
  refine ⟨⟨?_, ?_, ?_, ?_, ?_, ?_⟩, fun p hp => ?_, ?_, fun l hl => ?_⟩
  · rw [← t1]; simp [beginM, mcp_at, mupd_at]
  · rw [← ep, ← t1]; simp [beginM, mcp_at, mupd_at]
  · show _ = (0 : Int); simp [beginM, mupd_at]
  · show _ = T 0 5; rw [← t6]; simp [beginM, mcp_at, mupd_at]
  · show _ = (0 : Int); simp [beginM, mupd_at]
  · show _ = (0 : Int); simp [beginM, mupd_at]
  · have hp8 : p < 8 := by omega
    have g1 : vIni T p = T 1 p := by unfold vIni; rw [if_pos hp8, if_pos hp]
    have g2 : vIni T (8 + p) = T 2 p := by unfold vIni; rw [if_neg (by omega), if_pos (by omega), show 8 + p - 8 = p by omega, if_pos hp]
    obtain ⟨a1, a2, _⟩ := u1 p hp
    rw [g1, g2, ← a1, ← a2]
    refine ⟨?_, ?_⟩ <;> simp [beginM, mcp_at, mupd_at, hp8]
  · have : beginM M 34 8 = 0 := by simp [beginM, mupd_at]
    rw [this]; exact ⟨by decide, by decide, fun i _ => by unfold bt; simp⟩
  · omega
theorem beginM_f (M : KM) : Fp (fun k _ => 34 ≤ k ∧ k ≤ 36) M (beginM M) := by
  refine (((((((((Fp.rf.cp ?_).cp ?_).upd ?_).upd ?_).upd ?_).upd ?_).upd ?_).upd ?_).upd ?_) <;> first | exact fun _ _ => by decide | decide
theorem bt_0 (i : Nat) : bt 0 i = false := by unfold bt; simp
def tapW (X : Nat → Int) : Nat → Int := fun i => kiand (X i) 255
theorem tapW_R (X : Nat → Int) : TXR (tapW X) := fun i => kiand_255 (X i)
def pTX (k j : Nat) : Prop := k < 382 ∧ k ≠ 1 ∧ ¬ (k = 349 ∧ j = 1)
theorem X_town {M : KM} {L : Nat} {X : Nat → Int} (h : PC L X M) (hL : L ≤ 1600) : ∃ J, lastT (tapW X) L J ∧ Ret (f_X_town M) (fun q => Sum.elim
    (fun e : Int × Nat => q.1 = -1 ∧ fC e.1 e.2 q.2 ∧ q.2 0 1 = 0 ∧ Fp (fun k j => (14 ≤ k ∧ k ≤ 33) ∨ (k = 0 ∧ j = 1)) M q.2)
    (fun s : LST => okT s.2.1 s.2.2.1 ∧ q.1 = s.2.1 0 0 ∧ WC s.2.1 s.2.2.1 (vIni s.2.1) q.2 ∧ HC 0 0 (fun _ => vIni s.2.1) (s.2.1 0 0) q.2 ∧ q.2 14 0 = 0 ∧ q.2 14 1 = -1 ∧ q.2 0 1 = 0 ∧ q.2 0 7 = 0 ∧ q.2 0 9 = 0 ∧ q.2 0 16 = 0 ∧ q.2 349 0 = 0 ∧ Fp pTX M q.2) (rdP (tapW X) L 1600 0 s0L)) := by
  obtain ⟨J, hJ, hr⟩ := X_read (W := tapW X) (n := L) (M := M) ⟨hL, fun i hi => by rw [h.2 i hi]; rfl⟩ (tapW_R X)
  refine ⟨J, hJ, ?_⟩
  unfold f_X_town
  rw [h.1]
  refine Ret.bind hr ?_
  rintro q ⟨g1, g2⟩
  refine Ret.letM ?_
  have fx : Fp pTX M (mupd q.2 0 1 0) := (g2.mono fun k j hk => ⟨by omega, by omega, by omega⟩).upd ⟨by omega, by omega, by omega⟩
  cases hx : rdP (tapW X) L 1600 0 s0L with
  | inl e =>
    rw [hx] at g1
    refine Ret.t g1.1 (Ret.pure ⟨rfl, ⟨?_, ?_⟩, by dsimp only; exact mupd_same _ _ _ _, (g2.mono fun k j hk => Or.inl hk).upd (Or.inr ⟨rfl, rfl⟩)⟩)
    · dsimp only; rw [mupd_ne _ _ (by omega)]; exact g1.2.1
    · dsimp only; rw [mupd_ne _ _ (by omega)]; exact g1.2.2
  | inr s =>
    rw [hx] at g1
    obtain ⟨a1, a2, a3, a4⟩ := g1
    obtain ⟨ln', hl⟩ := rdP_ok hJ 1600 0 s0L s LTS_0 (Nat.zero_le _) hx
    have hT : okT s.2.1 s.2.2.1 := hl.1
    refine Ret.f (by omega) ?_
    rw [X_become, ob_some, X_sbegin, ob_some]
    have hc : TC 15 s.2.1 s.2.2.1 (mupd q.2 0 1 0) := TC15_congr a2 fun c h1 h2 => by funext z; rw [mupd_ne _ _ (by omega)]
    generalize hM2 : mupd q.2 0 1 0 = M2 at *
    have h2 := becM_TC hT hc
    have hs := beginM_SC hT h2
    have fB := becM_f M2
    have fb := beginM_f (becM M2)
    have f3 : Fp pTX M (beginM (becM M2)) := (fx.tr (fB.mono fun k j hk => ⟨by omega, by omega, by omega⟩)).tr (fb.mono fun k j hk => ⟨by omega, by omega, by omega⟩)
    refine Ret.bind (X_begin hs (show (0 : Int) ≤ 30 by decide) hT.1.2.1) ?_
    rintro q5 ⟨c1, c2⟩
    have f5 : Fp pTX M q5 := f3.tr (c2.mono fun k j hk => by unfold pHC at hk; exact ⟨by omega, by omega, by omega⟩)
    have k5 : ∀ k, k < 34 ∨ 350 ≤ k → k < 2 ∨ 12 < k → q5 k = M2 k := fun k h1 h2 => by
      rw [c2.row (fun j hj => by unfold pHC at hj; omega), fb.row (fun j hj => by omega), fB.row (fun j hj => by omega)]
    have hw : WC s.2.1 s.2.2.1 (vIni s.2.1) q5 := by
      refine WC.congr (M := beginM (becM M2)) ⟨?_, hs⟩ fun k j hk => c2 k j (by unfold pN at hk; unfold pHC; omega)
      obtain ⟨x1, x2, x3, x4, x5, x6⟩ := h2
      have row : ∀ c, 2 ≤ c → c ≤ 12 → beginM (becM M2) c = becM M2 c := fun c h1 h2 => fb.row fun j hj => by omega
      have cr : ∀ z K, CRule 2 (becM M2) z K → CRule 2 (beginM (becM M2)) z K := fun z K hz => hz.congr (by rw [row 11 (by omega) (by omega)]) (row 12 (by omega) (by omega))
      refine ⟨by rw [row 2 (by omega) (by omega)]; exact x1, fun p hp => ?_, fun f hf => ?_, fun r hr => ?_, ⟨fun q => ?_, fun q => ?_⟩, ?_⟩
      · rw [row (2 + 1) (by omega) (by omega), row (2 + 2) (by omega) (by omega), row (2 + 3) (by omega) (by omega), row (2 + 4) (by omega) (by omega)]; exact x2 p hp
      · rw [row (2 + 5) (by omega) (by omega), row (2 + 6) (by omega) (by omega), row (2 + 7) (by omega) (by omega)]; exact x3 f hf
      · rw [row (2 + 8) (by omega) (by omega)]; exact cr _ _ (x4 r hr)
      · rw [row 2 (by omega) (by omega)]; exact x5.1 q
      · rw [row 2 (by omega) (by omega)]; exact cr _ _ (x5.2 q)
      · rw [row (2 + 9) (by omega) (by omega)]; exact x6
    refine Ret.letM (Ret.letM ?_)
    have ef : ∀ M : KM, f_Faces_clear M = some (mupd M 349 0 0) := fun _ => rfl
    rw [ef, ob_some]
    refine Ret.letM (Ret.pure ?_)
    generalize hM9 : mupd (mupd (mupd (mupd q5 0 7 0) 0 9 0) 349 0 0) 0 16 0 = M9
    have k9 : ∀ k j, k ≠ 0 → ¬ (k = 349 ∧ j = 0) → M9 k j = q5 k j := fun k j h1 h2 => by
      rw [← hM9, mupd_ne _ _ h1, mupd_at, if_neg h2, mupd_ne _ _ h1, mupd_ne _ _ h1]
    have w9 : WC s.2.1 s.2.2.1 (vIni s.2.1) M9 := hw.congr fun k j hk => k9 k j (by unfold pN at hk; omega) (by unfold pN at hk; omega)
    refine ⟨hT, w9.n, w9, c1.congr fun k j hk => k9 k j (by unfold pHC at hk; omega) (by unfold pHC at hk; omega), ?_, ?_, ?_, ?_, ?_, ?_, ?_, ?_⟩
    · dsimp only; rw [k9 14 0 (by omega) (by omega), k5 14 (by omega) (by omega), ← hM2, mupd_ne _ _ (by omega)]; exact a3
    · dsimp only; rw [k9 14 1 (by omega) (by omega), k5 14 (by omega) (by omega), ← hM2, mupd_ne _ _ (by omega)]; exact a4
    · dsimp only; rw [← hM9, mupd_ne2 _ _ (by omega), mupd_ne _ _ (by omega), mupd_ne2 _ _ (by omega), mupd_ne2 _ _ (by omega), k5 0 (by omega) (by omega), ← hM2, mupd_same]
    · dsimp only; rw [← hM9]; simp [mupd_at]
    · dsimp only; rw [← hM9]; simp [mupd_at]
    · dsimp only; rw [← hM9]; simp [mupd_at]
    · dsimp only; rw [← hM9]; simp [mupd_at]
    · dsimp only; rw [← hM9]; exact (((f5.upd ⟨by omega, by omega, by omega⟩).upd ⟨by omega, by omega, by omega⟩).upd ⟨by omega, by omega, by omega⟩).upd ⟨by omega, by omega, by omega⟩
