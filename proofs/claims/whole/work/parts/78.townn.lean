/-! A TOWN is read by the second side -/
/-- the rules of the bank in use lie in its half -/
def RGf (b : Nat) (T : TW) (M : KM) : Prop := RG b T ((560 * b + 560 : Nat) : Int) M
def pTN (rb k j : Nat) : Prop := pLM rb k j ∨ k = 384 ∨ (k = 382 ∧ (j = 2 ∨ j = 3 ∨ j = 38))
theorem pTN_no {b rb k j : Nat} (hb : b < 2) (hrb : rb < 2) (hne : b ≠ rb) (h : (k = 382 ∧ j = 37) ∨ (385 ≤ k ∧ k ≤ 392 ∧ j = b) ∨ (393 ≤ k ∧ k ≤ 396 ∧ 8 * b ≤ j ∧ j < 8 * b + 8) ∨ (397 ≤ k ∧ k ≤ 399 ∧ 20 * b ≤ j ∧ j < 20 * b + 20) ∨ ((k = 400 ∨ k = 401 ∨ k = 403) ∧ 7 * b ≤ j ∧ j < 7 * b + 7) ∨ ((k = 406 ∨ k = 407) ∧ 560 * b ≤ j ∧ j < 560 * b + 560)) : ¬ pTN rb k j := by
  intro q
  unfold pTN pLM at q
  rcases h with h | h | h | h | h | h <;> rcases q with (q | q | q | q | q | q | q | q | q | q | q) | q | q <;> omega
theorem TM_other {b rb : Nat} {T : TW} {R : Nat → RL} {M M' : KM} (hb : b < 2) (hrb : rb < 2) (hne : b ≠ rb) (hT : okT T R) (h : TM b T R M) (hg : RGf b T M) (hf : Fp (pTN rb) M M') : TM b T R M' ∧ RGf b T M' := by
  obtain ⟨⟨n0, n8, f0, f20, r0, r6, _⟩, _⟩ := hT
  have e4 : ∀ r, r < 7 → M' 400 (7 * b + r) = M 400 (7 * b + r) ∧ M' 401 (7 * b + r) = M 401 (7 * b + r) := fun r hr => ⟨hf _ _ (pTN_no hb hrb hne (Or.inr (Or.inr (Or.inr (Or.inr (Or.inl ⟨Or.inl rfl, by omega, by omega⟩)))))), hf _ _ (pTN_no hb hrb hne (Or.inr (Or.inr (Or.inr (Or.inr (Or.inl ⟨Or.inr (Or.inl rfl), by omega, by omega⟩))))))⟩
  have mr : ∀ r L, r < 7 → ((560 * b : Nat) : Int) ≤ M 400 (7 * b + r) → M 401 (7 * b + r) ≤ ((560 * b + 560 : Nat) : Int) → MRule b M r L → MRule b M' r L := fun r L hr h1 h2 hm => by
    have hl := hm.2.1
    refine MRule_congr hm (e4 r hr).1 (e4 r hr).2 fun i hi => ?_
    have i1 : 560 * b ≤ (M 400 (7 * b + r)).toNat + i ∧ (M 400 (7 * b + r)).toNat + i < 560 * b + 560 := by omega
    exact ⟨hf _ _ (pTN_no hb hrb hne (Or.inr (Or.inr (Or.inr (Or.inr (Or.inr ⟨Or.inl rfl, i1.1, i1.2⟩)))))), hf _ _ (pTN_no hb hrb hne (Or.inr (Or.inr (Or.inr (Or.inr (Or.inr ⟨Or.inr rfl, i1.1, i1.2⟩))))))⟩
  constructor
  · refine TM_congr h (fun c h1 h2 => hf _ _ (pTN_no hb hrb hne (Or.inr (Or.inl ⟨h1, by omega, rfl⟩)))) (fun c h1 h2 p hp => hf _ _ (pTN_no hb hrb hne (Or.inr (Or.inr (Or.inl ⟨h1, h2, by omega, by omega⟩))))) (fun c h1 h2 p hp => hf _ _ (pTN_no hb hrb hne (Or.inr (Or.inr (Or.inr (Or.inl ⟨h1, h2, by omega, by omega⟩)))))) (hf _ _ (pTN_no hb hrb hne (Or.inr (Or.inr (Or.inr (Or.inr (Or.inl ⟨Or.inr (Or.inr rfl), by omega, by omega⟩))))))) (fun r hr hm => ?_) (fun q hm => ?_)
    · exact mr r _ (by omega) (hg.1 r hr).1 (hg.1 r hr).2 hm
    · exact mr 6 _ (by omega) (hg.2 q).1 (hg.2 q).2 hm
  · refine ⟨fun r hr => ?_, fun q => ?_⟩
    · rw [(e4 r (by omega)).1, (e4 r (by omega)).2]; exact hg.1 r hr
    · rw [(e4 6 (by omega)).1, (e4 6 (by omega)).2]; exact hg.2 q
theorem kw8_id {x : Int} (h : -128 ≤ x ∧ x < 128) : kw8 x = x := by
  unfold kw8
  rw [Int8.toInt_ofInt]
  show x.bmod 256 = x
  exact Int.bmod_eq_of_le (by omega) (by omega)
def xR (L : Nat) (X : Nat → Int) : Prop := ∀ i, i < L → -128 ≤ X i ∧ X i < 128
def pTY (k j : Nat) : Prop := 382 ≤ k ∧ k ≠ 383 ∧ ¬ (k = 382 ∧ (j = 59 ∨ j = 72))
theorem pTN_Y {rb : Nat} : ∀ k j, pTN rb k j → pTY k j := fun k j q => by
  unfold pTN pLM at q
  unfold pTY
  rcases q with (q | q | q | q | q | q | q | q | q | q | q) | q | q <;> omega
theorem pSA_Y : ∀ k j, pSA k j → pTY k j := fun k j q => by
  unfold pSA at q
  unfold pTY
  omega
theorem RGf_congr {b : Nat} {T : TW} {R : Nat → RL} {M M' : KM} (hT : okT T R) (h : RGf b T M) (h0 : M' 400 = M 400) (h1 : M' 401 = M 401) : RGf b T M' := by
  unfold RGf RG at h ⊢
  rw [h0, h1]; exact h
theorem M_town {M : KM} {b L J : Nat} {X : Nat → Int} (h : PM L X M) (hL : L ≤ 1600) (hX : xR L X) (hb : BK b M) (hJ : lastT (tapW X) L J) : Ret (f_M_town M) (fun q => Sum.elim
    (fun e : Int × Nat => q.1 = -1 ∧ q.2 382 4 = e.1 ∧ q.2 382 5 = (e.2 : Int) ∧ q.2 382 2 = 0 ∧ Fp (pTN (1 - b)) M q.2)
    (fun s : LST => q.1 = s.2.1 0 0 ∧ WM (1 - b) s.2.1 s.2.2.1 (vIni s.2.1) q.2 ∧ RGf (1 - b) s.2.1 q.2 ∧ (q.2 382 4 = 0 ∧ q.2 382 5 = -1 ∧ q.2 382 2 = 0) ∧ (∀ p, p < 8 → q.2 414 p = -1) ∧ (∀ i, i < 3 → q.2 434 i = 0) ∧ (q.2 382 48 = 0 ∧ q.2 382 49 = 0 ∧ q.2 382 71 = 0 ∧ q.2 382 63 = 0) ∧ Fp pTY M q.2) (rdP (tapW X) L 1600 0 s0L)) := by
  obtain ⟨hb2, h37⟩ := hb
  obtain ⟨rb, hrb⟩ : ∃ rb, rb = 1 - b := ⟨_, rfl⟩
  rw [← hrb]
  have hrb2 : rb < 2 := by omega
  unfold f_M_town
  refine Ret.letM (Ret.letM (Ret.letM ?_))
  have f3 : Fp (pTN rb) M (mupd (mupd (mupd M 382 4 0) 382 5 (-1)) 382 3 (mupd (mupd M 382 4 0) 382 5 (-1) 382 2)) := ((Fp.rf.upd (Or.inl (Or.inl ⟨rfl, Or.inl ⟨by omega, by omega⟩⟩))).upd (Or.inl (Or.inl ⟨rfl, Or.inl ⟨by omega, by omega⟩⟩))).upd (Or.inr (Or.inr ⟨rfl, by omega⟩))
  have a3 : mupd (mupd (mupd M 382 4 0) 382 5 (-1)) 382 3 (mupd (mupd M 382 4 0) 382 5 (-1) 382 2) 382 3 = (L : Int) := by rw [mupd_same, mupd_ne2 _ _ (by omega), mupd_ne2 _ _ (by omega)]; exact h.1
  have a4 : mupd (mupd (mupd M 382 4 0) 382 5 (-1)) 382 3 (mupd (mupd M 382 4 0) 382 5 (-1) 382 2) 382 4 = 0 := by simp [mupd_at]
  have a5 : mupd (mupd (mupd M 382 4 0) 382 5 (-1)) 382 3 (mupd (mupd M 382 4 0) 382 5 (-1) 382 2) 382 5 = -1 := by simp [mupd_at]
  generalize mupd (mupd (mupd M 382 4 0) 382 5 (-1)) 382 3 (mupd (mupd M 382 4 0) 382 5 (-1) 382 2) = M3 at *
  have a37 : M3 382 37 = (b : Int) := by rw [f3 382 37 (pTN_no hb2 hrb2 (by omega) (Or.inl ⟨rfl, rfl⟩))]; exact h37
  have a383 : M3 383 = M 383 := f3.row fun j q => by
    unfold pTN pLM at q
    rcases q with (q | q | q | q | q | q | q | q | q | q | q) | q | q <;> omega
  refine Ret.bind (R := fun q : KM => (∀ i, i < L → q 384 i = X i) ∧ Fp (fun k _ => k = 384) M3 q) (Ret.loop L (fun k s => s.1 = (k : Int) ∧ (∀ i, i < k → s.2 384 i = X i) ∧ Fp (fun k _ => k = 384) M3 s.2) ⟨rfl, fun i hi => by omega, Fp.rf⟩ ?_ ?_) ?_
  · rintro k s hk ⟨h1, h2, h3⟩
    rw [h1, h3 382 3 (by omega), a3]
    refine Ret.t (by omega) (Ret.t (by omega) (Ret.t (by omega) (Ret.letM (Ret.pure ⟨?_, fun i hi => ?_, h3.upd rfl⟩))))
    · dsimp only; rw [w32e (by omega) (by omega)]; omega
    · dsimp only
      rw [Int.toNat_natCast, mupd_at, h3.row (k := 383) (fun j q => by omega), a383, h.2 k hk, kw8_id (hX k hk)]
      split
      · rename_i q; rw [q.2]
      · exact h2 i (by omega)
  · rintro s ⟨h1, h2, h3⟩
    rw [h1, h3 382 3 (by omega), a3]
    exact Ret.f (by omega) (Ret.pure ⟨h2, h3⟩)
  rintro e6 ⟨t1, t2⟩
  refine Ret.letM (Ret.letM (Ret.letM ?_))
  have e37 : mupd (mupd e6 382 2 0) 382 7 0 382 37 = (b : Int) := by rw [mupd_ne2 _ _ (by omega), mupd_ne2 _ _ (by omega), t2 382 37 (by omega)]; exact a37
  rw [e37, w32e (n := 1 - (b : Int)) (by omega) (by omega), show (1 : Int) - (b : Int) = (rb : Int) by omega]
  have f6 : Fp (pTN rb) M (mupd (mupd (mupd e6 382 2 0) 382 7 0) 382 38 (rb : Int)) := (((f3.tr (t2.mono fun k j hk => Or.inr (Or.inl hk))).upd (Or.inr (Or.inr ⟨rfl, by omega⟩))).upd (Or.inl (Or.inl ⟨rfl, Or.inl ⟨by omega, by omega⟩⟩))).upd (Or.inr (Or.inr ⟨rfl, by omega⟩))
  have b2 : mupd (mupd (mupd e6 382 2 0) 382 7 0) 382 38 (rb : Int) 382 2 = 0 := by simp [mupd_at]
  have b7 : mupd (mupd (mupd e6 382 2 0) 382 7 0) 382 38 (rb : Int) 382 7 = 0 := by simp [mupd_at]
  have b38 : mupd (mupd (mupd e6 382 2 0) 382 7 0) 382 38 (rb : Int) 382 38 = (rb : Int) := mupd_same _ _ _ _
  have bk : ∀ i, i ≠ 2 → i ≠ 7 → i ≠ 38 → mupd (mupd (mupd e6 382 2 0) 382 7 0) 382 38 (rb : Int) 382 i = M3 382 i := fun i h1 h2 h3 => by rw [mupd_ne2 _ _ h3, mupd_ne2 _ _ h2, mupd_ne2 _ _ h1, t2 382 i (by omega)]
  have b384 : mupd (mupd (mupd e6 382 2 0) 382 7 0) 382 38 (rb : Int) 384 = e6 384 := by funext z; simp [mupd_at]
  generalize mupd (mupd (mupd e6 382 2 0) 382 7 0) 382 38 (rb : Int) = M9 at *
  have hW := tapW_R X
  have tx9 : TXM (tapW X) L M9 := ⟨hL, by rw [bk 3 (by omega) (by omega) (by omega)]; exact a3, fun i hi => by rw [b384, t1 i hi]; rfl⟩
  obtain ⟨q10, c1, c2, c3, c4, c5⟩ := M_clearBank b38 hrb2
  rw [c1, ob_some]
  have tx10 : TXM (tapW X) L q10 := tx9.congr (c4 3 (by omega)) c5
  have f10 : Fp (pTN rb) M q10 := f6.tr (c3.mono fun k j hk => Or.inl hk)
  obtain ⟨q11, d1, d2, d3⟩ := M_goOn (e0 := 0) tx10 hW (by rw [c4 7 (by omega)]; exact b7) (Nat.zero_le _)
  rw [d1, ob_some]
  have k11 : ∀ i, i < 6 ∨ 10 < i → q11 382 i = q10 382 i := fun i hi => d3 382 i fun q => by have := q.2; omega
  have r11 : ∀ k, k ≠ 382 → q11 k = q10 k := fun k hk => d3.row fun j q => hk q.1
  have hRM : RM (tapW X) L 0 q11 := ⟨⟨tx10.go d3, by rw [k11 5 (by omega), c4 5 (by omega), bk 5 (by omega) (by omega) (by omega)]; exact a5⟩, d2, by rw [k11 4 (by omega), c4 4 (by omega), bk 4 (by omega) (by omega) (by omega)]; exact a4⟩
  have hLM : LMd rb 0 empT (fun _ => []) [] [] false q11 := by
    obtain ⟨l1, l2, l3, l4, l5, l6, l7, l8⟩ := c2
    refine ⟨by rw [k11 38 (by omega)]; exact l1, ?_, fun i u hu => (by cases hu), fun i u hu => (by cases hu), by rw [r11 402 (by omega)]; exact l5, by rw [r11 392 (by omega)]; exact l6, by rw [k11 39 (by omega)]; exact l7, ?_⟩
    · exact TM_congr l2 (fun c h1 h2 => by rw [r11 c (by omega)]) (fun c h1 h2 p hp => by rw [r11 c (by omega)]) (fun c h1 h2 p hp => by rw [r11 c (by omega)]) (by rw [r11 403 (by omega)]) (fun r hr hm => by have hr : (r : Int) < 0 := hr; omega) (fun q hm => by have q : (0 : Int) = 1 := q; omega)
    · exact ⟨fun r hr => by have hr : (r : Int) < 0 := hr; omega, fun q => by have q : (0 : Int) = 1 := q; omega⟩
  have f11 : Fp (pTN rb) M q11 := f10.tr (d3.mono fun k j hk => Or.inl (Or.inl ⟨hk.1, Or.inl ⟨by have := hk.2; omega, by have := hk.2; omega⟩⟩))
  have e2 : q11 382 2 = 0 := by rw [k11 2 (by omega), c4 2 (by omega)]; exact b2
  refine Ret.bind (M_lines hJ hL hW hrb2 1600 0 s0L q11 rfl (Nat.zero_le _) (Nat.zero_le _) LTS_0 hRM hLM Fp.rf) ?_
  rintro e15 ⟨g1, g2⟩
  have f15 : Fp (pTN rb) M e15 := f11.tr (g2.mono fun k j hk => Or.inl hk)
  have e15_2 : e15 382 2 = 0 := by
    rw [g2 382 2 fun q => ?_]; exact e2
    unfold pLM at q
    rcases q with q | q | q | q | q | q | q | q | q | q | q <;> omega
  rw [M_isGood, ob_some]
  cases hx : rdP (tapW X) L 1600 0 s0L with
  | inl e =>
    rw [hx] at g1
    obtain ⟨⟨g3, g4, _⟩, g5⟩ := g1
    have g6 : ¬ e15 382 4 = 0 := by rw [g3]; exact g5
    rw [if_neg g6]
    exact Ret.t rfl (Ret.pure ⟨rfl, g3, g4, e15_2, f15⟩)
  | inr s =>
    rw [hx] at g1
    obtain ⟨ln', g3, g4⟩ := g1
    obtain ⟨ln2, hl⟩ := rdP_ok hJ 1600 0 s0L s LTS_0 (Nat.zero_le _) hx
    have hT : okT s.2.1 s.2.2.1 := hl.1
    rw [if_pos g3.2.2]
    refine Ret.f (by decide) (Ret.letM ?_)
    have m38 := g4.1
    rw [m38]
    have hbk : BK rb (mupd e15 382 37 (rb : Int)) := ⟨hrb2, mupd_same _ _ _ _⟩
    have r17 : ∀ k, k ≠ 382 → mupd e15 382 37 (rb : Int) k = e15 k := fun k hk => by funext z; rw [mupd_ne _ _ hk]
    have htm : TM rb s.2.1 s.2.2.1 (mupd e15 382 37 (rb : Int)) := TM_congr g4.2.1 (fun c h1 h2 => by rw [r17 c (by omega)]) (fun c h1 h2 p hp => by rw [r17 c (by omega)]) (fun c h1 h2 p hp => by rw [r17 c (by omega)]) (by rw [r17 403 (by omega)]) (fun r hr hm => MRule_congr hm (by rw [r17 400 (by omega)]) (by rw [r17 401 (by omega)]) fun i hi => by rw [r17 406 (by omega), r17 407 (by omega)]; exact ⟨rfl, rfl⟩) (fun q hm => MRule_congr hm (by rw [r17 400 (by omega)]) (by rw [r17 401 (by omega)]) fun i hi => by rw [r17 406 (by omega), r17 407 (by omega)]; exact ⟨rfl, rfl⟩)
    refine Ret.bind (M_startAnew hbk hT htm) ?_
    rintro q18 ⟨s1, s2, s3, s4, s5⟩
    have q37 : q18 382 37 = (rb : Int) := by rw [s5 382 37 (by unfold pSA; omega)]; exact mupd_same _ _ _ _
    have r18 : ∀ k, 383 ≤ k → k < 411 → q18 k = e15 k := fun k h1 h2 => by rw [s5.row fun j q => by unfold pSA at q; omega, r17 k (by omega)]
    have k18 : ∀ i, i < 37 → q18 382 i = e15 382 i := fun i hi => by rw [s5 382 i (by unfold pSA; omega), mupd_ne2 _ _ (by omega)]
    have h18 : TM rb s.2.1 s.2.2.1 q18 := TM_congr g4.2.1 (fun c h1 h2 => by rw [r18 c (by omega) (by omega)]) (fun c h1 h2 p hp => by rw [r18 c (by omega) (by omega)]) (fun c h1 h2 p hp => by rw [r18 c (by omega) (by omega)]) (by rw [r18 403 (by omega) (by omega)]) (fun r hr hm => MRule_congr hm (by rw [r18 400 (by omega) (by omega)]) (by rw [r18 401 (by omega) (by omega)]) fun i hi => by rw [r18 406 (by omega) (by omega), r18 407 (by omega) (by omega)]; exact ⟨rfl, rfl⟩) (fun q hm => MRule_congr hm (by rw [r18 400 (by omega) (by omega)]) (by rw [r18 401 (by omega) (by omega)]) fun i hi => by rw [r18 406 (by omega) (by omega), r18 407 (by omega) (by omega)]; exact ⟨rfl, rfl⟩)
    have hg18 : RGf rb s.2.1 q18 := by
      have ha := g4.2.2.2.2.2.2.1
      have hr := g4.2.2.2.2.2.2.2
      have h60 : s.2.1 0 6 ≤ 60 := hT.1.2.2.2.2.2.2.2.2.2.2.2.2.1
      refine ⟨fun r hq => ?_, fun q => ?_⟩
      · rw [r18 400 (by omega) (by omega), r18 401 (by omega) (by omega)]
        have := hr.1 r hq
        exact ⟨this.1, by omega⟩
      · rw [r18 400 (by omega) (by omega), r18 401 (by omega) (by omega)]
        have := hr.2 q
        exact ⟨this.1, by omega⟩
    rw [q37]
    refine Ret.t (by omega) (Ret.pure ⟨?_, ⟨⟨hrb2, q37⟩, h18, s1⟩, hg18, ⟨?_, ?_, ?_⟩, s2, s3, s4, ?_⟩)
    · dsimp only; rw [Int.toNat_natCast, r18 385 (by omega) (by omega)]; exact g4.2.1.1.1
    · dsimp only; rw [k18 4 (by omega)]; exact g3.2.2
    · dsimp only; rw [k18 5 (by omega)]; exact g3.1.2
    · dsimp only; rw [k18 2 (by omega)]; exact e15_2
    · exact ((f15.mono pTN_Y).upd (by unfold pTY; omega)).tr (s5.mono pSA_Y)
