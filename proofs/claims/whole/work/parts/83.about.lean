/-! ABOUT, and a TOWN on both sides -/
theorem C_about {M : KM} (h : JJ M) (n : Int) : CQ (f_X_about n M) (f_M_about n M) := by
  obtain ⟨b, T, R, v, a, u, hs, fl, bx, c, t, F, l, tg, ta, L, X, e0, e1, ok, iX, iM⟩ := h
  obtain ⟨⟨⟨tc, _⟩, ⟨sc, _⟩⟩, ⟨o, _, hc, _⟩, _, ⟨fc, _⟩, ⟨_, lc, _⟩, gc, ⟨pc, _⟩, _⟩ := iX
  obtain ⟨⟨⟨bk, ⟨tm, _⟩, sm⟩, _⟩, ⟨hm, _⟩, _, ⟨fm, _⟩, ⟨_, lm, _⟩, gm, ⟨pm, _⟩, _, _⟩ := iM
  have hb : 0 ≤ M 382 37 ∧ M 382 37 < 2 := by have := bk.1; have := bk.2; omega
  have eb : (M 382 37).toNat = b := by rw [bk.2, Int.toNat_natCast]
  have s : ∀ j, j < 171 → M 411 j = v j := fun j hj => by have := sm j hj; rw [Nat.zero_add] at this; exact this
  unfold CQ f_X_about f_M_about
  by_cases h0 : n = 0
  · exact ⟨T 0 0, by rw [if_pos h0, tc.1], by rw [if_pos h0, e_M_many bk, ob_some, tm.1]⟩
  by_cases h1 : n = 1
  · exact ⟨T 0 1, by rw [if_neg h0, if_pos h1, tc.2.1], by rw [if_neg h0, if_pos h1, if_pos hb, eb, tm.2.1]⟩
  by_cases h2 : n = 2
  · exact ⟨T 0 2, by rw [if_neg h0, if_neg h1, if_pos h2, tc.2.2.1], by rw [if_neg h0, if_neg h1, if_pos h2, if_pos hb, eb, tm.2.2.1]⟩
  by_cases h3 : n = 3
  · exact ⟨T 0 3, by rw [if_neg h0, if_neg h1, if_neg h2, if_pos h3, tc.2.2.2.1], by rw [if_neg h0, if_neg h1, if_neg h2, if_pos h3, if_pos hb, eb, tm.2.2.2.1]⟩
  by_cases h4 : n = 4
  · exact ⟨T 0 4, by rw [if_neg h0, if_neg h1, if_neg h2, if_neg h3, if_pos h4, tc.2.2.2.2.1], by rw [if_neg h0, if_neg h1, if_neg h2, if_neg h3, if_pos h4, if_pos hb, eb, tm.2.2.2.2.1]⟩
  rw [if_neg h0, if_neg h0, if_neg h1, if_neg h1, if_neg h2, if_neg h2, if_neg h3, if_neg h3, if_neg h4, if_neg h4]
  by_cases h5 : n = 5
  · exact ⟨v 19, by rw [if_pos h5, sc.2.2.1], by rw [if_pos h5]; exact congrArg some (s 19 (by omega))⟩
  by_cases h6 : n = 6
  · exact ⟨v 20, by rw [if_neg h5, if_pos h6, sc.2.2.2.1], by rw [if_neg h5, if_pos h6]; exact congrArg some (s 20 (by omega))⟩
  by_cases h7 : n = 7
  · exact ⟨v 16, by rw [if_neg h5, if_neg h6, if_pos h7, sc.2.1], by rw [if_neg h5, if_neg h6, if_pos h7]; exact congrArg some (s 16 (by omega))⟩
  by_cases h8 : n = 8
  · exact ⟨v 17, by rw [if_neg h5, if_neg h6, if_neg h7, if_pos h8, sc.2.2.2.2.1], by rw [if_neg h5, if_neg h6, if_neg h7, if_pos h8]; exact congrArg some (s 17 (by omega))⟩
  by_cases h9 : n = 9
  · exact ⟨v 18, by rw [if_neg h5, if_neg h6, if_neg h7, if_neg h8, if_pos h9, sc.2.2.2.2.2], by rw [if_neg h5, if_neg h6, if_neg h7, if_neg h8, if_pos h9]; exact congrArg some (s 18 (by omega))⟩
  rw [if_neg h5, if_neg h5, if_neg h6, if_neg h6, if_neg h7, if_neg h7, if_neg h8, if_neg h8, if_neg h9, if_neg h9]
  by_cases h10 : n = 10
  · exact ⟨(a : Int), by rw [if_pos h10, hc.2.1], by rw [if_pos h10, hm.1]⟩
  by_cases h11 : n = 11
  · exact ⟨(u : Int), by rw [if_neg h10, if_pos h11, hc.2.2], by rw [if_neg h10, if_pos h11, hm.2]⟩
  by_cases h12 : n = 12
  · refine ⟨tgN tg, ?_, ?_⟩
    · rw [if_neg h10, if_neg h11, if_pos h12, e_bitCount _ gc.1.1 gc.1.2.1, ob_some, GC_pop gc]; rfl
    · rw [if_neg h10, if_neg h11, if_pos h12, M_targets ok.1.1 gm ok.2.2.2.2.1, ob_some]
  by_cases h13 : n = 13
  · exact ⟨(c : Int), by rw [if_neg h10, if_neg h11, if_neg h12, if_pos h13, fc.1], by rw [if_neg h10, if_neg h11, if_neg h12, if_pos h13, fm.1]⟩
  rw [if_neg h10, if_neg h10, if_neg h11, if_neg h11, if_neg h12, if_neg h12, if_neg h13, if_neg h13]
  by_cases h14 : n = 14
  · exact ⟨t, by rw [if_pos h14, fc.2], by rw [if_pos h14, fm.2]⟩
  by_cases h15 : n = 15
  · exact ⟨(L : Int), by rw [if_neg h14, if_pos h15, pc], by rw [if_neg h14, if_pos h15, pm]⟩
  by_cases h16 : n = 16
  · exact ⟨T 0 6, by rw [if_neg h14, if_neg h15, if_pos h16, tc.2.2.2.2.2.2], by rw [if_neg h14, if_neg h15, if_pos h16, if_pos hb, eb, tm.2.2.2.2.2.2.1]⟩
  by_cases h17 : n = 17
  · exact ⟨(l.length : Int), by rw [if_neg h14, if_neg h15, if_neg h16, if_pos h17, lc], by rw [if_neg h14, if_neg h15, if_neg h16, if_pos h17, lm]⟩
  exact ⟨-1, by rw [if_neg h14, if_neg h15, if_neg h16, if_neg h17], by rw [if_neg h14, if_neg h15, if_neg h16, if_neg h17]⟩
theorem pTN_M {rb : Nat} : ∀ k j, pTN rb k j → 382 ≤ k := fun k j h => (pTN_Y k j h).1
theorem C_town {M : KM} (h : JJ M) : CC (f_X_town M) f_M_town := by
  obtain ⟨b, T, R, v, a, u, hs, fl, bx, c, t, F, l, tg, ta, L, X, e0, e1, ok, iX, iM⟩ := h
  have hL := ok.2.2.2.2.2.1
  have hX := ok.2.2.2.2.2.2
  obtain ⟨J, hJ, g1⟩ := X_town iX.2.2.2.2.2.2.1 hL
  have g2 : ∀ M1, IM b T R v a u hs fl bx c t F l tg ta L X e0 e1 M1 → _ := fun M1 m => M_town m.2.2.2.2.2.2.1 hL hX m.1.1.1 hJ
  have hb2 := iM.1.1.1.1
  cases hx : rdP (tapW X) L 1600 0 s0L with
  | inl e =>
    rw [hx] at g1
    refine C_new (V := -1) (P := fun k j => (14 ≤ k ∧ k ≤ 33) ∨ (k = 0 ∧ j = 1)) (Q := pTN (1 - b)) (b' := b) (l' := l) (e0' := e.1) (e1' := (e.2 : Int)) (⟨ok.1, ok.2.1, ok.2.2.1, ok.2.2.2.1, ok.2.2.2.2.1, Nat.zero_le _, fun i hi => absurd hi (Nat.not_lt_zero i)⟩ : OKA T R v a u hs fl bx c t F tg ta 0 X) iM (g1.mono fun q hq => ?_) (fun M1 m => (g2 M1 m).mono fun q hq => ?_) (fun k j h => by omega) pTN_M
    · obtain ⟨z1, z2, z3, hf⟩ := hq
      obtain ⟨g1, g2, g3, g4, g5, g6, g7, g8⟩ := iX
      exact ⟨z1, ⟨g1.fr hf fun k j hk => by unfold pN at hk; omega, g2.fr hf fun k j hk => by unfold pHC at hk; omega, g3.fr hf fun k j hk => by unfold pBC at hk; omega, g4.fr hf fun k j hk => by unfold pFC at hk; omega, g5.fr hf fun k j hk => by unfold pL at hk; omega, g6.fr hf fun k j hk => by unfold pGC at hk; omega, ⟨z3, fun i hi => absurd hi (Nat.not_lt_zero i)⟩, z2⟩, hf⟩
    · rw [hx] at hq
      obtain ⟨z1, z2, z3, z4, hf⟩ := hq
      obtain ⟨g1, g2, g3, g4, g5, g6, g7, g8, g9⟩ := m
      have no : ∀ k j, (k = 382 ∧ (j = 37 ∨ (43 ≤ j ∧ j ≤ 80))) ∨ 410 ≤ k → ¬ pTN (1 - b) k j := fun k j hk q => by
        unfold pTN pLM at q
        rcases q with (q | q | q | q | q | q | q | q | q | q | q) | q | q <;> omega
      have ot := TM_other hb2 (show 1 - b < 2 by omega) (by omega) ok.1.1 g1.1.2.1 g1.2 hf
      refine ⟨z1, ⟨⟨⟨⟨hb2, by rw [hf 382 37 (no _ _ (by omega))]; exact g1.1.1.2⟩, ot.1, fun j hj => by rw [hf 411 _ (no _ _ (by omega))]; exact g1.1.2.2 j hj⟩, ot.2⟩, g2.fr hf fun k j hk => no k j (by unfold pHM at hk; omega), g3.fr hf fun k j hk => no k j (by unfold pBM at hk; omega), g4.fr hf fun k j hk => no k j (by unfold pFM at hk; omega), g5.fr hf fun k j hk => no k j (by unfold pLMk at hk; omega), g6.fr hf fun k j hk => no k j (by omega), ⟨z4, fun i hi => absurd hi (Nat.not_lt_zero i)⟩, ⟨z2, z3⟩, by rw [hf 382 59 (no _ _ (by omega))]; exact g9⟩, hf⟩
  | inr s =>
    rw [hx] at g1
    have hT : okT s.2.1 s.2.2.1 := by
      obtain ⟨q0, _, hq⟩ := g1
      exact hq.1
    have hF : okF s.2.1 0 t F := ⟨⟨Nat.zero_le _, ok.2.2.2.1.1.2⟩, fun i hi => absurd hi (Nat.not_lt_zero i)⟩
    refine C_new (V := s.2.1 0 0) (P := pTX) (Q := pTY) (b' := 1 - b) (l' := []) (e0' := 0) (e1' := -1) (⟨⟨hT, okS_ini hT⟩, ⟨fun i _ => okS_ini hT, rfl⟩, (fun i _ hf => (by cases hf)), hF, okG_none, Nat.zero_le _, fun i hi => absurd hi (Nat.not_lt_zero i)⟩ : OKA s.2.1 s.2.2.1 (vIni s.2.1) 0 0 (fun _ => vIni s.2.1) (fun _ => false) bx 0 t F (fun _ => false) ta 0 X) iM (g1.mono fun q hq => ?_) (fun M1 m => (g2 M1 m).mono fun q hq => ?_) (fun k j h => h.1) (fun k j h => h.1)
    · obtain ⟨_, z1, z2, z3, z4, z5, z6, z7, z8, z9, z10, hf⟩ := hq
      refine ⟨z1, ⟨z2, z3, ⟨⟨by rw [z7]; decide, by rw [z7]; decide, fun i hi => by rw [z7]; exact bt_0 i⟩, fun i _ hf => by cases hf⟩, ⟨⟨z10, ?_⟩, fun i hi => absurd hi (Nat.not_lt_zero i)⟩, ⟨Nat.zero_le _, z9, fun i x hx => by cases hx⟩, ⟨⟨by rw [z8]; decide, by rw [z8]; decide, fun p => by rw [z8]; exact bt_0 p⟩, fun p _ hp => by cases hp⟩, ⟨z6, fun i hi => absurd hi (Nat.not_lt_zero i)⟩, z4, z5⟩, hf⟩
      rw [hf 349 1 (by unfold pTX; omega)]; exact iX.2.2.2.1.1.2
    · rw [hx] at hq
      obtain ⟨z1, z2, z3, ⟨z4, z5, z6⟩, z7, z8, ⟨z9, z10, z11, z12⟩, hf⟩ := hq
      refine ⟨z1, ⟨⟨z2, z3⟩, ⟨⟨z9, z10⟩, Nat.zero_le _, fun i hi => absurd hi (Nat.not_lt_zero i), fun i hi => absurd hi (Nat.not_lt_zero i)⟩, ⟨fun i hi => by rw [z8 i hi]; rfl, fun i _ hf => by cases hf⟩, ⟨⟨z11, ?_⟩, fun i hi => absurd hi (Nat.not_lt_zero i)⟩, ⟨Nat.zero_le _, z12, fun i x hx => by cases hx⟩, fun p hp => by rw [z7 p hp]; rfl, ⟨z6, fun i hi => absurd hi (Nat.not_lt_zero i)⟩, ⟨z4, z5⟩, ?_⟩, hf⟩
      · rw [hf 382 72 (by unfold pTY; omega)]; exact m.2.2.2.1.1.2
      · rw [hf 382 59 (by unfold pTY; omega)]; exact m.2.2.2.2.2.2.2.2
