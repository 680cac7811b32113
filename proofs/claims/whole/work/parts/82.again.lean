/-! CALLS that change what both sides hold: the rest but for a town -/
theorem okA_17 {T : TW} {a u : Nat} {hs : HS} (h : okH T a u hs) : ∀ i, i ≤ a + u → hs i 17 ≤ 30 := fun i hi => (h i hi).1.2.2.2.1
theorem pU_st : ∀ k j, pU k j → (34 ≤ k ∧ k < 330) ∨ pV k j := fun k j h => by unfold pU at h; omega
theorem pUM_A : ∀ k j, pUM k j → pActM k j := fun k j h => by unfold pUM at h; unfold pActM; omega
theorem C_undo {M : KM} (h : JJ M) : CC (f_X_undo M) f_M_undo := by
  obtain ⟨b, T, R, v, a, u, hs, fl, bx, c, t, F, l, tg, ta, L, X, e0, e1, ok, iX, iM⟩ := h
  have g1 := X_goBack iX.2.1 (okA_17 ok.2.1.1) ok.1.1.1.2.1
  have hva : ∀ j, j < 171 → hs a j = v j := fun j _ => by rw [ok.2.1.2]
  by_cases h0 : a = 0
  · obtain ⟨q, q1, q2⟩ := g1
    obtain ⟨r, r1, r2⟩ := M_undo iM.2.1 iM.1.1.2.2 hva
    rw [if_pos h0] at q2 r2
    refine C_same (z := 0) (JJ.mk ok iX iM) ?_ (by rw [r1, r2])
    unfold f_X_undo
    rw [q1, q2, ob_some]; rfl
  · refine C_new (V := 1) (P := pU) (Q := pUM) (b' := b) (l' := l) (e0' := e0) (e1' := e1) (⟨⟨ok.1.1, ok.2.1.1 (a - 1) (by omega)⟩, ⟨fun i hi => ok.2.1.1 i (by omega), rfl⟩, ok.2.2⟩ : OKA T R (hs (a - 1)) (a - 1) (u + 1) hs fl bx c t F tg ta L X) iM ?_ (fun M1 m => (M_undo m.2.1 m.1.1.2.2 hva).mono fun q hq => ?_) (fun k j h => by unfold pU at h; omega) (fun k j h => pActM_M k j (pUM_A k j h))
    · unfold f_X_undo
      refine Ret.bind g1 fun q hq => ?_
      rw [if_neg h0] at hq
      refine Ret.t (by omega) (Ret.pure ⟨hq.1, iX.stt hq.2.2.2 pU_st hq.2.2.1 hq.2.1, hq.2.2.2⟩)
    · rw [if_neg h0] at hq
      exact ⟨hq.1, m.stt hq.2.2.2 pUM_A hq.2.2.1 hq.2.1, hq.2.2.2⟩
theorem C_redo {M : KM} (h : JJ M) : CC (f_X_redo M) f_M_redo := by
  obtain ⟨b, T, R, v, a, u, hs, fl, bx, c, t, F, l, tg, ta, L, X, e0, e1, ok, iX, iM⟩ := h
  have g1 := X_goOn iX.2.1 (okA_17 ok.2.1.1) ok.1.1.1.2.1
  have hva : ∀ j, j < 171 → hs a j = v j := fun j _ => by rw [ok.2.1.2]
  by_cases h0 : u = 0
  · obtain ⟨q, q1, q2⟩ := g1
    obtain ⟨r, r1, r2⟩ := M_redo iM.2.1 iM.1.1.2.2 hva
    rw [if_pos h0] at q2 r2
    refine C_same (z := 0) (JJ.mk ok iX iM) ?_ (by rw [r1, r2])
    unfold f_X_redo
    rw [q1, q2, ob_some]; rfl
  · refine C_new (V := 1) (P := pU) (Q := pUM) (b' := b) (l' := l) (e0' := e0) (e1' := e1) (⟨⟨ok.1.1, ok.2.1.1 (a + 1) (by omega)⟩, ⟨fun i hi => ok.2.1.1 i (by omega), rfl⟩, ok.2.2⟩ : OKA T R (hs (a + 1)) (a + 1) (u - 1) hs fl bx c t F tg ta L X) iM ?_ (fun M1 m => (M_redo m.2.1 m.1.1.2.2 hva).mono fun q hq => ?_) (fun k j h => by unfold pU at h; omega) (fun k j h => pActM_M k j (pUM_A k j h))
    · unfold f_X_redo
      refine Ret.bind g1 fun q hq => ?_
      rw [if_neg h0] at hq
      refine Ret.t (by omega) (Ret.pure ⟨hq.1, iX.stt hq.2.2.2 pU_st hq.2.2.1 hq.2.1, hq.2.2.2⟩)
    · rw [if_neg h0] at hq
      exact ⟨hq.1, m.stt hq.2.2.2 pUM_A hq.2.2.1 hq.2.1, hq.2.2.2⟩
theorem C_back {M : KM} (h : JJ M) (n : Int) : CC (f_X_back n M) (f_M_back n) := by
  obtain ⟨b, T, R, v, a, u, hs, fl, bx, c, t, F, l, tg, ta, L, X, e0, e1, ok, iX, iM⟩ := h
  have g1 := X_back (v := v) ok.1.1.1.2.1 iX.2.2.1 ok.2.2.1 n
  by_cases h0 : (0 ≤ n ∧ n < 3) ∧ fl n.toNat = true
  · have hb := ok.2.2.1 n.toNat (by omega) h0.2
    refine C_new (V := bx n.toNat 19) (P := fun k _ => 34 ≤ k ∧ k < 330) (Q := fun k j => k = 411 ∨ (k = 382 ∧ (j = 48 ∨ j = 49))) (b' := b) (l' := l) (e0' := e0) (e1' := e1) (⟨⟨ok.1.1, hb⟩, ⟨fun i _ => hb, rfl⟩, ok.2.2⟩ : OKA T R (bx n.toNat) 0 0 (fun _ => bx n.toNat) fl bx c t F tg ta L X) iM (g1.mono fun q hq => ?_) (fun M1 m => (M_back m.2.2.1 n).mono fun q hq => ?_) (fun k j h => by omega) (fun k j h => by omega)
    · rw [if_pos h0] at hq
      exact ⟨hq.1, iX.stt hq.2.2.2 (fun k j h => Or.inl h) hq.2.1 hq.2.2.1, hq.2.2.2⟩
    · rw [if_pos h0] at hq
      exact ⟨hq.1, m.stt hq.2.2.2 (fun k j h => by unfold pActM; omega) hq.2.1 hq.2.2.1, hq.2.2.2⟩
  · obtain ⟨q, q1, q2⟩ := g1
    obtain ⟨r, r1, r2⟩ := M_back iM.2.2.1 n
    rw [if_neg h0] at q2 r2
    exact C_same (JJ.mk ok iX iM) (by rw [q1, q2]) (by rw [r1, r2])
theorem C_image {M : KM} (h : JJ M) (n : Int) : CC (f_X_image n M) (f_M_image n) := by
  obtain ⟨b, T, R, v, a, u, hs, fl, bx, c, t, F, l, tg, ta, L, X, e0, e1, ok, iX, iM⟩ := h
  have g1 := X_image iX.1.2 ok.1.2.1.2.2.2.1 ok.1.1.1.2.1 iX.2.2.1 n
  by_cases h0 : 0 ≤ n ∧ n < 3
  · have hb : okB T (flS fl n) (bxS bx n v) := fun i hi hf => by
      unfold flS at hf
      unfold bxS
      by_cases hn : (i : Int) = n
      · rw [if_pos hn]; exact ok.1.2
      · rw [if_neg hn] at hf
        rw [if_neg hn]; exact ok.2.2.1 i hi hf
    refine C_new (V := v 19) (P := pBC) (Q := pBM) (b' := b) (l' := l) (e0' := e0) (e1' := e1) (⟨ok.1, ok.2.1, hb, ok.2.2.2⟩ : OKA T R v a u hs (flS fl n) (bxS bx n v) c t F tg ta L X) iM (g1.mono fun q hq => ?_) (fun M1 m => (M_image m.1.1.2.2 m.2.2.1 n).mono fun q hq => ?_) (fun k j h => by unfold pBC at h; omega) (fun k j h => by unfold pBM at h; omega)
    · rw [if_pos h0] at hq
      obtain ⟨g1, g2, g3, g4, g5, g6, g7, g8⟩ := iX
      obtain ⟨z1, z2, hf⟩ := hq
      exact ⟨z1, ⟨g1.fr hf fun k j hk => by unfold pN at hk; unfold pBC; omega, g2.fr hf fun k j hk => by unfold pHC at hk; unfold pBC; omega, z2, g4.fr hf fun k j hk => by unfold pFC at hk; unfold pBC; omega, g5.fr hf fun k j hk => by unfold pL at hk; unfold pBC; omega, g6.fr hf fun k j hk => by unfold pGC at hk; unfold pBC; omega, g7.fr hf fun k j hk => by unfold pT0 at hk; unfold pBC; omega, E0.fr g8 hf fun k j hk => by unfold pE0 at hk; unfold pBC; omega⟩, hf⟩
    · rw [if_pos h0] at hq
      obtain ⟨g1, g2, g3, g4, g5, g6, g7, g8, g9⟩ := m
      obtain ⟨z1, z2, hf⟩ := hq
      exact ⟨z1, ⟨WMR.fr g1 hf fun k j hk => by unfold pR at hk; unfold pBM; omega, g2.fr hf fun k j hk => by unfold pHM at hk; unfold pBM; omega, z2, g4.fr hf fun k j hk => by unfold pFM at hk; unfold pBM; omega, g5.fr hf fun k j hk => by unfold pLMk at hk; unfold pBM; omega, g6.fr hf fun k j hk => by unfold pBM; omega, g7.fr hf fun k j hk => by unfold pTM at hk; unfold pBM; omega, EM.fr g8 hf fun k j hk => by unfold pEM at hk; unfold pBM; omega, by rw [hf 382 59 (by unfold pBM; omega)]; exact g9⟩, hf⟩
  · obtain ⟨q, q1, q2⟩ := g1
    obtain ⟨r, r1, r2⟩ := M_image iM.1.1.2.2 iM.2.2.1 n
    rw [if_neg h0] at q2 r2
    exact C_same (JJ.mk ok iX iM) (by rw [q1, q2]) (by rw [r1, r2])
section
variable {b : Nat} {T : TW} {R : Nat → RL} {v : Nat → Int} {a u : Nat} {hs : HS} {fl : Nat → Bool} {bx : HS} {c : Nat} {t : Int} {F : TW} {l : List Int} {tg : Nat → Bool} {ta : Nat → Int} {L : Nat} {X : Nat → Int} {e0 e1 : Int} {M M' : KM} {P : Nat → Nat → Prop}
theorem IX.fc {c' : Nat} {t' : Int} {F' : TW} (h : IX T R v a u hs fl bx c t F l tg ta L X e0 e1 M) (hf : Fp pFC M M') (z2 : FC c' t' F' M') : IX T R v a u hs fl bx c' t' F' l tg ta L X e0 e1 M' := by
  obtain ⟨g1, g2, g3, g4, g5, g6, g7, g8⟩ := h
  exact ⟨g1.fr hf fun k j hk => by unfold pN at hk; unfold pFC; omega, g2.fr hf fun k j hk => by unfold pHC at hk; unfold pFC; omega, g3.fr hf fun k j hk => by unfold pBC at hk; unfold pFC; omega, z2, g5.fr hf fun k j hk => by unfold pL at hk; unfold pFC; omega, g6.fr hf fun k j hk => by unfold pGC at hk; unfold pFC; omega, g7.fr hf fun k j hk => by unfold pT0 at hk; unfold pFC; omega, E0.fr g8 hf fun k j hk => by unfold pE0 at hk; unfold pFC; omega⟩
theorem IM.fm {c' : Nat} {t' : Int} {F' : TW} (h : IM b T R v a u hs fl bx c t F l tg ta L X e0 e1 M) (hf : Fp pFM M M') (z2 : FM c' t' F' M') : IM b T R v a u hs fl bx c' t' F' l tg ta L X e0 e1 M' := by
  obtain ⟨g1, g2, g3, g4, g5, g6, g7, g8, g9⟩ := h
  exact ⟨WMR.fr g1 hf fun k j hk => by unfold pR at hk; unfold pFM; omega, g2.fr hf fun k j hk => by unfold pHM at hk; unfold pFM; omega, g3.fr hf fun k j hk => by unfold pBM at hk; unfold pFM; omega, z2, g5.fr hf fun k j hk => by unfold pLMk at hk; unfold pFM; omega, g6.fr hf fun k j hk => by unfold pFM; omega, g7.fr hf fun k j hk => by unfold pTM at hk; unfold pFM; omega, EM.fr g8 hf fun k j hk => by unfold pEM at hk; unfold pFM; omega, by rw [hf 382 59 (by unfold pFM; omega)]; exact g9⟩
theorem IX.tgs {tg' : Nat → Bool} {ta' : Nat → Int} (h : IX T R v a u hs fl bx c t F l tg ta L X e0 e1 M) (hf : Fp pGC M M') (z2 : GC_ tg' ta' M') : IX T R v a u hs fl bx c t F l tg' ta' L X e0 e1 M' := by
  obtain ⟨g1, g2, g3, g4, g5, g6, g7, g8⟩ := h
  exact ⟨g1.fr hf fun k j hk => by unfold pN at hk; unfold pGC; omega, g2.fr hf fun k j hk => by unfold pHC at hk; unfold pGC; omega, g3.fr hf fun k j hk => by unfold pBC at hk; unfold pGC; omega, g4.fr hf fun k j hk => by unfold pFC at hk; unfold pGC; omega, g5.fr hf fun k j hk => by unfold pL at hk; unfold pGC; omega, z2, g7.fr hf fun k j hk => by unfold pT0 at hk; unfold pGC; omega, E0.fr g8 hf fun k j hk => by unfold pE0 at hk; unfold pGC; omega⟩
theorem IM.tgs {tg' : Nat → Bool} {ta' : Nat → Int} (h : IM b T R v a u hs fl bx c t F l tg ta L X e0 e1 M) (hf : Fp (fun k _ => k = 414) M M') (z2 : GM_ tg' ta' M') : IM b T R v a u hs fl bx c t F l tg' ta' L X e0 e1 M' := by
  obtain ⟨g1, g2, g3, g4, g5, g6, g7, g8, g9⟩ := h
  exact ⟨WMR.fr g1 hf fun k j hk => by unfold pR at hk; omega, g2.fr hf fun k j hk => by unfold pHM at hk; omega, g3.fr hf fun k j hk => by unfold pBM at hk; omega, g4.fr hf fun k j hk => by unfold pFM at hk; omega, g5.fr hf fun k j hk => by unfold pLMk at hk; omega, z2, g7.fr hf fun k j hk => by unfold pTM at hk; omega, EM.fr g8 hf fun k j hk => by unfold pEM at hk; omega, by rw [hf 382 59 (by omega)]; exact g9⟩
theorem IX.tp {L' : Nat} {X' : Nat → Int} (h : IX T R v a u hs fl bx c t F l tg ta L X e0 e1 M) (hf : Fp pT0 M M') (z2 : PC L' X' M') : IX T R v a u hs fl bx c t F l tg ta L' X' e0 e1 M' := by
  obtain ⟨g1, g2, g3, g4, g5, g6, g7, g8⟩ := h
  exact ⟨g1.fr hf fun k j hk => by unfold pN at hk; unfold pT0; omega, g2.fr hf fun k j hk => by unfold pHC at hk; unfold pT0; omega, g3.fr hf fun k j hk => by unfold pBC at hk; unfold pT0; omega, g4.fr hf fun k j hk => by unfold pFC at hk; unfold pT0; omega, g5.fr hf fun k j hk => by unfold pL at hk; unfold pT0; omega, g6.fr hf fun k j hk => by unfold pGC at hk; unfold pT0; omega, z2, E0.fr g8 hf fun k j hk => by unfold pE0 at hk; unfold pT0; omega⟩
theorem IM.tp {L' : Nat} {X' : Nat → Int} (h : IM b T R v a u hs fl bx c t F l tg ta L X e0 e1 M) (hf : Fp pTM M M') (z2 : PM L' X' M') : IM b T R v a u hs fl bx c t F l tg ta L' X' e0 e1 M' := by
  obtain ⟨g1, g2, g3, g4, g5, g6, g7, g8, g9⟩ := h
  exact ⟨WMR.fr g1 hf fun k j hk => by unfold pR at hk; unfold pTM; omega, g2.fr hf fun k j hk => by unfold pHM at hk; unfold pTM; omega, g3.fr hf fun k j hk => by unfold pBM at hk; unfold pTM; omega, g4.fr hf fun k j hk => by unfold pFM at hk; unfold pTM; omega, g5.fr hf fun k j hk => by unfold pLMk at hk; unfold pTM; omega, g6.fr hf fun k j hk => by unfold pTM; omega, z2, EM.fr g8 hf fun k j hk => by unfold pEM at hk; unfold pTM; omega, by rw [hf 382 59 (by unfold pTM; omega)]; exact g9⟩
theorem pFC_X : ∀ k j, pFC k j → k < 382 := fun k j h => by unfold pFC at h; omega
theorem pFM_M : ∀ k j, pFM k j → 382 ≤ k := fun k j h => by unfold pFM at h; omega
theorem pGC_X : ∀ k j, pGC k j → k < 382 := fun k j h => by unfold pGC at h; omega
theorem pT0_X : ∀ k j, pT0 k j → k < 382 := fun k j h => by unfold pT0 at h; omega
theorem pTM_M : ∀ k j, pTM k j → 382 ≤ k := fun k j h => by unfold pTM at h; omega
end
theorem C_face {M : KM} (h : JJ M) (p n : Int) : CC (f_X_face p n M) (f_M_face p n) := by
  obtain ⟨b, T, R, v, a, u, hs, fl, bx, c, t, F, l, tg, ta, L, X, e0, e1, ok, iX, iM⟩ := h
  have hF := ok.2.2.2.1
  have g1 := X_face iX.1 iX.2.2.2.1 hF.1.1 p n
  by_cases h0 : ((0 ≤ p ∧ p < T 0 0) ∧ (T 0 3 ≤ n ∧ n ≤ T 0 4)) ∧ c < 30
  · refine C_new (V := (c : Int)) (P := pFC) (Q := pFM) (b' := b) (l' := l) (e0' := e0) (e1' := e1) (⟨ok.1, ok.2.1, ok.2.2.1, okF_add hF h0.2 h0.1.1, ok.2.2.2.2⟩ : OKA T R v a u hs fl bx (c + 1) t (Fadd F c p n t) tg ta L X) iM (g1.mono fun q hq => ?_) (fun M1 m => (M_face m.1.1 ok.1 m.2.2.2.1 hF.1.1 p n).mono fun q hq => ?_) pFC_X pFM_M
    · rw [if_pos h0] at hq; exact ⟨hq.1, iX.fc hq.2.2 hq.2.1, hq.2.2⟩
    · rw [if_pos h0] at hq; exact ⟨hq.1, m.fm hq.2.2 hq.2.1, hq.2.2⟩
  · obtain ⟨q, q1, q2⟩ := g1
    obtain ⟨r, r1, r2⟩ := M_face iM.1.1 ok.1 iM.2.2.2.1 hF.1.1 p n
    rw [if_neg h0] at q2 r2
    exact C_same (JJ.mk ok iX iM) (by rw [q1, q2]) (by rw [r1, r2])
theorem C_untell {M : KM} (h : JJ M) (n : Int) : CC (f_X_untell n M) (f_M_untell n) := by
  obtain ⟨b, T, R, v, a, u, hs, fl, bx, c, t, F, l, tg, ta, L, X, e0, e1, ok, iX, iM⟩ := h
  have hF := ok.2.2.2.1
  have g1 := X_untell iX.2.2.2.1 hF.1.1 n
  by_cases h0 : (0 ≤ n ∧ n < c) ∧ F 3 n.toNat = -1
  · refine C_new (V := 1) (P := pFC) (Q := pFM) (b' := b) (l' := l) (e0' := e0) (e1' := e1) (⟨ok.1, ok.2.1, ok.2.2.1, okF_unt hF, ok.2.2.2.2⟩ : OKA T R v a u hs fl bx c t (Funt F n.toNat t) tg ta L X) iM (g1.mono fun q hq => ?_) (fun M1 m => (M_untell m.2.2.2.1 hF n).mono fun q hq => ?_) pFC_X pFM_M
    · rw [if_pos h0] at hq; exact ⟨hq.1, iX.fc hq.2.2 hq.2.1, hq.2.2⟩
    · rw [if_pos h0] at hq; exact ⟨hq.1, m.fm hq.2.2 hq.2.1, hq.2.2⟩
  · obtain ⟨q, q1, q2⟩ := g1
    obtain ⟨r, r1, r2⟩ := M_untell iM.2.2.2.1 hF n
    rw [if_neg h0] at q2 r2
    exact C_same (JJ.mk ok iX iM) (by rw [q1, q2]) (by rw [r1, r2])
theorem C_later {M : KM} (h : JJ M) (n : Int) : CC (f_X_later n M) (f_M_later n) := by
  obtain ⟨b, T, R, v, a, u, hs, fl, bx, c, t, F, l, tg, ta, L, X, e0, e1, ok, iX, iM⟩ := h
  have hF := ok.2.2.2.1
  have ht : okF T c (laterT t n) F := by
    refine ⟨⟨hF.1.1, ?_⟩, hF.2⟩
    have := hF.1.2
    unfold laterT
    split <;> omega
  refine C_new (V := laterA t n) (P := pFC) (Q := pFM) (b' := b) (l' := l) (e0' := e0) (e1' := e1) (⟨ok.1, ok.2.1, ok.2.2.1, ht, ok.2.2.2.2⟩ : OKA T R v a u hs fl bx c (laterT t n) F tg ta L X) iM ((X_later iX.2.2.2.1 hF.1.2 n).mono fun q hq => ?_) (fun M1 m => (M_later m.2.2.2.1 hF.1.2 n).mono fun q hq => ?_) pFC_X pFM_M
  · exact ⟨hq.1, iX.fc hq.2.2 hq.2.1, hq.2.2⟩
  · exact ⟨hq.1, m.fm hq.2.2 hq.2.1, hq.2.2⟩
theorem C_target {M : KM} (h : JJ M) (p n : Int) : CC (f_X_target p n M) (f_M_target p n) := by
  obtain ⟨b, T, R, v, a, u, hs, fl, bx, c, t, F, l, tg, ta, L, X, e0, e1, ok, iX, iM⟩ := h
  have g1 := X_target iX.1 ok.1 iX.2.2.2.2.2.1 p n
  by_cases h0 : (0 ≤ p ∧ p < T 0 0) ∧ (T 0 3 ≤ n ∧ n ≤ T 0 4)
  · refine C_new (V := tgN (tgS tg p.toNat)) (P := pGC) (Q := fun k _ => k = 414) (b' := b) (l' := l) (e0' := e0) (e1' := e1) (⟨ok.1, ok.2.1, ok.2.2.1, ok.2.2.2.1, okG_set ok.2.2.2.2.1 (by omega) h0.2, ok.2.2.2.2.2⟩ : OKA T R v a u hs fl bx c t F (tgS tg p.toNat) (vset ta p.toNat n) L X) iM (g1.mono fun q hq => ?_) (fun M1 m => (M_target m.1.1 ok.1 m.2.2.2.2.2.1 ok.2.2.2.2.1 p n).mono fun q hq => ?_) pGC_X (fun k j h => by omega)
    · rw [if_pos h0] at hq; exact ⟨hq.1, iX.tgs hq.2.2 hq.2.1, hq.2.2⟩
    · rw [if_pos h0] at hq; exact ⟨hq.1, m.tgs hq.2.2 hq.2.1, hq.2.2⟩
  · obtain ⟨q, q1, q2⟩ := g1
    obtain ⟨r, r1, r2⟩ := M_target iM.1.1 ok.1 iM.2.2.2.2.2.1 ok.2.2.2.2.1 p n
    rw [if_neg h0] at q2 r2
    exact C_same (JJ.mk ok iX iM) (by rw [q1, q2]) (by rw [r1, r2])
theorem okG_none {T : TW} {ta : Nat → Int} : okG T (fun _ => false) ta := fun p hp => by cases hp
theorem C_hush {M : KM} (h : JJ M) : CC (f_X_hush M) f_M_hush := by
  obtain ⟨b, T, R, v, a, u, hs, fl, bx, c, t, F, l, tg, ta, L, X, e0, e1, ok, iX, iM⟩ := h
  refine C_new (V := tgN tg) (P := pGC) (Q := fun k _ => k = 414) (b' := b) (l' := l) (e0' := e0) (e1' := e1) (⟨ok.1, ok.2.1, ok.2.2.1, ok.2.2.2.1, okG_none, ok.2.2.2.2.2⟩ : OKA T R v a u hs fl bx c t F (fun _ => false) ta L X) iM ((X_hush iX.2.2.2.2.2.1).mono fun q hq => ?_) (fun M1 m => (M_hush ok.1.1 m.2.2.2.2.2.1 ok.2.2.2.2.1).mono fun q hq => ?_) pGC_X (fun k j h => by omega)
  · exact ⟨hq.1, iX.tgs hq.2.2 hq.2.1, hq.2.2⟩
  · exact ⟨hq.1, m.tgs hq.2.2 hq.2.1, hq.2.2⟩
theorem C_feed {M : KM} (h : JJ M) (n1 n2 n3 n4 n5 : Int) : CC (f_X_feed n1 n2 n3 n4 n5 M) (f_M_feed n1 n2 n3 n4 n5) := by
  obtain ⟨b, T, R, v, a, u, hs, fl, bx, c, t, F, l, tg, ta, L, X, e0, e1, ok, iX, iM⟩ := h
  have hL := ok.2.2.2.2.2.1
  have g1 := X_feed iX.2.2.2.2.2.2.1 hL n1 n2 n3 n4 n5
  by_cases h0 : L + 20 ≤ 1600
  · have hx : xR (L + 20) (fedX X L n1 n2 n3 n4 n5) := fun i hi => by
      unfold fedX
      split
      · rename_i hl; exact ok.2.2.2.2.2.2 i hl
      · exact kw8_R _
    refine C_new (V := (L : Int) + 20) (P := pT0) (Q := pTM) (b' := b) (l' := l) (e0' := e0) (e1' := e1) (⟨ok.1, ok.2.1, ok.2.2.1, ok.2.2.2.1, ok.2.2.2.2.1, h0, hx⟩ : OKA T R v a u hs fl bx c t F tg ta (L + 20) (fedX X L n1 n2 n3 n4 n5)) iM (g1.mono fun q hq => ?_) (fun M1 m => (M_feed m.2.2.2.2.2.2.1 hL n1 n2 n3 n4 n5).mono fun q hq => ?_) pT0_X pTM_M
    · rw [if_pos h0] at hq; exact ⟨hq.1, iX.tp hq.2.2 hq.2.1, hq.2.2⟩
    · rw [if_pos h0] at hq; exact ⟨hq.1, m.tp hq.2.2 hq.2.1, hq.2.2⟩
  · obtain ⟨q, q1, q2⟩ := g1
    obtain ⟨r, r1, r2⟩ := M_feed iM.2.2.2.2.2.2.1 hL n1 n2 n3 n4 n5
    rw [if_neg h0] at q2 r2
    exact C_same (JJ.mk ok iX iM) (by rw [q1, q2]) (by rw [r1, r2])
theorem C_end {M : KM} (h : JJ M) (n : Int) : CC (f_X_end n M) (f_M_end n) := by
  obtain ⟨b, T, R, v, a, u, hs, fl, bx, c, t, F, l, tg, ta, L, X, e0, e1, ok, iX, iM⟩ := h
  have g1 := X_end iX.2.2.2.2.2.2.1 n
  by_cases h0 : 0 ≤ n ∧ n ≤ (L : Int)
  · have hL := ok.2.2.2.2.2.1
    refine C_new (V := n) (P := pT0) (Q := pTM) (b' := b) (l' := l) (e0' := e0) (e1' := e1) (⟨ok.1, ok.2.1, ok.2.2.1, ok.2.2.2.1, ok.2.2.2.2.1, by omega, fun i hi => ok.2.2.2.2.2.2 i (by omega)⟩ : OKA T R v a u hs fl bx c t F tg ta n.toNat X) iM (g1.mono fun q hq => ?_) (fun M1 m => (M_end m.2.2.2.2.2.2.1 n).mono fun q hq => ?_) pT0_X pTM_M
    · rw [if_pos h0] at hq; exact ⟨hq.1, iX.tp hq.2.2 hq.2.1, hq.2.2⟩
    · rw [if_pos h0] at hq; exact ⟨hq.1, m.tp hq.2.2 hq.2.1, hq.2.2⟩
  · obtain ⟨q, q1, q2⟩ := g1
    obtain ⟨r, r1, r2⟩ := M_end iM.2.2.2.2.2.2.1 n
    rw [if_neg h0] at q2 r2
    exact C_same (JJ.mk ok iX iM) (by rw [q1, q2]) (by rw [r1, r2])
