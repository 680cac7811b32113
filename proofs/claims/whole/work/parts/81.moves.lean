/-! CALLS that change what both sides hold -/
section
variable {b : Nat} {T : TW} {R : Nat → RL} {v : Nat → Int} {a u : Nat} {hs : HS} {fl : Nat → Bool} {bx : HS} {c : Nat} {t : Int} {F : TW} {l : List Int} {tg : Nat → Bool} {ta : Nat → Int} {L : Nat} {X : Nat → Int} {e0 e1 : Int} {M M' : KM} {P : Nat → Nat → Prop}
theorem TC2_congr (h : TC 2 T R M) (he : ∀ k j, 2 ≤ k → k ≤ 12 → ¬ (k = 11 ∧ j = 3) → M' k j = M k j) : TC 2 T R M' := by
  obtain ⟨⟨t1, t2, t3, t4, t5, t6, t7⟩, u1, u2, u3, u4, u5⟩ := h
  have cr : ∀ z K, CRule 2 M z K → CRule 2 M' z K := fun z K hz => hz.congr (he 11 1 (by omega) (by omega) (by omega)) (funext fun j => he 12 j (by omega) (by omega) (by omega))
  refine ⟨⟨?_, ?_, ?_, ?_, ?_, ?_, ?_⟩, fun p hp => ?_, fun f hf => ?_, fun r hr => ?_, ⟨fun q => ?_, fun q => ?_⟩, ?_⟩
  · rw [he 2 0 (by omega) (by omega) (by omega)]; exact t1
  · rw [he 2 5 (by omega) (by omega) (by omega)]; exact t2
  · rw [he 2 9 (by omega) (by omega) (by omega)]; exact t3
  · rw [he 2 12 (by omega) (by omega) (by omega)]; exact t4
  · rw [he 2 13 (by omega) (by omega) (by omega)]; exact t5
  · rw [he 2 14 (by omega) (by omega) (by omega)]; exact t6
  · rw [he 2 15 (by omega) (by omega) (by omega)]; exact t7
  · rw [he (2 + 1) p (by omega) (by omega) (by omega), he (2 + 2) p (by omega) (by omega) (by omega), he (2 + 3) p (by omega) (by omega) (by omega), he (2 + 4) p (by omega) (by omega) (by omega)]; exact u1 p hp
  · rw [he (2 + 5) f (by omega) (by omega) (by omega), he (2 + 6) f (by omega) (by omega) (by omega), he (2 + 7) f (by omega) (by omega) (by omega)]; exact u2 f hf
  · rw [he (2 + 8) r (by omega) (by omega) (by omega)]; exact cr _ _ (u3 r hr)
  · rw [he 2 11 (by omega) (by omega) (by omega)]; exact u4.1 q
  · rw [he 2 11 (by omega) (by omega) (by omega)]; exact cr _ _ (u4.2 q)
  · rw [he (2 + 9) 1 (by omega) (by omega) (by omega)]; exact u5
theorem IX.stt {v' : Nat → Int} {a' u' : Nat} {hs' : HS} (h : IX T R v a u hs fl bx c t F l tg ta L X e0 e1 M) (hf : Fp P M M') (hp : ∀ k j, P k j → (34 ≤ k ∧ k < 330) ∨ pV k j) (h1 : SC 34 (T 0 0) v' M') (h2 : HC a' u' hs' (T 0 0) M') : IX T R v' a' u' hs' fl bx c t F l tg ta L X e0 e1 M' := by
  obtain ⟨g1, g2, g3, g4, g5, g6, g7, g8⟩ := h
  refine ⟨⟨TC2_congr g1.1 fun k j q1 q2 q3 => hf k j fun q => ?_, h1⟩, h2, g3.fr hf fun k j hk q => ?_, g4.fr hf fun k j hk q => ?_, g5.fr hf fun k j hk q => ?_, g6.fr hf fun k j hk q => ?_, g7.fr hf fun k j hk q => ?_, E0.fr g8 hf fun k j hk q => ?_⟩
  · have := hp k j q; unfold pV at this; omega
  · have := hp k j q; unfold pV at this; unfold pBC at hk; omega
  · have := hp k j q; unfold pV at this; unfold pFC at hk; omega
  · have := hp k j q; unfold pV at this; unfold pL at hk; omega
  · have := hp k j q; unfold pV at this; unfold pGC at hk; omega
  · have := hp k j q; unfold pV at this; unfold pT0 at hk; omega
  · have := hp k j q; unfold pV at this; unfold pE0 at hk; omega
theorem TMR.fr (h : WM b T R v M ∧ RGf b T M) (hf : Fp P M M') (hp : ∀ k j, (384 < k ∧ k < 410) ∨ (k = 382 ∧ j = 37) → ¬ P k j) : BK b M' ∧ TM b T R M' ∧ RGf b T M' := by
  obtain ⟨⟨h1, h2, h3⟩, h4⟩ := h
  have g : ∀ k, 384 < k ∧ k < 410 → M' k = M k := fun k hk => hf.row fun j => hp k j (Or.inl hk)
  refine ⟨⟨h1.1, by rw [hf _ _ (hp 382 37 (Or.inr ⟨rfl, rfl⟩))]; exact h1.2⟩, ?_, ?_⟩
  · exact TM_congr h2 (fun c h1 h2 => by rw [g c (by omega)]) (fun c h1 h2 p hp => by rw [g c (by omega)]) (fun c h1 h2 p hp => by rw [g c (by omega)]) (by rw [g 403 (by omega)]) (fun r hr hm => MRule_congr hm (by rw [g 400 (by omega)]) (by rw [g 401 (by omega)]) fun i hi => by rw [g 406 (by omega), g 407 (by omega)]; exact ⟨rfl, rfl⟩) (fun q hm => MRule_congr hm (by rw [g 400 (by omega)]) (by rw [g 401 (by omega)]) fun i hi => by rw [g 406 (by omega), g 407 (by omega)]; exact ⟨rfl, rfl⟩)
  · unfold RGf RG at h4 ⊢
    rw [g 400 (by omega), g 401 (by omega)]; exact h4
theorem IM.stt {v' : Nat → Int} {a' u' : Nat} {hs' : HS} (h : IM b T R v a u hs fl bx c t F l tg ta L X e0 e1 M) (hf : Fp P M M') (hp : ∀ k j, P k j → pActM k j) (h1 : SM 411 0 v' M') (h2 : HM a' u' hs' M') : IM b T R v' a' u' hs' fl bx c t F l tg ta L X e0 e1 M' := by
  obtain ⟨g1, g2, g3, g4, g5, g6, g7, g8, g9⟩ := h
  have tr := TMR.fr g1 hf fun k j hk q => by have := hp k j q; unfold pActM pW at this; omega
  refine ⟨⟨⟨tr.1, tr.2.1, h1⟩, tr.2.2⟩, h2, g3.fr hf fun k j hk q => ?_, g4.fr hf fun k j hk q => ?_, g5.fr hf fun k j hk q => ?_, g6.fr hf fun k j hk q => ?_, g7.fr hf fun k j hk q => ?_, EM.fr g8 hf fun k j hk q => ?_, ?_⟩
  · have := hp k j q; unfold pActM pW at this; unfold pBM at hk; omega
  · have := hp k j q; unfold pActM pW at this; unfold pFM at hk; omega
  · have := hp k j q; unfold pActM pW at this; unfold pLMk at hk; omega
  · have := hp k j q; unfold pActM pW at this; omega
  · have := hp k j q; unfold pActM pW at this; unfold pTM at hk; omega
  · have := hp k j q; unfold pActM pW at this; unfold pEM at hk; omega
  · rw [hf 382 59 fun q => by have := hp _ _ q; unfold pActM pW at this; omega]; exact g9
theorem pActM_M : ∀ k j, pActM k j → 382 ≤ k := fun k j h => by unfold pActM pW at h; omega
theorem okH_hH (h : okH T a u hs) (ha : a + u ≤ 40) {v' : Nat → Int} (hv : okS T v') : okH T (hA a) 0 (hH a hs v') ∧ hH a hs v' (hA a) = v' := by
  unfold hA hH
  constructor
  · intro i hi
    dsimp only
    by_cases h4 : a < 40
    · rw [if_pos h4] at hi
      rw [if_pos h4]
      split
      · exact hv
      · exact h i (by omega)
    · rw [if_neg h4] at hi
      rw [if_neg h4]
      split
      · exact hv
      · exact h (i + 1) (by omega)
  · by_cases h4 : a < 40
    · rw [if_pos h4, if_pos h4, if_pos rfl]
    · rw [if_neg h4, if_neg h4, if_pos rfl]
theorem HC_40 {n : Int} (h : HC a u hs n M) : a + u ≤ 40 := by obtain ⟨o, _, _, h4, _⟩ := h; exact h4
theorem C_same {x : Option (Int × KM)} {y : KM → Option (Int × KM)} {z : Int} (h : JJ M) (h1 : x = some (z, M)) (h2 : y M = some (z, M)) : CC x y := Ret.eq h1 (Ret.eq h2 ⟨rfl, h⟩)
theorem JJ.mk (ok : OKA T R v a u hs fl bx c t F tg ta L X) (iX : IX T R v a u hs fl bx c t F l tg ta L X e0 e1 M) (iM : IM b T R v a u hs fl bx c t F l tg ta L X e0 e1 M) : JJ M := ⟨b, T, R, v, a, u, hs, fl, bx, c, t, F, l, tg, ta, L, X, e0, e1, ok, iX, iM⟩
theorem C_act {r : ACT} {x : Option (Int × KM)} {y : KM → Option (Int × KM)} (ok : OKA T R v a u hs fl bx c t F tg ta L X) (iX : IX T R v a u hs fl bx c t F l tg ta L X e0 e1 M) (iM : IM b T R v a u hs fl bx c t F l tg ta L X e0 e1 M) (hr : ∀ z v', r = some (z, v') → okS T v') (h1 : Ret x (XPost T a hs r M)) (h2 : ∀ M1, IM b T R v a u hs fl bx c t F l tg ta L X e0 e1 M1 → Ret (y M1) (MPost a hs r M1)) : CC x y := by
  cases r with
  | none =>
    obtain ⟨q, q1, q2⟩ := h1
    obtain ⟨z, z1, z2⟩ := h2 M iM
    have q2 : q = (-1, M) := q2
    have z2 : z = (-1, M) := z2
    exact C_same (JJ.mk ok iX iM) (by rw [q1, q2]) (by rw [z1, z2])
  | some w =>
    obtain ⟨w1, v'⟩ := w
    have hv := hr w1 v' rfl
    have hh := okH_hH ok.2.1.1 (HC_40 iX.2.1) hv
    refine C_new (V := w1) (P := pAct) (Q := pActM) (b' := b) (l' := l) (e0' := e0) (e1' := e1) (⟨⟨ok.1.1, hv⟩, hh, ok.2.2⟩ : OKA T R v' (hA a) 0 (hH a hs v') fl bx c t F tg ta L X) iM (h1.mono fun q hq => ?_) (fun M1 m => (h2 M1 m).mono fun q hq => ?_) (fun k j h => by unfold pAct pV at h; omega) pActM_M
    · exact ⟨hq.1, iX.stt hq.2.2.2 (fun k j h => by unfold pAct at h; rcases h with h | h; exact Or.inl ⟨h.1, h.2.1⟩; exact Or.inr h) hq.2.1 hq.2.2.1, hq.2.2.2⟩
    · exact ⟨hq.1, m.stt hq.2.2.2 (fun k j h => h) hq.2.1 hq.2.2.1, hq.2.2.2⟩
end
theorem okS_of_giveR {T : TW} {R : Nat → RL} {v : Nat → Int} (ho : WO T R v) {x y n z : Int} {v' : Nat → Int} (h : giveR T v x y n = some (z, v')) : okS T v' := by
  unfold giveR at h
  cases hg : gF T v x y n with
  | none => rw [hg] at h; cases h
  | some f =>
    rw [hg] at h
    obtain ⟨p, q, e1, e2, h1, h2, h3, h4, h5, h6, h7⟩ := canB_R ho hg
    have n8 := ho.1.1.2.1
    have h : (if v (8 + y.toNat) < w32 (n * T 7 f) then none else some (w32 (n * T 7 f), payV (passV v x.toNat y.toNat n) x.toNat y.toNat (w32 (n * T 7 f)))) = some (z, v') := h
    split at h
    · cases h
    · have := (Option.some.inj h)
      have := (Prod.mk.inj this).2
      rw [← this, e1, e2, Int.toNat_natCast, Int.toNat_natCast]
      exact okS_pay (okS_pass ho h1 h2 h3 h5 h6 h7) n8 (by omega) (by omega)
theorem okS_of_lendR {T : TW} {R : Nat → RL} {v : Nat → Int} (ho : WO T R v) {x y n t z : Int} {v' : Nat → Int} (h : lendR T v x y n t = some (z, v')) : okS T v' := by
  unfold lendR at h
  split at h
  · rename_i hc
    cases hg : gF T v x y n with
    | none => rw [hg] at h; cases h
    | some f =>
      rw [hg] at h
      obtain ⟨p, q, e1, e2, h1, h2, h3, h4, h5, h6, h7⟩ := canB_R ho hg
      have n8 := ho.1.1.2.1
      have h : some (v 17, loanV (passV v x.toNat y.toNat n) (v 17).toNat x y n t) = some (z, v') := h
      have := (Prod.mk.inj (Option.some.inj h)).2
      have o17 := ho.2.1.2.2.1
      rw [← this, e1, e2, Int.toNat_natCast, Int.toNat_natCast]
      exact okS_loan (okS_pass ho h1 h2 h3 h5 h6 h7) (by rw [passV_hi (by omega) (by omega) (by omega)]; omega) (by omega) n8 h1 h2 h3 h5
  · cases h
theorem okS_of_yearR {T : TW} {R : Nat → RL} {v : Nat → Int} (ho : WO T R v) {z : Int} {v' : Nat → Int} (h : yearR T R v = some (z, v')) : okS T v' := by
  unfold yearR at h
  split at h
  · rename_i hc
    have n8 := ho.1.1.2.1
    have n0 := ho.1.1.1
    have w0 : WO T R (vset v 19 (w32 (v 19 + 1))) := ⟨ho.1, okS_year ho.2 n8 hc⟩
    have w1 : WO T R (growS T (vset v 19 (w32 (v 19 + 1))) (T 0 0).toNat) := ⟨ho.1, okS_grow w0 (by omega)⟩
    have o17 := ho.2.1.2.2.1
    have e17 : growS T (vset v 19 (w32 (v 19 + 1))) (T 0 0).toNat 17 = v 17 := by rw [growS_hi (by omega) (by omega), vset_ne _ _ (by omega)]
    have hb := backS_ok w1 (v 17).toNat (by rw [e17]; omega)
    have w2 : WO T R (backS T (growS T (vset v 19 (w32 (v 19 + 1))) (T 0 0).toNat) (v 17).toNat) := ⟨ho.1, hb.1⟩
    have := (Prod.mk.inj (Option.some.inj h)).2
    rw [← this]
    exact dieS_ok w2 _ (by omega)
  · cases h
theorem C_give {M : KM} (h : JJ M) (x y n : Int) : CC (f_X_give x y n M) (f_M_give x y n) := by
  obtain ⟨b, T, R, v, a, u, hs, fl, bx, c, t, F, l, tg, ta, L, X, e0, e1, ok, iX, iM⟩ := h
  exact C_act ok iX iM (fun z v' hz => okS_of_giveR ok.1 hz) (X_give iX.1 ok.1 iX.2.1 x y n) (fun M1 m => M_give m.1.1 ok.1 m.2.1 ok.2.1.2 x y n)
theorem C_lend {M : KM} (h : JJ M) (x y n t : Int) : CC (f_X_lend x y n t M) (f_M_lend x y n t) := by
  obtain ⟨b, T, R, v, a, u, hs, fl, bx, c, tt, F, l, tg, ta, L, X, e0, e1, ok, iX, iM⟩ := h
  exact C_act ok iX iM (fun z v' hz => okS_of_lendR ok.1 hz) (X_lend iX.1 ok.1 iX.2.1 x y n t) (fun M1 m => M_lend m.1.1 ok.1 m.2.1 ok.2.1.2 x y n t)
theorem C_year {M : KM} (h : JJ M) : CC (f_X_year M) f_M_year := by
  obtain ⟨b, T, R, v, a, u, hs, fl, bx, c, t, F, l, tg, ta, L, X, e0, e1, ok, iX, iM⟩ := h
  exact C_act ok iX iM (fun z v' hz => okS_of_yearR ok.1 hz) (X_year iX.1 ok.1 iX.2.1) (fun M1 m => M_year m.1.1 ok.1 m.2.1 ok.2.1.2)
