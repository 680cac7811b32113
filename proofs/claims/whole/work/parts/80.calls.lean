/-! CALLS that leave no trace, or tell a row -/
theorem offX_V : offX pV := fun k j h => by unfold pV at h; unfold pN pHC pBC pFC pGC pT0 pE0; omega
theorem offX_D : offX pD := fun k j h => by unfold pD at h; unfold pN pHC pBC pFC pGC pT0 pE0; omega
theorem offX_Pay : offX pPay := fun k j h => by unfold pPay pD at h; unfold pN pHC pBC pFC pGC pT0 pE0; omega
theorem offX_Ring : offX pRing := fun k j h => by unfold pRing at h; unfold pN pHC pBC pFC pGC pT0 pE0; omega
theorem offX_Rch : offX pRch := fun k j h => by unfold pRch pV at h; unfold pN pHC pBC pFC pGC pT0 pE0; omega
theorem offX_Bar : offX pBar := fun k j h => by unfold pBar at h; unfold pN pHC pBC pFC pGC pT0 pE0; omega
theorem offX_Ch : offX pCh := fun k j h => by unfold pCh at h; unfold pN pHC pBC pFC pGC pT0 pE0; omega
theorem offX_G : offX pG := fun k j h => by unfold pG at h; unfold pN pHC pBC pFC pGC pT0 pE0; omega
theorem offX_Ex : offX pEx := fun k j h => by unfold pEx pG pSr at h; unfold pN pHC pBC pFC pGC pT0 pE0; omega
theorem offX_ExL : offX (fun k j => pEx k j ∨ pL k j) := fun k j h => by unfold pEx pG pSr pL at h; unfold pN pHC pBC pFC pGC pT0 pE0; omega
theorem offX_SX : offX pSX := fun k j h => by unfold pSX pV pSf pL at h; unfold pN pHC pBC pFC pGC pT0 pE0; omega
theorem offX_VL : offX pVL := fun k j h => by unfold pVL pV pL at h; unfold pN pHC pBC pFC pGC pT0 pE0; omega
theorem offX_L : offX pL := fun k j h => by unfold pL at h; unfold pN pHC pBC pFC pGC pT0 pE0; omega
theorem offM_W : offM pW := fun k j h => by unfold pW at h; unfold pR pHM pBM pFM pTM pEM; omega
theorem offM_RM : offM pRM := fun k j h => by unfold pRM at h; unfold pR pHM pBM pFM pTM pEM; omega
theorem offM_RcM : offM pRcM := fun k j h => by unfold pRcM pW at h; unfold pR pHM pBM pFM pTM pEM; omega
theorem offM_DM : offM pDM := fun k j h => by unfold pDM at h; unfold pR pHM pBM pFM pTM pEM; omega
theorem offM_ChM : offM pChM := fun k j h => by unfold pChM at h; unfold pR pHM pBM pFM pTM pEM; omega
theorem offM_430 : offM (fun k _ => k = 430) := fun k j h => by unfold pR pHM pBM pFM pTM pEM; omega
theorem offM_59 : offM p59 := fun k j h => by unfold p59 at h; unfold pR pHM pBM pFM pTM pEM; omega
theorem offM_MS : offM pMS := fun k j h => by unfold pMS pMN at h; unfold pR pHM pBM pFM pTM pEM; omega
theorem offM_MSk : offM pMSk := fun k j h => by unfold pMSk pMS pMN at h; unfold pR pHM pBM pFM pTM pEM; omega
theorem offM_SM : offM pSM := fun k j h => by unfold pSM pW at h; unfold pR pHM pBM pFM pTM pEM; omega
theorem offM_WL : offM pWL := fun k j h => by unfold pWL pW at h; unfold pR pHM pBM pFM pTM pEM; omega
theorem C_has {M : KM} (h : JJ M) (p r : Int) : CC (f_X_has p r M) (f_M_has p r) := by
  obtain ⟨b, T, R, v, a, u, hs, fl, bx, c, t, F, l, tg, ta, L, X, e0, e1, ok, iX, iM⟩ := h
  exact C_loc (V := fun z => z = hasA T R v p r) (W := fun z => z = hasA T R v p r) (fun _ _ h1 h2 => h1.trans h2.symm) ok iX iM (X_has iX.1 ok.1 p r) (fun M1 m => M_has m.1.1 ok.1 p r) offX_V (fun k j h => by unfold pL at h; unfold pV; omega) offM_W (fun k j h => by unfold pLMk p59 at h; unfold pW; omega)
theorem C_odds {M : KM} (h : JJ M) (p : Int) : CC (f_X_odds p M) (f_M_odds p) := by
  obtain ⟨b, T, R, v, a, u, hs, fl, bx, c, t, F, l, tg, ta, L, X, e0, e1, ok, iX, iM⟩ := h
  exact C_loc (V := fun z => z = oddsA T R v p) (W := fun z => z = oddsA T R v p) (fun _ _ h1 h2 => h1.trans h2.symm) ok iX iM (X_odds iX.1 ok.1 p) (fun M1 m => M_odds m.1.1 ok.1 p) offX_V (fun k j h => by unfold pL at h; unfold pV; omega) offM_W (fun k j h => by unfold pLMk p59 at h; unfold pW; omega)
theorem C_bends {M : KM} (h : JJ M) : CC (f_X_bends M) f_M_bends := by
  obtain ⟨b, T, R, v, a, u, hs, fl, bx, c, t, F, l, tg, ta, L, X, e0, e1, ok, iX, iM⟩ := h
  exact C_loc (V := fun z => z = bendsA T R v) (W := fun z => z = bendsA T R v) (fun _ _ h1 h2 => h1.trans h2.symm) ok iX iM (X_bends iX.1 ok.1) (fun M1 m => M_bends m.1.1 ok.1) offX_V (fun k j h => by unfold pL at h; unfold pV; omega) offM_W (fun k j h => by unfold pLMk p59 at h; unfold pW; omega)
theorem C_cheapest {M : KM} (h : JJ M) : CC (f_X_cheapest M) f_M_cheapest := by
  obtain ⟨b, T, R, v, a, u, hs, fl, bx, c, t, F, l, tg, ta, L, X, e0, e1, ok, iX, iM⟩ := h
  exact C_loc (V := flowA (netC T v) (sprV v tg ta)) (W := flowA (netR T v (sprV v tg ta)) (sprV v tg ta)) (fun _ _ h1 h2 => flow_same ok.1.1 h1 h2) ok iX iM (X_cheapest iX.1 ok.1 iX.2.2.2.2.2.1 ok.2.2.2.2.1) (fun M1 m => M_cheapest m.1.1 ok.1 m.2.2.2.2.2.1 ok.2.2.2.2.1) offX_Ch (fun k j h => by unfold pL at h; unfold pCh; omega) offM_ChM (fun k j h => by unfold pLMk p59 at h; unfold pChM; omega)
theorem barA_eq {T : TW} {v : Nat → Int} {tg : Nat → Bool} {ta : Nat → Int} {y z : Int} (h1 : barA T v tg ta y) (h2 : barA T v tg ta z) : y = z := bt_ext h1.1 h2.1 fun i => by rw [h1.2.2, h2.2.2]
theorem ringA_eq {v : Nat → Int} {y z : Int} (h1 : ringA v y) (h2 : ringA v z) : y = z := bt_ext h1.1 h2.1 fun i => by rw [h1.2.2, h2.2.2]
theorem forgA_eq {T F : TW} {c : Nat} {k y z : Int} (h1 : forgA T F c k y) (h2 : forgA T F c k z) : y = z := by
  unfold forgA at h1 h2
  split at h1
  · rename_i h
    rw [if_pos h] at h2
    rw [h1, h2]
  · rename_i h
    rw [if_neg h] at h2
    exact bt_ext h1.1 h2.1 fun i => by rw [h1.2.2, h2.2.2]
theorem C_barred {M : KM} (h : JJ M) : CC (f_X_barred M) f_M_barred := by
  obtain ⟨b, T, R, v, a, u, hs, fl, bx, c, t, F, l, tg, ta, L, X, e0, e1, ok, iX, iM⟩ := h
  exact C_loc (V := barA T v tg ta) (W := barA T v tg ta) (fun _ _ h1 h2 => barA_eq h1 h2) ok iX iM (X_barred iX.1 ok.1 iX.2.2.2.2.2.1 ok.2.2.2.2.1) (fun M1 m => M_barred m.1.1 ok.1 m.2.2.2.2.2.1 ok.2.2.2.2.1) offX_Bar (fun k j h => by unfold pL at h; unfold pBar; omega) offM_RM (fun k j h => by unfold pLMk p59 at h; unfold pRM; omega)
theorem C_reach {M : KM} (h : JJ M) (p r w : Int) : CC (f_X_reach p r w M) (f_M_reach p r w) := by
  obtain ⟨b, T, R, v, a, u, hs, fl, bx, c, t, F, l, tg, ta, L, X, e0, e1, ok, iX, iM⟩ := h
  exact C_loc (V := fun z => z = reachA T R v p r w) (W := fun z => z = reachA T R v p r w) (fun _ _ h1 h2 => h1.trans h2.symm) ok iX iM (X_reach iX.1 ok.1 p r w) (fun M1 m => M_reach m.1.1 ok.1 p r w) offX_Rch (fun k j h => by unfold pL at h; unfold pRch pV; omega) offM_RcM (fun k j h => by unfold pLMk p59 at h; unfold pRcM pW; omega)
theorem C_net {M : KM} (h : JJ M) (p : Int) : CC (f_X_net p M) (f_M_net p) := by
  obtain ⟨b, T, R, v, a, u, hs, fl, bx, c, t, F, l, tg, ta, L, X, e0, e1, ok, iX, iM⟩ := h
  exact C_loc (V := fun z => z = netA T v p) (W := fun z => z = netA T v p) (fun _ _ h1 h2 => h1.trans h2.symm) ok iX iM (X_net iX.1 ok.1 p) (fun M1 m => M_net m.1.1 ok.1 p) offX_D (fun k j h => by unfold pL at h; unfold pD; omega) offM_DM (fun k j h => by unfold pLMk p59 at h; unfold pDM; omega)
theorem C_payments {M : KM} (h : JJ M) : CC (f_X_payments M) f_M_payments := by
  obtain ⟨b, T, R, v, a, u, hs, fl, bx, c, t, F, l, tg, ta, L, X, e0, e1, ok, iX, iM⟩ := h
  exact C_loc (V := fun z => z = payA T v) (W := fun z => z = payA T v) (fun _ _ h1 h2 => h1.trans h2.symm) ok iX iM (X_payments iX.1 ok.1) (fun M1 m => M_payments m.1.1 ok.1) offX_Pay (fun k j h => by unfold pL at h; unfold pPay pD; omega) offM_DM (fun k j h => by unfold pLMk p59 at h; unfold pDM; omega)
theorem C_forged {M : KM} (h : JJ M) (k : Int) : CC (f_X_forged k M) (f_M_forged k) := by
  obtain ⟨b, T, R, v, a, u, hs, fl, bx, c, t, F, l, tg, ta, L, X, e0, e1, ok, iX, iM⟩ := h
  exact C_loc (V := forgA T F c k) (W := forgA T F c k) (fun _ _ h1 h2 => forgA_eq h1 h2) ok iX iM (X_forged iX.1 ok.1 iX.2.2.2.1 ok.2.2.2.1 k) (fun M1 m => (M_forged m.1.1 ok.1 m.2.2.2.1 ok.2.2.2.1 k).mono fun q hq => ⟨hq.1, fun k j hk => by rw [hq.2 k hk]⟩) offX_G (fun k j h => by unfold pL at h; unfold pG; omega) offM_430 (fun k j h => by unfold pLMk p59 at h; omega)
theorem C_ring {M : KM} (h : JJ M) : Ret (f_X_ring M) (fun q => Ret (f_M_ring q.2) (fun z => q.1 = z ∧ JJ q.2)) := by
  obtain ⟨b, T, R, v, a, u, hs, fl, bx, c, t, F, l, tg, ta, L, X, e0, e1, ok, iX, iM⟩ := h
  refine (X_ring iX.1 ok.1).mono fun q hq => ?_
  have m1 := iM.far hq.2 fun k j z => (offX_Ring k j z).1
  exact (M_ring m1.1.1 ok.1).mono fun z hz => ⟨ringA_eq hq.1 hz, b, T, R, v, a, u, hs, fl, bx, c, t, F, l, tg, ta, L, X, e0, e1, ok, iX.loc hq.2 offX_Ring (fun k j h => by unfold pL at h; unfold pRing; omega), m1⟩
theorem C_sure {M : KM} (h : JJ M) (p k : Int) : CC (f_X_sure p k M) (f_M_sure p k) := by
  obtain ⟨b, T, R, v, a, u, hs, fl, bx, c, t, F, l, tg, ta, L, X, e0, e1, ok, iX, iM⟩ := h
  refine C_new (V := sureA T F c p k) (P := pEx) (Q := pMSk) ok iM ((X_sure iX.1 ok.1 iX.2.2.2.1 ok.2.2.2.1 p k).mono fun q hq => ⟨hq.1, iX.loc hq.2 offX_Ex (fun k j h => by unfold pL at h; unfold pEx pG pSr; omega), hq.2⟩) (fun M1 m => (M_sure m.1.1 ok.1 m.2.2.2.1 ok.2.2.2.1 m.2.2.2.2.1 p k).mono fun q hq => ⟨hq.1, m.locL hq.2.2 offM_MSk hq.2.1 (by rw [hq.2.2 382 59 (by unfold pMSk pMS pMN; omega)]; exact m.2.2.2.2.2.2.2.2), hq.2.2⟩) (fun k j h => (offX_Ex k j h).1) (fun k j h => (offM_MSk k j h).1)
theorem C_corner {M : KM} (h : JJ M) (p tax : Int) : ∃ z, f_X_corner p tax M = some z ∧ Ret (f_M_corner p tax M) (fun r => z = r.1 ∧ JJ r.2) := by
  obtain ⟨b, T, R, v, a, u, hs, fl, bx, c, t, F, l, tg, ta, L, X, e0, e1, ok, iX, iM⟩ := h
  refine ⟨_, X_corner iX.1 ok.1 p tax, ?_⟩
  refine (M_corner iM.1.1 ok.1 iM.2.2.2.2.2.2.2.2 p tax).mono fun q hq => ⟨hq.1.symm, b, T, R, v, a, u, hs, fl, bx, c, t, F, l, tg, ta, L, X, e0, e1, ok, iX.far hq.2.1 fun k j h => (offM_59 k j h).1, iM.locL hq.2.1 offM_59 (iM.2.2.2.2.1.fr hq.2.1 fun k j h => by unfold pLMk at h; unfold p59; omega) hq.2.2⟩
theorem C_safest {M : KM} (h : JJ M) : CC (f_X_safest M) f_M_safest := by
  obtain ⟨b, T, R, v, a, u, hs, fl, bx, c, t, F, l, tg, ta, L, X, e0, e1, ok, iX, iM⟩ := h
  exact C_row (A := safeA T R v) ok iX iM (X_safest iX.1 ok.1) (fun M1 m => M_safest m.1.1 ok.1) offX_SX offM_SM (fun k j h => by unfold p59 at h; unfold pSM pW; omega)
theorem C_twice {M : KM} (h : JJ M) (r : Int) : CC (f_X_twice r M) (f_M_twice r) := by
  obtain ⟨b, T, R, v, a, u, hs, fl, bx, c, t, F, l, tg, ta, L, X, e0, e1, ok, iX, iM⟩ := h
  exact C_row (A := twiceA T R v r) ok iX iM (X_twice iX.1 ok.1 r) (fun M1 m => M_twice m.1.1 ok.1 r) offX_VL offM_WL (fun k j h => by unfold p59 at h; unfold pWL pW; omega)
theorem C_fair {M : KM} (h : JJ M) (r : Int) : CC (f_X_fair r M) (f_M_fair r) := by
  obtain ⟨b, T, R, v, a, u, hs, fl, bx, c, t, F, l, tg, ta, L, X, e0, e1, ok, iX, iM⟩ := h
  exact C_row (A := fairA T v r) ok iX iM (X_fair iX.1 ok.1 r) (fun M1 m => M_fair m.1.1 ok.1 r) offX_L offM_WL (fun k j h => by unfold p59 at h; unfold pWL pW; omega)
theorem C_all {M : KM} (h : JJ M) (p r : Int) : CC (f_X_all p r M) (f_M_all p r) := by
  obtain ⟨b, T, R, v, a, u, hs, fl, bx, c, t, F, l, tg, ta, L, X, e0, e1, ok, iX, iM⟩ := h
  exact C_row (A := allA T R v p r) ok iX iM (X_all iX.1 ok.1 p r) (fun M1 m => M_all m.1.1 ok.1 p r) offX_VL offM_WL (fun k j h => by unfold p59 at h; unfold pWL pW; omega)
theorem C_explained {M : KM} (h : JJ M) (k : Int) : CC (f_X_explained k M) (f_M_explained k) := by
  obtain ⟨b, T, R, v, a, u, hs, fl, bx, c, t, F, l, tg, ta, L, X, e0, e1, ok, iX, iM⟩ := h
  exact C_row (A := exA T F c k) ok iX iM (X_explained iX.1 ok.1 iX.2.2.2.1 ok.2.2.2.1 k) (fun M1 m => M_explained m.1.1 ok.1 m.2.2.2.1 ok.2.2.2.1 k) offX_ExL offM_MS (fun k j h => by unfold p59 at h; unfold pMS pMN; omega)
/-- questions that change nothing -/
def CQ (x y : Option Int) : Prop := ∃ z, x = some z ∧ y = some z
theorem C_fault {M : KM} (h : JJ M) (w : Int) : CQ (f_X_fault w M) (f_M_fault w M) := by
  obtain ⟨b, T, R, v, a, u, hs, fl, bx, c, t, F, l, tg, ta, L, X, e0, e1, ok, iX, iM⟩ := h
  refine ⟨_, X_fault w M, ?_⟩
  rw [M_fault, iM.2.2.2.2.2.2.2.1.1, iM.2.2.2.2.2.2.2.1.2, iX.2.2.2.2.2.2.2.1, iX.2.2.2.2.2.2.2.2]
theorem C_person {M : KM} (h : JJ M) (p w : Int) : CQ (f_X_person p w M) (f_M_person p w M) := by
  obtain ⟨b, T, R, v, a, u, hs, fl, bx, c, t, F, l, tg, ta, L, X, e0, e1, ok, iX, iM⟩ := h
  exact ⟨_, X_person iX.1 ok.1 p w, M_person iM.1.1 ok.1 p w⟩
theorem C_sum {M : KM} (h : JJ M) (w : Int) : CQ (f_X_sum w M) (f_M_sum w M) := by
  obtain ⟨b, T, R, v, a, u, hs, fl, bx, c, t, F, l, tg, ta, L, X, e0, e1, ok, iX, iM⟩ := h
  exact ⟨_, X_sum iX.1 ok.1 w, M_sum iM.1.1 ok.1 w⟩
theorem C_loan {M : KM} (h : JJ M) (p w : Int) : CQ (f_X_loan p w M) (f_M_loan p w M) := by
  obtain ⟨b, T, R, v, a, u, hs, fl, bx, c, t, F, l, tg, ta, L, X, e0, e1, ok, iX, iM⟩ := h
  exact ⟨_, X_loan iX.1 ok.1 p w, M_loan iM.1.1 ok.1 p w⟩
theorem C_market {M : KM} (h : JJ M) (p w : Int) : CQ (f_X_market p w M) (f_M_market p w M) := by
  obtain ⟨b, T, R, v, a, u, hs, fl, bx, c, t, F, l, tg, ta, L, X, e0, e1, ok, iX, iM⟩ := h
  exact ⟨_, X_market iX.1 ok.1 p w, M_market iM.1.1 ok.1 iM.2.2.2.2.2.2.2.2 p w⟩
theorem C_rests {M : KM} (h : JJ M) (p w : Int) : CQ (f_X_rests p w M) (f_M_rests p w M) := by
  obtain ⟨b, T, R, v, a, u, hs, fl, bx, c, t, F, l, tg, ta, L, X, e0, e1, ok, iX, iM⟩ := h
  exact ⟨_, X_rests iX.1 ok.1 p w, M_rests iM.1.1 ok.1 iM.2.2.2.2.2.2.2.2 p w⟩
theorem C_lies {M : KM} (h : JJ M) (i : Int) : CQ (f_X_lies i M) (f_M_lies i M) := by
  obtain ⟨b, T, R, v, a, u, hs, fl, bx, c, t, F, l, tg, ta, L, X, e0, e1, ok, iX, iM⟩ := h
  exact ⟨_, X_lies iX.2.2.2.2.1 i, M_lies iM.2.2.2.2.1 i⟩
