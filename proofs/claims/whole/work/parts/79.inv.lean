/-! WHAT BOTH SIDES HOLD between two calls -/
section
variable {b : Nat} {T : TW} {R : Nat → RL} {v : Nat → Int} {a u : Nat} {hs : HS} {fl : Nat → Bool} {bx : HS} {c : Nat} {t : Int} {F : TW} {l : List Int} {tg : Nat → Bool} {ta : Nat → Int} {L : Nat} {X : Nat → Int} {e0 e1 : Int} {M M' : KM} {P : Nat → Nat → Prop}
def OKA (T : TW) (R : Nat → RL) (v : Nat → Int) (a u : Nat) (hs : HS) (fl : Nat → Bool) (bx : HS) (c : Nat) (t : Int) (F : TW) (tg : Nat → Bool) (ta : Nat → Int) (L : Nat) (X : Nat → Int) : Prop := WO T R v ∧ (okH T a u hs ∧ hs a = v) ∧ okB T fl bx ∧ okF T c t F ∧ okG T tg ta ∧ L ≤ 1600 ∧ xR L X
def IX (T : TW) (R : Nat → RL) (v : Nat → Int) (a u : Nat) (hs : HS) (fl : Nat → Bool) (bx : HS) (c : Nat) (t : Int) (F : TW) (l : List Int) (tg : Nat → Bool) (ta : Nat → Int) (L : Nat) (X : Nat → Int) (e0 e1 : Int) (M : KM) : Prop := WC T R v M ∧ HC a u hs (T 0 0) M ∧ BC fl bx (T 0 0) M ∧ FC c t F M ∧ LC l M ∧ GC_ tg ta M ∧ PC L X M ∧ (M 14 0 = e0 ∧ M 14 1 = e1)
def IM (b : Nat) (T : TW) (R : Nat → RL) (v : Nat → Int) (a u : Nat) (hs : HS) (fl : Nat → Bool) (bx : HS) (c : Nat) (t : Int) (F : TW) (l : List Int) (tg : Nat → Bool) (ta : Nat → Int) (L : Nat) (X : Nat → Int) (e0 e1 : Int) (M : KM) : Prop := (WM b T R v M ∧ RGf b T M) ∧ HM a u hs M ∧ BM fl bx M ∧ FM c t F M ∧ LM l M ∧ GM_ tg ta M ∧ PM L X M ∧ (M 382 4 = e0 ∧ M 382 5 = e1) ∧ M 382 59 = -1
def JJ (M : KM) : Prop := ∃ b T R v a u hs fl bx c t F l tg ta L X e0 e1, OKA T R v a u hs fl bx c t F tg ta L X ∧ IX T R v a u hs fl bx c t F l tg ta L X e0 e1 M ∧ IM b T R v a u hs fl bx c t F l tg ta L X e0 e1 M
theorem WC.fr (h : WC T R v M) (hf : Fp P M M') (hp : ∀ k j, pN k j → ¬ P k j) : WC T R v M' := h.congr fun k j hk => hf k j (hp k j hk)
theorem HC.fr {n : Int} (h : HC a u hs n M) (hf : Fp P M M') (hp : ∀ k j, pHC k j → ¬ P k j) : HC a u hs n M' := h.congr fun k j hk => hf k j (hp k j hk)
theorem BC.fr {n : Int} (h : BC fl bx n M) (hf : Fp P M M') (hp : ∀ k j, pBC k j → ¬ P k j) : BC fl bx n M' := h.congr fun k j hk => hf k j (hp k j hk)
theorem FC.fr (h : FC c t F M) (hf : Fp P M M') (hp : ∀ k j, pFC k j → ¬ P k j) : FC c t F M' := h.congr fun k j hk => hf k j (hp k j hk)
theorem LC.fr (h : LC l M) (hf : Fp P M M') (hp : ∀ k j, pL k j → ¬ P k j) : LC l M' := h.congr (hf _ _ (hp _ _ (Or.inr ⟨rfl, rfl⟩))) (hf.row fun j => hp _ _ (Or.inl rfl))
theorem GC_.fr (h : GC_ tg ta M) (hf : Fp P M M') (hp : ∀ k j, pGC k j → ¬ P k j) : GC_ tg ta M' := h.congr fun k j hk => hf k j (hp k j hk)
theorem PC.fr (h : PC L X M) (hf : Fp P M M') (hp : ∀ k j, pT0 k j → ¬ P k j) : PC L X M' := ⟨by rw [hf 0 1 (hp _ _ (Or.inr ⟨rfl, rfl⟩))]; exact h.1, fun i hi => by rw [hf 1 i (hp _ _ (Or.inl rfl))]; exact h.2 i hi⟩
def pE0 (k j : Nat) : Prop := k = 14 ∧ (j = 0 ∨ j = 1)
def pEM (k j : Nat) : Prop := k = 382 ∧ (j = 4 ∨ j = 5)
theorem E0.fr (h : M 14 0 = e0 ∧ M 14 1 = e1) (hf : Fp P M M') (hp : ∀ k j, pE0 k j → ¬ P k j) : M' 14 0 = e0 ∧ M' 14 1 = e1 := ⟨by rw [hf _ _ (hp _ _ ⟨rfl, Or.inl rfl⟩)]; exact h.1, by rw [hf _ _ (hp _ _ ⟨rfl, Or.inr rfl⟩)]; exact h.2⟩
theorem EM.fr (h : M 382 4 = e0 ∧ M 382 5 = e1) (hf : Fp P M M') (hp : ∀ k j, pEM k j → ¬ P k j) : M' 382 4 = e0 ∧ M' 382 5 = e1 := ⟨by rw [hf _ _ (hp _ _ ⟨rfl, Or.inl rfl⟩)]; exact h.1, by rw [hf _ _ (hp _ _ ⟨rfl, Or.inr rfl⟩)]; exact h.2⟩
theorem WMR.fr (h : WM b T R v M ∧ RGf b T M) (hf : Fp P M M') (hp : ∀ k j, pR k j → ¬ P k j) : WM b T R v M' ∧ RGf b T M' := by
  refine ⟨h.1.congr fun k j hk => hf k j (hp k j hk), ?_⟩
  have r0 : M' 400 = M 400 := hf.row fun j => hp _ _ (Or.inl (by omega))
  have r1 : M' 401 = M 401 := hf.row fun j => hp _ _ (Or.inl (by omega))
  have h2 := h.2
  unfold RGf RG at h2 ⊢
  rw [r0, r1]; exact h2
theorem HM.fr (h : HM a u hs M) (hf : Fp P M M') (hp : ∀ k j, pHM k j → ¬ P k j) : HM a u hs M' := h.congr fun k j hk => hf k j (hp k j hk)
theorem BM.fr (h : BM fl bx M) (hf : Fp P M M') (hp : ∀ k j, pBM k j → ¬ P k j) : BM fl bx M' := h.congr fun k j hk => hf k j (hp k j hk)
theorem FM.fr (h : FM c t F M) (hf : Fp P M M') (hp : ∀ k j, pFM k j → ¬ P k j) : FM c t F M' := h.congr fun k j hk => hf k j (hp k j hk)
def pLMk (k j : Nat) : Prop := k = 424 ∨ (k = 382 ∧ j = 63)
theorem LM.fr (h : LM l M) (hf : Fp P M M') (hp : ∀ k j, pLMk k j → ¬ P k j) : LM l M' := h.congr (hf _ _ (hp _ _ (Or.inr ⟨rfl, rfl⟩))) (hf.row fun j => hp _ _ (Or.inl rfl))
theorem GM_.fr (h : GM_ tg ta M) (hf : Fp P M M') (hp : ∀ k j, k = 414 → ¬ P k j) : GM_ tg ta M' := fun p hp8 => by rw [hf 414 p (hp _ _ rfl)]; exact h p hp8
theorem PM.fr (h : PM L X M) (hf : Fp P M M') (hp : ∀ k j, pTM k j → ¬ P k j) : PM L X M' := ⟨by rw [hf 382 2 (hp _ _ (Or.inr ⟨rfl, rfl⟩))]; exact h.1, fun i hi => by rw [hf 383 i (hp _ _ (Or.inl rfl))]; exact h.2 i hi⟩
/-- frames that leave the first side's share, all but the row it tells of, alone -/
def offX (P : Nat → Nat → Prop) : Prop := ∀ k j, P k j → k < 382 ∧ ¬ (pN k j ∨ pHC k j ∨ pBC k j ∨ pFC k j ∨ pGC k j ∨ pT0 k j ∨ pE0 k j)
def offM (P : Nat → Nat → Prop) : Prop := ∀ k j, P k j → 382 ≤ k ∧ ¬ (pR k j ∨ pHM k j ∨ pBM k j ∨ pFM k j ∨ k = 414 ∨ pTM k j ∨ pEM k j)
theorem IX.locL {l' : List Int} (h : IX T R v a u hs fl bx c t F l tg ta L X e0 e1 M) (hf : Fp P M M') (hp : offX P) (hl : LC l' M') : IX T R v a u hs fl bx c t F l' tg ta L X e0 e1 M' := by
  obtain ⟨h1, h2, h3, h4, h5, h6, h7, h8⟩ := h
  exact ⟨h1.fr hf fun k j hk q => (hp k j q).2 (Or.inl hk), h2.fr hf fun k j hk q => (hp k j q).2 (Or.inr (Or.inl hk)), h3.fr hf fun k j hk q => (hp k j q).2 (Or.inr (Or.inr (Or.inl hk))), h4.fr hf fun k j hk q => (hp k j q).2 (Or.inr (Or.inr (Or.inr (Or.inl hk)))), hl, h6.fr hf fun k j hk q => (hp k j q).2 (Or.inr (Or.inr (Or.inr (Or.inr (Or.inl hk))))), h7.fr hf fun k j hk q => (hp k j q).2 (Or.inr (Or.inr (Or.inr (Or.inr (Or.inr (Or.inl hk)))))), E0.fr h8 hf fun k j hk q => (hp k j q).2 (Or.inr (Or.inr (Or.inr (Or.inr (Or.inr (Or.inr hk))))))⟩
theorem IX.loc (h : IX T R v a u hs fl bx c t F l tg ta L X e0 e1 M) (hf : Fp P M M') (hp : offX P) (hq : ∀ k j, pL k j → ¬ P k j) : IX T R v a u hs fl bx c t F l tg ta L X e0 e1 M' := h.locL hf hp (h.2.2.2.2.1.fr hf hq)
theorem IM.locL {l' : List Int} (h : IM b T R v a u hs fl bx c t F l tg ta L X e0 e1 M) (hf : Fp P M M') (hp : offM P) (hl : LM l' M') (h59 : M' 382 59 = -1) : IM b T R v a u hs fl bx c t F l' tg ta L X e0 e1 M' := by
  obtain ⟨h1, h2, h3, h4, h5, h6, h7, h8, _⟩ := h
  exact ⟨WMR.fr h1 hf fun k j hk q => (hp k j q).2 (Or.inl hk), h2.fr hf fun k j hk q => (hp k j q).2 (Or.inr (Or.inl hk)), h3.fr hf fun k j hk q => (hp k j q).2 (Or.inr (Or.inr (Or.inl hk))), h4.fr hf fun k j hk q => (hp k j q).2 (Or.inr (Or.inr (Or.inr (Or.inl hk)))), hl, h6.fr hf fun k j hk q => (hp k j q).2 (Or.inr (Or.inr (Or.inr (Or.inr (Or.inl hk))))), h7.fr hf fun k j hk q => (hp k j q).2 (Or.inr (Or.inr (Or.inr (Or.inr (Or.inr (Or.inl hk)))))), EM.fr h8 hf fun k j hk q => (hp k j q).2 (Or.inr (Or.inr (Or.inr (Or.inr (Or.inr (Or.inr hk)))))), h59⟩
theorem IM.loc (h : IM b T R v a u hs fl bx c t F l tg ta L X e0 e1 M) (hf : Fp P M M') (hp : offM P) (hq : ∀ k j, pLMk k j ∨ p59 k j → ¬ P k j) : IM b T R v a u hs fl bx c t F l tg ta L X e0 e1 M' := h.locL hf hp (h.2.2.2.2.1.fr hf fun k j hk => hq k j (Or.inl hk)) (by rw [hf 382 59 (hq _ _ (Or.inr ⟨rfl, rfl⟩))]; exact h.2.2.2.2.2.2.2.2)
theorem IX.far (h : IX T R v a u hs fl bx c t F l tg ta L X e0 e1 M) (hf : Fp P M M') (hp : ∀ k j, P k j → 382 ≤ k) : IX T R v a u hs fl bx c t F l tg ta L X e0 e1 M' := by
  obtain ⟨h1, h2, h3, h4, h5, h6, h7, h8⟩ := h
  have g : ∀ k j, k < 382 → ¬ P k j := fun k j hk q => by have := hp k j q; omega
  exact ⟨h1.fr hf fun k j hk => g k j (by unfold pN at hk; omega), h2.fr hf fun k j hk => g k j (by unfold pHC at hk; omega), h3.fr hf fun k j hk => g k j (by unfold pBC at hk; omega), h4.fr hf fun k j hk => g k j (by unfold pFC at hk; omega), h5.fr hf fun k j hk => g k j (by unfold pL at hk; omega), h6.fr hf fun k j hk => g k j (by unfold pGC at hk; omega), h7.fr hf fun k j hk => g k j (by unfold pT0 at hk; omega), E0.fr h8 hf fun k j hk => g k j (by unfold pE0 at hk; omega)⟩
theorem IM.far (h : IM b T R v a u hs fl bx c t F l tg ta L X e0 e1 M) (hf : Fp P M M') (hp : ∀ k j, P k j → k < 382) : IM b T R v a u hs fl bx c t F l tg ta L X e0 e1 M' := by
  obtain ⟨h1, h2, h3, h4, h5, h6, h7, h8, h9⟩ := h
  have g : ∀ k j, 382 ≤ k → ¬ P k j := fun k j hk q => by have := hp k j q; omega
  exact ⟨WMR.fr h1 hf fun k j hk => g k j (by unfold pR at hk; omega), h2.fr hf fun k j hk => g k j (by unfold pHM at hk; omega), h3.fr hf fun k j hk => g k j (by unfold pBM at hk; omega), h4.fr hf fun k j hk => g k j (by unfold pFM at hk; omega), h5.fr hf fun k j hk => g k j (by unfold pLMk at hk; omega), h6.fr hf fun k j hk => g k j (by omega), h7.fr hf fun k j hk => g k j (by unfold pTM at hk; omega), EM.fr h8 hf fun k j hk => g k j (by unfold pEM at hk; omega), by rw [hf 382 59 (g _ _ (by omega))]; exact h9⟩
/-- a call on both sides: the same answer, and both hold what they hold -/
def CC (x : Option (Int × KM)) (y : KM → Option (Int × KM)) : Prop := Ret x (fun q => Ret (y q.2) (fun r => q.1 = r.1 ∧ JJ r.2))
/-- it leaves no trace -/
theorem C_loc {x : Option (Int × KM)} {y : KM → Option (Int × KM)} {V W : Int → Prop} {Q : Nat → Nat → Prop} (hV : ∀ y z, V y → W z → y = z) (ok : OKA T R v a u hs fl bx c t F tg ta L X) (iX : IX T R v a u hs fl bx c t F l tg ta L X e0 e1 M) (iM : IM b T R v a u hs fl bx c t F l tg ta L X e0 e1 M) (h1 : Ret x (fun q => V q.1 ∧ Fp P M q.2)) (h2 : ∀ M1, IM b T R v a u hs fl bx c t F l tg ta L X e0 e1 M1 → Ret (y M1) (fun q => W q.1 ∧ Fp Q M1 q.2)) (hp : offX P) (hpl : ∀ k j, pL k j → ¬ P k j) (hq : offM Q) (hql : ∀ k j, pLMk k j ∨ p59 k j → ¬ Q k j) : CC x y := by
  refine h1.mono fun q hq1 => ?_
  have m1 := iM.far hq1.2 fun k j z => (hp k j z).1
  refine (h2 q.2 m1).mono fun r hr => ⟨hV _ _ hq1.1 hr.1, b, T, R, v, a, u, hs, fl, bx, c, t, F, l, tg, ta, L, X, e0, e1, ok, ?_, m1.loc hr.2 hq hql⟩
  exact (iX.loc hq1.2 hp hpl).far hr.2 fun k j z => (hq k j z).1
/-- it tells a row -/
theorem C_row {x : Option (Int × KM)} {y : KM → Option (Int × KM)} {A : Int × List Int} {Q : Nat → Nat → Prop} (ok : OKA T R v a u hs fl bx c t F tg ta L X) (iX : IX T R v a u hs fl bx c t F l tg ta L X e0 e1 M) (iM : IM b T R v a u hs fl bx c t F l tg ta L X e0 e1 M) (h1 : Ret x (fun q => q.1 = A.1 ∧ LC A.2 q.2 ∧ Fp P M q.2)) (h2 : ∀ M1, IM b T R v a u hs fl bx c t F l tg ta L X e0 e1 M1 → Ret (y M1) (fun q => q.1 = A.1 ∧ LM A.2 q.2 ∧ Fp Q M1 q.2)) (hp : offX P) (hq : offM Q) (hql : ∀ k j, p59 k j → ¬ Q k j) : CC x y := by
  refine h1.mono fun q hq1 => ?_
  have m1 := iM.far hq1.2.2 fun k j z => (hp k j z).1
  refine (h2 q.2 m1).mono fun r hr => ⟨by rw [hq1.1, hr.1], b, T, R, v, a, u, hs, fl, bx, c, t, F, A.2, tg, ta, L, X, e0, e1, ok, ?_, m1.locL hr.2.2 hq hr.2.1 (by rw [hr.2.2 382 59 (hql _ _ ⟨rfl, rfl⟩)]; exact m1.2.2.2.2.2.2.2.2)⟩
  exact (iX.locL hq1.2.2 hp hq1.2.1).far hr.2.2 fun k j z => (hq k j z).1
/-- anything else: both sides' new share is given -/
theorem C_new {x : Option (Int × KM)} {y : KM → Option (Int × KM)} {V : Int} {Q : Nat → Nat → Prop} {b' : Nat} {T' : TW} {R' : Nat → RL} {v' : Nat → Int} {a' u' : Nat} {hs' : HS} {fl' : Nat → Bool} {bx' : HS} {c' : Nat} {t' : Int} {F' : TW} {l' : List Int} {tg' : Nat → Bool} {ta' : Nat → Int} {L' : Nat} {X' : Nat → Int} {e0' e1' : Int} (ok : OKA T' R' v' a' u' hs' fl' bx' c' t' F' tg' ta' L' X') (iM : IM b T R v a u hs fl bx c t F l tg ta L X e0 e1 M)
    (h1 : Ret x (fun q => q.1 = V ∧ IX T' R' v' a' u' hs' fl' bx' c' t' F' l' tg' ta' L' X' e0' e1' q.2 ∧ Fp P M q.2)) (h2 : ∀ M1, IM b T R v a u hs fl bx c t F l tg ta L X e0 e1 M1 → Ret (y M1) (fun q => q.1 = V ∧ IM b' T' R' v' a' u' hs' fl' bx' c' t' F' l' tg' ta' L' X' e0' e1' q.2 ∧ Fp Q M1 q.2)) (hp : ∀ k j, P k j → k < 382) (hq : ∀ k j, Q k j → 382 ≤ k) : CC x y := by
  refine h1.mono fun q hq1 => ?_
  refine (h2 q.2 (iM.far hq1.2.2 hp)).mono fun r hr => ⟨by rw [hq1.1, hr.1], b', T', R', v', a', u', hs', fl', bx', c', t', F', l', tg', ta', L', X', e0', e1', ok, hq1.2.1.far hr.2.2 hq, hr.2.1⟩
end
