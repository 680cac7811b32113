/-! FACES -/
def FC (c : Nat) (t : Int) (F : TW) (M : KM) : Prop := (M 349 0 = (c : Int) ∧ M 349 1 = t) ∧ ∀ i, i < c → M 350 i = F 0 i ∧ M 351 i = F 1 i ∧ M 352 i = F 2 i ∧ M 353 i = F 3 i
def FM (c : Nat) (t : Int) (F : TW) (M : KM) : Prop := (M 382 71 = (c : Int) ∧ M 382 72 = t) ∧ ∀ i, i < c → M 426 i = F 0 i ∧ M 427 i = F 1 i ∧ M 428 i = F 2 i ∧ M 429 i = F 3 i
def okF (T : TW) (c : Nat) (t : Int) (F : TW) : Prop := (c ≤ 30 ∧ 0 ≤ t ∧ t ≤ 100000) ∧ ∀ i, i < c → 0 ≤ F 0 i ∧ F 0 i < T 0 0 ∧ -1 ≤ F 3 i
def pFC (k j : Nat) : Prop := (k = 349 ∧ (j = 0 ∨ j = 1)) ∨ (350 ≤ k ∧ k ≤ 353)
def pFM (k j : Nat) : Prop := (k = 382 ∧ (j = 71 ∨ j = 72)) ∨ (426 ≤ k ∧ k ≤ 429)
theorem FC.congr {c : Nat} {t : Int} {F : TW} {M M' : KM} (h : FC c t F M) (he : ∀ k j, pFC k j → M' k j = M k j) : FC c t F M' := by
  obtain ⟨h1, h2⟩ := h
  refine ⟨by rw [he 349 0 (by unfold pFC; omega), he 349 1 (by unfold pFC; omega)]; exact h1, fun i hi => ?_⟩
  rw [he 350 i (by unfold pFC; omega), he 351 i (by unfold pFC; omega), he 352 i (by unfold pFC; omega), he 353 i (by unfold pFC; omega)]
  exact h2 i hi
theorem FM.congr {c : Nat} {t : Int} {F : TW} {M M' : KM} (h : FM c t F M) (he : ∀ k j, pFM k j → M' k j = M k j) : FM c t F M' := by
  obtain ⟨h1, h2⟩ := h
  refine ⟨by rw [he 382 71 (by unfold pFM; omega), he 382 72 (by unfold pFM; omega)]; exact h1, fun i hi => ?_⟩
  rw [he 426 i (by unfold pFM; omega), he 427 i (by unfold pFM; omega), he 428 i (by unfold pFM; omega), he 429 i (by unfold pFM; omega)]
  exact h2 i hi
/-- one FACE more -/
def Fadd (F : TW) (c : Nat) (p a t : Int) : TW := fun k i => if i = c then (if k = 0 then p else if k = 1 then a else if k = 2 then t else -1) else F k i
def Funt (F : TW) (n : Nat) (t : Int) : TW := fun k i => if k = 3 ∧ i = n then t else F k i
theorem okF_add {T F : TW} {c : Nat} {t p a : Int} (h : okF T c t F) (hc : c < 30) (hp : 0 ≤ p ∧ p < T 0 0) : okF T (c + 1) t (Fadd F c p a t) := by
  refine ⟨by have := h.1; omega, fun i hi => ?_⟩
  unfold Fadd
  by_cases hic : i = c
  · simp [hic]; omega
  · simp only [hic, if_false]; exact h.2 i (by omega)
theorem okF_unt {T F : TW} {c n : Nat} {t : Int} (h : okF T c t F) : okF T c t (Funt F n t) := by
  refine ⟨h.1, fun i hi => ?_⟩
  have := h.2 i hi
  have := h.1
  unfold Funt
  refine ⟨by simp; omega, by simp; omega, ?_⟩
  split <;> omega
theorem X_face {T : TW} {R : Nat → RL} {v : Nat → Int} {M : KM} {c : Nat} {t : Int} {F : TW} (h : WC T R v M) (hF : FC c t F M) (hc : c ≤ 30) (p a : Int) : Ret (f_X_face p a M) (fun q => if ((0 ≤ p ∧ p < T 0 0) ∧ (T 0 3 ≤ a ∧ a ≤ T 0 4)) ∧ c < 30 then q.1 = (c : Int) ∧ FC (c + 1) t (Fadd F c p a t) q.2 ∧ Fp pFC M q.2 else q = (-1, M)) := by
  unfold f_X_face
  rw [e_X_isPerson, ob_some, h.n]
  by_cases hp : 0 ≤ p ∧ p < T 0 0
  · rw [if_pos hp]
    refine Ret.f (by omega) ?_
    rw [e_X_isAge, ob_some, h.least, h.most]
    by_cases ha : T 0 3 ≤ a ∧ a ≤ T 0 4
    · rw [if_pos ha]
      refine Ret.f (by omega) ?_
      rw [hF.1.1]
      by_cases hlt : c < 30
      · refine Ret.t (by omega) (Ret.bind (R := fun q => q.1 = (c : Int) ∧ FC (c + 1) t (Fadd F c p a t) q.2 ∧ Fp pFC M q.2) ?_ (fun q hq => Ret.pure (by rw [if_pos ⟨⟨hp, ha⟩, hlt⟩]; exact hq)))
        unfold f_Faces_add
        refine Ret.letM (Ret.letM (Ret.letM (Ret.letM (Ret.letM ?_))))
        have e0 := hF.1.1
        have e1 := hF.1.2
        have z1 : ∀ x : Int, mupd M 350 c x 349 0 = (c : Int) := fun x => by rw [mupd_ne _ _ (by omega)]; exact e0
        have z1' : ∀ x : Int, mupd M 350 c x 349 1 = t := fun x => by rw [mupd_ne _ _ (by omega)]; exact e1
        have z2 : ∀ x y : Int, mupd (mupd M 350 c x) 351 c y 349 0 = (c : Int) := fun x y => by rw [mupd_ne _ _ (by omega), z1]
        have z2' : ∀ x y : Int, mupd (mupd M 350 c x) 351 c y 349 1 = t := fun x y => by rw [mupd_ne _ _ (by omega), z1']
        have z3 : ∀ x y z : Int, mupd (mupd (mupd M 350 c x) 351 c y) 352 c z 349 0 = (c : Int) := fun x y z => by rw [mupd_ne _ _ (by omega), z2]
        have z4 : ∀ x y z w : Int, mupd (mupd (mupd (mupd M 350 c x) 351 c y) 352 c z) 353 c w 349 0 = (c : Int) := fun x y z w => by rw [mupd_ne _ _ (by omega), z3]
        rw [e0, putM_nat _ _ _ _ hlt, z1, putM_nat _ _ _ _ hlt, z2, z2', putM_nat _ _ _ _ hlt, z3, putM_nat _ _ _ _ hlt, z4, mupd_same, w32e (n := (c : Int) + 1) (by omega) (by omega), w32e (by omega) (by omega)]
        refine Ret.pure ⟨by dsimp only; omega, ⟨⟨?_, ?_⟩, fun i hi => ?_⟩, ((((Fp.rf.upd (Or.inr (by omega))).upd (Or.inr (by omega))).upd (Or.inr (by omega))).upd (Or.inr (by omega))).upd (Or.inl ⟨rfl, Or.inl rfl⟩)⟩
        · dsimp only; rw [mupd_same]; omega
        · dsimp only; rw [mupd_ne2 _ _ (by omega), mupd_ne _ _ (by omega), mupd_ne _ _ (by omega), z2']
        · unfold Fadd
          by_cases hic : i = c
          · subst hic; simp [mupd]
          · have := hF.2 i (by omega)
            simpa [mupd, hic] using this
      · exact Ret.f (by omega) (Ret.pure (by rw [if_neg (fun q => hlt q.2)]))
    · rw [if_neg ha]
      exact Ret.t rfl (Ret.pure (by rw [if_neg (fun q : ((0 ≤ p ∧ p < T 0 0) ∧ (T 0 3 ≤ a ∧ a ≤ T 0 4)) ∧ c < 30 => ha q.1.2)]))
  · rw [if_neg hp]
    exact Ret.t rfl (Ret.pure (by rw [if_neg (fun q : ((0 ≤ p ∧ p < T 0 0) ∧ (T 0 3 ≤ a ∧ a ≤ T 0 4)) ∧ c < 30 => hp q.1.1)]))
theorem M_face {b : Nat} {T : TW} {R : Nat → RL} {v : Nat → Int} {M : KM} {c : Nat} {t : Int} {F : TW} (h : WM b T R v M) (ho : WO T R v) (hF : FM c t F M) (hc : c ≤ 30) (p a : Int) : Ret (f_M_face p a M) (fun q => if ((0 ≤ p ∧ p < T 0 0) ∧ (T 0 3 ≤ a ∧ a ≤ T 0 4)) ∧ c < 30 then q.1 = (c : Int) ∧ FM (c + 1) t (Fadd F c p a t) q.2 ∧ Fp pFM M q.2 else q = (-1, M)) := by
  unfold f_M_face
  rw [M_isPerson h ho, ob_some]
  by_cases hp : 0 ≤ p ∧ p < T 0 0
  · rw [if_pos hp]
    refine Ret.f (by omega) ?_
    rw [M_isAge h, ob_some]
    by_cases ha : T 0 3 ≤ a ∧ a ≤ T 0 4
    · rw [if_pos ha]
      refine Ret.f (by omega) ?_
      rw [hF.1.1]
      by_cases hlt : c < 30
      · have e0 := hF.1.1
        have e1 := hF.1.2
        rw [Int.toNat_natCast]
        have z1 : ∀ x : Int, mupd M 426 c x 382 71 = (c : Int) := fun x => by rw [mupd_ne _ _ (by omega)]; exact e0
        have z1' : ∀ x : Int, mupd M 426 c x 382 72 = t := fun x => by rw [mupd_ne _ _ (by omega)]; exact e1
        have z2 : ∀ x y : Int, mupd (mupd M 426 c x) 427 c y 382 71 = (c : Int) := fun x y => by rw [mupd_ne _ _ (by omega), z1]
        have z2' : ∀ x y : Int, mupd (mupd M 426 c x) 427 c y 382 72 = t := fun x y => by rw [mupd_ne _ _ (by omega), z1']
        have z3 : ∀ x y z : Int, mupd (mupd (mupd M 426 c x) 427 c y) 428 c z 382 71 = (c : Int) := fun x y z => by rw [mupd_ne _ _ (by omega), z2]
        have z4 : ∀ x y z w : Int, mupd (mupd (mupd (mupd M 426 c x) 427 c y) 428 c z) 429 c w 382 71 = (c : Int) := fun x y z w => by rw [mupd_ne _ _ (by omega), z3]
        refine Ret.f (by omega) (Ret.t (by omega) (Ret.letM ?_))
        rw [z1, Int.toNat_natCast]
        refine Ret.t (by omega) (Ret.letM ?_)
        rw [z2, z2', Int.toNat_natCast]
        refine Ret.t (by omega) (Ret.letM ?_)
        rw [z3, Int.toNat_natCast]
        refine Ret.t (by omega) (Ret.letM (Ret.letM ?_))
        rw [z4, mupd_same, w32e (n := (c : Int) + 1) (by omega) (by omega), w32e (by omega) (by omega)]
        refine Ret.pure ?_
        rw [if_pos ⟨⟨hp, ha⟩, hlt⟩]
        refine ⟨by dsimp only; omega, ⟨⟨?_, ?_⟩, fun i hi => ?_⟩, ((((Fp.rf.upd (Or.inr (by omega))).upd (Or.inr (by omega))).upd (Or.inr (by omega))).upd (Or.inr (by omega))).upd (Or.inl ⟨rfl, Or.inl rfl⟩)⟩
        · dsimp only; rw [mupd_same]; omega
        · dsimp only; rw [mupd_ne2 _ _ (by omega), mupd_ne _ _ (by omega), mupd_ne _ _ (by omega), z2']
        · unfold Fadd
          by_cases hic : i = c
          · subst hic; simp [mupd]
          · have := hF.2 i (by omega)
            simpa [mupd, hic] using this
      · exact Ret.t (by omega) (Ret.pure (by rw [if_neg (fun q => hlt q.2)]))
    · rw [if_neg ha]
      exact Ret.t rfl (Ret.pure (by rw [if_neg (fun q : ((0 ≤ p ∧ p < T 0 0) ∧ (T 0 3 ≤ a ∧ a ≤ T 0 4)) ∧ c < 30 => ha q.1.2)]))
  · rw [if_neg hp]
    exact Ret.t rfl (Ret.pure (by rw [if_neg (fun q : ((0 ≤ p ∧ p < T 0 0) ∧ (T 0 3 ≤ a ∧ a ≤ T 0 4)) ∧ c < 30 => hp q.1.1)]))
theorem X_untell {c : Nat} {t : Int} {F : TW} {M : KM} (hF : FC c t F M) (hc : c ≤ 30) (n : Int) : Ret (f_X_untell n M) (fun q => if (0 ≤ n ∧ n < c) ∧ F 3 n.toNat = -1 then q.1 = 1 ∧ FC c t (Funt F n.toNat t) q.2 ∧ Fp pFC M q.2 else q = (0, M)) := by
  unfold f_X_untell
  refine Ret.bind (R := fun q => if (0 ≤ n ∧ n < c) ∧ F 3 n.toNat = -1 then q.1 = 1 ∧ FC c t (Funt F n.toNat t) q.2 ∧ Fp pFC M q.2 else q = (0, M)) ?_ ?_
  · unfold f_Faces_takeBack
    rw [hF.1.1, hF.1.2]
    by_cases h0 : n < 0
    · exact Ret.t h0 (Ret.pure (by rw [if_neg (fun q => by omega)]))
    · refine Ret.f h0 ?_
      by_cases hlt : n < c
      · have e3 : atM M 353 30 n = F 3 n.toNat := by rw [atM_in _ _ _ (by omega) (by omega)]; exact (hF.2 n.toNat (by omega)).2.2.2
        rw [e3, putM_in _ _ _ _ (by omega) (by omega)]
        refine Ret.t hlt ?_
        by_cases h3 : F 3 n.toNat = -1
        · refine Ret.t h3 (Ret.letM (Ret.pure ?_))
          rw [if_pos ⟨⟨by omega, hlt⟩, h3⟩]
          refine ⟨rfl, ⟨by dsimp only; rw [mupd_ne _ _ (by omega)]; exact hF.1, fun i hi => ?_⟩, Fp.rf.upd (Or.inr (by omega))⟩
          dsimp only
          rw [mupd_ne _ _ (by omega), mupd_ne _ _ (by omega), mupd_ne _ _ (by omega)]
          have := hF.2 i hi
          unfold Funt
          refine ⟨by simpa using this.1, by simpa using this.2.1, by simpa using this.2.2.1, ?_⟩
          by_cases hin : i = n.toNat
          · subst hin; rw [mupd_same, if_pos ⟨rfl, rfl⟩]
          · rw [mupd_ne2 _ _ hin, if_neg (fun q => hin q.2)]; exact this.2.2.2
        · exact Ret.f h3 (Ret.pure (by rw [if_neg (fun q => h3 q.2)]))
      · exact Ret.f hlt (Ret.pure (by rw [if_neg (fun q => hlt q.1.2)]))
  · rintro q hq
    have h01 : 0 ≤ q.1 ∧ q.1 ≤ 1 := by
      split at hq
      · rw [hq.1]; omega
      · rw [hq]; omega
    exact Ret.t h01 (Ret.pure hq)
theorem M_untell {T : TW} {c : Nat} {t : Int} {F : TW} {M : KM} (hF : FM c t F M) (hok : okF T c t F) (n : Int) : Ret (f_M_untell n M) (fun q => if (0 ≤ n ∧ n < c) ∧ F 3 n.toNat = -1 then q.1 = 1 ∧ FM c t (Funt F n.toNat t) q.2 ∧ Fp pFM M q.2 else q = (0, M)) := by
  have hc := hok.1.1
  unfold f_M_untell
  rw [hF.1.1, w32e (by omega) (by omega), e_M_isIn, ob_some]
  by_cases hlt : 0 ≤ n ∧ n < c
  · have e3 : M 429 n.toNat = F 3 n.toNat := (hF.2 n.toNat (by omega)).2.2.2
    have ok3 := (hok.2 n.toNat (by omega)).2.2
    rw [if_pos (by omega : 0 ≤ n ∧ n ≤ (c : Int) - 1), e3, hF.1.2]
    refine Ret.f (by omega) (Ret.t (by omega) ?_)
    by_cases h3 : F 3 n.toNat = -1
    · refine Ret.t (by omega) (Ret.t (by omega) (Ret.letM (Ret.pure ?_)))
      rw [if_pos ⟨hlt, h3⟩]
      refine ⟨rfl, ⟨by dsimp only; rw [mupd_ne _ _ (by omega)]; exact hF.1, fun i hi => ?_⟩, Fp.rf.upd (Or.inr (by omega))⟩
      dsimp only
      rw [mupd_ne _ _ (by omega), mupd_ne _ _ (by omega), mupd_ne _ _ (by omega)]
      have := hF.2 i hi
      unfold Funt
      refine ⟨by simpa using this.1, by simpa using this.2.1, by simpa using this.2.2.1, ?_⟩
      by_cases hin : i = n.toNat
      · subst hin; rw [mupd_same, if_pos ⟨rfl, rfl⟩]
      · rw [mupd_ne2 _ _ hin, if_neg (fun q => hin q.2)]; exact this.2.2.2
    · exact Ret.f (by omega) (Ret.pure (by rw [if_neg (fun q => h3 q.2)]))
  · rw [if_neg (by omega : ¬ (0 ≤ n ∧ n ≤ (c : Int) - 1))]
    exact Ret.t rfl (Ret.pure (by rw [if_neg (fun q : (0 ≤ n ∧ n < c) ∧ F 3 n.toNat = -1 => hlt q.1)]))
def laterA (t b : Int) : Int := if (0 ≤ b ∧ b ≤ 1000) ∧ t + b ≤ 100000 then t + b else -1
def laterT (t b : Int) : Int := if (0 ≤ b ∧ b ≤ 1000) ∧ t + b ≤ 100000 then t + b else t
theorem X_later {c : Nat} {t : Int} {F : TW} {M : KM} (hF : FC c t F M) (ht : 0 ≤ t ∧ t ≤ 100000) (b : Int) : Ret (f_X_later b M) (fun q => q.1 = laterA t b ∧ FC c (laterT t b) F q.2 ∧ Fp pFC M q.2) := by
  unfold f_X_later laterA laterT
  rw [hF.1.2]
  by_cases h0 : b < 0
  · refine Ret.t h0 (Ret.pure ?_)
    rw [if_neg (by omega), if_neg (by omega)]
    exact ⟨rfl, hF, Fp.rf⟩
  · refine Ret.f h0 ?_
    by_cases h1 : b ≤ 1000
    · refine Ret.t h1 ?_
      rw [w32e (by omega) (by omega)]
      by_cases h2 : t + b ≤ 100000
      · refine Ret.t h2 (Ret.letM (Ret.pure ?_))
        rw [if_pos (by omega), if_pos (by omega)]
        refine ⟨by dsimp only; exact mupd_same _ _ _ _, ⟨⟨by dsimp only; rw [mupd_ne2 _ _ (by omega)]; exact hF.1.1, by dsimp only; exact mupd_same _ _ _ _⟩, fun i hi => ?_⟩, Fp.rf.upd (Or.inl ⟨rfl, Or.inr rfl⟩)⟩
        dsimp only
        rw [mupd_ne _ _ (by omega), mupd_ne _ _ (by omega), mupd_ne _ _ (by omega), mupd_ne _ _ (by omega)]
        exact hF.2 i hi
      · refine Ret.f h2 (Ret.pure ?_)
        rw [if_neg (by omega), if_neg (by omega)]
        exact ⟨rfl, hF, Fp.rf⟩
    · refine Ret.f h1 (Ret.pure ?_)
      rw [if_neg (by omega), if_neg (by omega)]
      exact ⟨rfl, hF, Fp.rf⟩
theorem M_later {c : Nat} {t : Int} {F : TW} {M : KM} (hF : FM c t F M) (ht : 0 ≤ t ∧ t ≤ 100000) (b : Int) : Ret (f_M_later b M) (fun q => q.1 = laterA t b ∧ FM c (laterT t b) F q.2 ∧ Fp pFM M q.2) := by
  unfold f_M_later laterA laterT
  rw [e_M_isIn, ob_some, hF.1.2]
  by_cases h1 : 0 ≤ b ∧ b ≤ 1000
  · rw [if_pos h1, w32e (by omega) (by omega)]
    refine Ret.f (by omega) ?_
    by_cases h2 : t + b ≤ 100000
    · refine Ret.t h2 (Ret.letM (Ret.pure ?_))
      rw [if_pos (show (0 ≤ b ∧ b ≤ 1000) ∧ t + b ≤ 100000 from ⟨h1, h2⟩), if_pos (show (0 ≤ b ∧ b ≤ 1000) ∧ t + b ≤ 100000 from ⟨h1, h2⟩)]
      refine ⟨by dsimp only; exact mupd_same _ _ _ _, ⟨⟨by dsimp only; rw [mupd_ne2 _ _ (by omega)]; exact hF.1.1, by dsimp only; exact mupd_same _ _ _ _⟩, fun i hi => ?_⟩, Fp.rf.upd (Or.inl ⟨rfl, Or.inr rfl⟩)⟩
      dsimp only
      rw [mupd_ne _ _ (by omega), mupd_ne _ _ (by omega), mupd_ne _ _ (by omega), mupd_ne _ _ (by omega)]
      exact hF.2 i hi
    · refine Ret.f h2 (Ret.pure ?_)
      rw [if_neg (fun q : (0 ≤ b ∧ b ≤ 1000) ∧ t + b ≤ 100000 => h2 q.2), if_neg (fun q : (0 ≤ b ∧ b ≤ 1000) ∧ t + b ≤ 100000 => h2 q.2)]
      exact ⟨rfl, hF, Fp.rf⟩
  · rw [if_neg h1]
    refine Ret.t rfl (Ret.pure ?_)
    rw [if_neg (fun q : (0 ≤ b ∧ b ≤ 1000) ∧ t + b ≤ 100000 => h1 q.1), if_neg (fun q : (0 ≤ b ∧ b ≤ 1000) ∧ t + b ≤ 100000 => h1 q.1)]
    exact ⟨rfl, hF, Fp.rf⟩
