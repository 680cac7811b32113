/-! THE READER: what both sides do with a token -/
def kdJ (W : Nat → Int) (n j : Nat) : Int := tkK W n (plS W n j)
/-- the first side looks at token j of 0 .. J -/
def RC (W : Nat → Int) (n J j : Nat) (M : KM) : Prop := SCN W n (J + 1) M ∧ M 14 4 = (j : Int) ∧ M 14 5 = kdJ W n j ∧ j ≤ J ∧ J ≤ 1600 ∧ M 14 0 = 0 ∧ M 14 1 = -1
/-- so does the second, and all is good -/
def RM (W : Nat → Int) (n j : Nat) (M : KM) : Prop := (TXM W n M ∧ M 382 5 = -1) ∧ PTM W n (plS W n j) M ∧ M 382 4 = 0
def f2 (W : Nat → Int) (n j : Nat) : Int := if kdJ W n j = 0 then 1 else 2
def fC (f : Int) (p : Nat) (M : KM) : Prop := M 14 0 = f ∧ M 14 1 = (p : Int)
def fM (f : Int) (p : Nat) (M : KM) : Prop := M 382 4 = f ∧ M 382 5 = (p : Int) ∧ 0 ≤ M 382 6
theorem f2_R (W : Nat → Int) (n j : Nat) : f2 W n j = 1 ∨ f2 W n j = 2 := by unfold f2; split <;> simp
def pF (k j : Nat) : Prop := k = 14 ∧ (j = 0 ∨ j = 1)
def pS (k j : Nat) : Prop := k = 14 ∧ (j = 4 ∨ j = 5)
theorem RC.congr {W : Nat → Int} {n J j : Nat} {M M' : KM} (h : RC W n J j M) (h4 : M' 14 4 = M 14 4) (h5 : M' 14 5 = M 14 5) (he : ∀ c, 28 ≤ c → c ≤ 31 → M' c = M c) (h01 : M' 14 0 = M 14 0 ∧ M' 14 1 = M 14 1 := by simp [mupd]) : RC W n J j M' := by
  refine ⟨fun k hk => ?_, by rw [h4]; exact h.2.1, by rw [h5]; exact h.2.2.1, h.2.2.2.1, h.2.2.2.2.1, by rw [h01.1]; exact h.2.2.2.2.2.1, by rw [h01.2]; exact h.2.2.2.2.2.2⟩
  rw [he 28 (by omega) (by omega), he 29 (by omega) (by omega), he 30 (by omega) (by omega), he 31 (by omega) (by omega)]
  exact h.1 k hk
theorem X_refuse {W : Nat → Int} {n J j : Nat} {M : KM} (h : RC W n J j M) (f : Int) : Ret (f_Reader_refuse f M) (fun q => q.1 = 0 ∧ fC (if kdJ W n j = 0 then 1 else f) (plS W n j) q.2 ∧ Fp pF M q.2) := by
  obtain ⟨h1, h2, h3, h4, h5⟩ := h
  unfold f_Reader_refuse
  rw [h3]
  refine Ret.bind (R := fun y => y = if kdJ W n j = 0 then 1 else f) (Ret.br (fun hc => Ret.pure (if_pos hc).symm) (fun hc => Ret.pure (if_neg hc).symm)) ?_
  rintro y rfl
  refine Ret.letM ?_
  have e4 : mupd M 14 0 (if kdJ W n j = 0 then 1 else f) 14 4 = (j : Int) := by rw [mupd_ne2 _ _ (by omega)]; exact h2
  have e29 : mupd M 14 0 (if kdJ W n j = 0 then 1 else f) 29 j = (plS W n j : Int) := by rw [mupd_ne _ _ (by omega)]; exact (h1 j (by omega)).2.1
  rw [e4, Int.toNat_natCast, e29]
  refine Ret.bind (R := fun y => y = (plS W n j : Int)) (Ret.f (by omega) (Ret.t (by omega) (Ret.t (by omega) (Ret.pure rfl)))) ?_
  rintro y rfl
  exact Ret.letM (Ret.pure ⟨rfl, ⟨by dsimp only; rw [mupd_ne2 _ _ (by omega), mupd_same], by dsimp only; rw [mupd_same]⟩, (Fp.rf.upd ⟨rfl, Or.inl rfl⟩).upd ⟨rfl, Or.inr rfl⟩⟩)
theorem X_step {W : Nat → Int} {n J j : Nat} {M : KM} (h : RC W n J j M) (hg : good (kdJ W n j)) (hJ : lastT W n J) : Ret (f_Reader_step M) (fun q => RC W n J (j + 1) q ∧ Fp pS M q) := by
  obtain ⟨h1, h2, h3, h4, h5⟩ := h
  have hj : j < J := by
    apply Classical.byContradiction
    intro hh
    have : j = J := by omega
    subst this
    exact hJ.2 hg
  unfold f_Reader_step
  rw [h2, w32e (by omega) (by omega)]
  refine Ret.letM ?_
  rw [mupd_same, mupd_ne _ _ (show (28 : Nat) ≠ 14 by omega), show ((j : Int) + 1).toNat = j + 1 by omega, (h1 (j + 1) (by omega)).1]
  refine Ret.bind (R := fun y => y = kdJ W n (j + 1)) (Ret.f (by omega) (Ret.t (by omega) (Ret.t (by omega) (Ret.pure rfl)))) ?_
  rintro y rfl
  refine Ret.letM (Ret.pure ⟨⟨fun k hk => ?_, by rw [mupd_ne2 _ _ (by omega), mupd_same]; omega, by rw [mupd_same], by omega, h5.1, by simp [mupd]; exact h5.2.1, by simp [mupd]; exact h5.2.2⟩, (Fp.rf.upd ⟨rfl, Or.inl rfl⟩).upd ⟨rfl, Or.inr rfl⟩⟩)
  have eq : ∀ c, c ≠ 14 → mupd (mupd M 14 4 ((j : Int) + 1)) 14 5 (kdJ W n (j + 1)) c = M c := fun c hc => by funext z; rw [mupd_ne _ _ hc, mupd_ne _ _ hc]
  rw [eq 28 (by omega), eq 29 (by omega), eq 30 (by omega), eq 31 (by omega)]
  exact h1 k hk
theorem start_RC {W : Nat → Int} {n J : Nat} {M : KM} (h : SCN W n (J + 1) M) (h4 : M 14 4 = -1) (hJ : J ≤ 1600) (h01 : M 14 0 = 0 ∧ M 14 1 = -1) : Ret (f_Reader_step M) (fun q => RC W n J 0 q ∧ Fp pS M q) := by
  unfold f_Reader_step
  rw [h4, w32e (by omega) (by omega)]
  refine Ret.letM ?_
  rw [mupd_same, mupd_ne _ _ (show (28 : Nat) ≠ 14 by omega), show ((-1 : Int) + 1).toNat = 0 by omega, (h 0 (by omega)).1]
  refine Ret.bind (R := fun y => y = kdJ W n 0) (Ret.f (by omega) (Ret.t (by omega) (Ret.t (by omega) (Ret.pure rfl)))) ?_
  rintro y rfl
  refine Ret.letM (Ret.pure ⟨⟨fun k hk => ?_, by rw [mupd_ne2 _ _ (by omega), mupd_same]; omega, by rw [mupd_same], by omega, hJ, by simp [mupd]; exact h01.1, by simp [mupd]; exact h01.2⟩, (Fp.rf.upd ⟨rfl, Or.inl rfl⟩).upd ⟨rfl, Or.inr rfl⟩⟩)
  have eq : ∀ c, c ≠ 14 → mupd (mupd M 14 4 ((-1 : Int) + 1)) 14 5 (kdJ W n 0) c = M c := fun c hc => by funext z; rw [mupd_ne _ _ hc, mupd_ne _ _ hc]
  rw [eq 28 (by omega), eq 29 (by omega), eq 30 (by omega), eq 31 (by omega)]
  exact h k hk
def pTk (k j : Nat) : Prop := k = 14 ∧ (j = 0 ∨ j = 1 ∨ j = 4 ∨ j = 5)
def pTn (k j : Nat) : Prop := k = 14 ∧ (j = 0 ∨ j = 1 ∨ j = 4 ∨ j = 5 ∨ j = 9)
theorem pF_k : ∀ k j, pF k j → pTk k j := fun k j h => ⟨h.1, by have := h.2; omega⟩
theorem pS_k : ∀ k j, pS k j → pTk k j := fun k j h => ⟨h.1, by have := h.2; omega⟩
theorem pTk_n : ∀ k j, pTk k j → pTn k j := fun k j h => ⟨h.1, by have := h.2; omega⟩
theorem good_of {W : Nat → Int} {n j : Nat} {k : Int} (h : kdJ W n j = k) (hk : k ≠ 0 ∧ k ≠ 3) : good (kdJ W n j) := by rw [h]; exact hk
theorem X_take {W : Nat → Int} {n J j : Nat} {M : KM} (h : RC W n J j M) (hJ : lastT W n J) {k : Int} (hk : k ≠ 0 ∧ k ≠ 3) : Ret (f_Reader_take k M) (fun q => (if kdJ W n j = k then q.1 = 1 ∧ RC W n J (j + 1) q.2 else q.1 = 0 ∧ fC (f2 W n j) (plS W n j) q.2) ∧ Fp pTk M q.2) := by
  unfold f_Reader_take
  rw [h.2.2.1]
  refine Ret.br (fun hc => ?_) (fun hc => ?_)
  · refine Ret.bind (X_step h (good_of hc hk) hJ) ?_
    rintro q ⟨q1, q2⟩
    exact Ret.pure ⟨by rw [if_pos hc]; exact ⟨rfl, q1⟩, q2.mono pS_k⟩
  · refine Ret.bind (X_refuse h 2) ?_
    rintro q ⟨q1, q2, q3⟩
    exact Ret.t (by omega) (Ret.pure ⟨by rw [if_neg hc]; exact ⟨q1, q2⟩, q3.mono pF_k⟩)
/-- a word and the number behind it: a fault and its place, or the number -/
def tkNum (W : Nat → Int) (n j : Nat) (k lo hi : Int) : (Int × Nat) ⊕ Int := if kdJ W n j = k then (if kdJ W n (j + 1) = 2 then (if lo ≤ tkV W n (plS W n (j + 1)) ∧ tkV W n (plS W n (j + 1)) ≤ hi then .inr (tkV W n (plS W n (j + 1))) else .inl (4, plS W n (j + 1))) else .inl (f2 W n (j + 1), plS W n (j + 1))) else .inl (f2 W n j, plS W n j)
theorem X_takeNumber {W : Nat → Int} {n J j : Nat} {M : KM} (h : RC W n J j M) (hJ : lastT W n J) {k : Int} (hk : k ≠ 0 ∧ k ≠ 3) (lo hi : Int) : Ret (f_Reader_takeNumber k lo hi M) (fun q => Sum.elim (fun e : Int × Nat => q.1 = 0 ∧ fC e.1 e.2 q.2) (fun y => q.1 = 1 ∧ RC W n J (j + 2) q.2 ∧ q.2 14 9 = y) (tkNum W n j k lo hi) ∧ Fp pTn M q.2) := by
  unfold f_Reader_takeNumber tkNum
  refine Ret.bind (X_take h hJ hk) ?_
  rintro q1 ⟨a1, a2⟩
  by_cases hc : kdJ W n j = k
  · rw [if_pos hc] at a1 ⊢
    obtain ⟨b1, b2⟩ := a1
    obtain ⟨c1, c2, c3, c4, c5⟩ := b2
    refine Ret.f (by omega) ?_
    rw [c3, c2, atM_nat _ _ _ (show j + 1 < 1601 by omega)]
    refine Ret.br (fun h2 => ?_) (fun h2 => ?_)
    · rw [if_pos h2, (c1 (j + 1) (by omega)).2.2.1 h2]
      refine Ret.letM ?_
      rw [mupd_same]
      have hr : RC W n J (j + 1) (mupd q1.2 14 9 (tkV W n (plS W n (j + 1)))) := RC.congr ⟨c1, c2, c3, c4, c5⟩ (mupd_ne2 _ _ (by omega)) (mupd_ne2 _ _ (by omega)) (fun c h1 h2 => by funext z; rw [mupd_ne _ _ (by omega)])
      have fr : Fp pTn M (mupd q1.2 14 9 (tkV W n (plS W n (j + 1)))) := (a2.mono pTk_n).upd ⟨rfl, by omega⟩
      have e9 : mupd q1.2 14 9 (tkV W n (plS W n (j + 1))) 14 9 = tkV W n (plS W n (j + 1)) := mupd_same _ _ _ _
      generalize mupd q1.2 14 9 (tkV W n (plS W n (j + 1))) = M2 at hr fr e9 ⊢
      generalize tkV W n (plS W n (j + 1)) = y at e9 ⊢
      have bad : ¬ (lo ≤ y ∧ y ≤ hi) → Ret (Option.bind (f_Reader_refuse 4 M2) (fun q3 => (if 0 ≤ q3.1 ∧ q3.1 ≤ 1 then some (q3.1, q3.2) else none))) (fun q : Int × KM => Sum.elim (fun e : Int × Nat => q.1 = 0 ∧ fC e.1 e.2 q.2) (fun y => q.1 = 1 ∧ RC W n J (j + 2) q.2 ∧ q.2 14 9 = y) (if lo ≤ y ∧ y ≤ hi then (.inr y : (Int × Nat) ⊕ Int) else .inl (4, plS W n (j + 1))) ∧ Fp pTn M q.2) := fun hb => by
        refine Ret.bind (X_refuse hr 4) ?_
        rintro q ⟨q1, q2, q3⟩
        rw [if_neg (by omega)] at q2
        exact Ret.t (by omega) (Ret.pure ⟨by rw [if_neg hb]; exact ⟨q1, q2⟩, (fr.tr (q3.mono fun k j h => pTk_n k j (pF_k k j h)))⟩)
      refine Ret.br (fun hlo => bad (by omega)) (fun hlo => Ret.br (fun hhi => ?_) (fun hhi => bad (by omega)))
      refine Ret.bind (X_step hr (good_of h2 (by omega)) hJ) ?_
      rintro q ⟨q1, q2⟩
      refine Ret.pure ⟨?_, fr.tr (q2.mono fun k j h => pTk_n k j (pS_k k j h))⟩
      rw [if_pos ⟨by omega, hhi⟩]
      exact ⟨rfl, q1, by dsimp only; rw [q2 14 9 (by unfold pS; omega)]; exact e9⟩
    · rw [if_neg h2]
      refine Ret.bind (X_refuse ⟨c1, c2, c3, c4, c5⟩ 2) ?_
      rintro q ⟨q1, q2, q3⟩
      exact Ret.t (by omega) (Ret.pure ⟨⟨q1, q2⟩, (a2.mono pTk_n).tr (q3.mono fun k j h => pTk_n k j (pF_k k j h))⟩)
  · rw [if_neg hc] at a1 ⊢
    exact Ret.t a1.1 (Ret.pure ⟨⟨rfl, a1.2⟩, a2.mono pTk_n⟩)
/-! the second side -/
theorem M_isGood (M : KM) : f_M_isGood M = some (if M 382 4 = 0 then 1 else 0) := by
  unfold f_M_isGood
  by_cases h : M 382 4 = 0
  · rw [if_pos h, if_pos h]; rfl
  · rw [if_neg h, if_neg h]; rfl
def pFm (k j : Nat) : Prop := k = 382 ∧ (j = 4 ∨ j = 5)
def pTm (k j : Nat) : Prop := k = 382 ∧ 4 ≤ j ∧ j ≤ 10
theorem pFm_m : ∀ k j, pFm k j → pTm k j := fun k j h => ⟨h.1, by have := h.2; omega, by have := h.2; omega⟩
theorem pGo_m : ∀ k j, pGo k j → pTm k j := fun k j h => ⟨h.1, by have := h.2; omega, by have := h.2; omega⟩
theorem M_fails {M : KM} (h : M 382 4 = 0) (h6 : 0 ≤ M 382 6) (f : Int) (p : Nat) : Ret (f_M_fails f (p : Int) M) (fun q => fM f p q ∧ Fp pFm M q) := by
  unfold f_M_fails
  exact Ret.t (by omega) (Ret.letM (Ret.letM (Ret.pure ⟨⟨by rw [mupd_ne2 _ _ (by omega), mupd_same], by rw [mupd_same], by rw [mupd_ne2 _ _ (by omega), mupd_ne2 _ _ (by omega)]; exact h6⟩, (Fp.rf.upd ⟨rfl, Or.inl rfl⟩).upd ⟨rfl, Or.inr rfl⟩⟩)))
theorem tkT_1 (W : Nat → Int) (n p : Nat) : tkT (tkK W n p) = 1 ↔ tkK W n p = 0 := by
  unfold tkT
  constructor
  · intro h
    split at h
    · omega
    · split at h
      · assumption
      · split at h
        · omega
        · split at h
          · omega
          · split at h <;> omega
  · intro h
    rw [h]; rfl
theorem M_misplaced {W : Nat → Int} {n j : Nat} {M : KM} (h : RM W n j M) : Ret (f_M_misplaced M) (fun q => fM (f2 W n j) (plS W n j) q ∧ Fp pFm M q) := by
  obtain ⟨h1, ⟨p1, p2, p3, p4, p5⟩, h3⟩ := h
  unfold f_M_misplaced
  rw [p1, p3]
  refine Ret.bind (R := fun y => y = f2 W n j) (Ret.br (fun hc => Ret.pure (if_pos ((tkT_1 W n _).mp hc)).symm) (fun hc => Ret.pure (if_neg (fun q => hc ((tkT_1 W n _).mpr q))).symm)) ?_
  rintro y rfl
  refine Ret.bind (M_fails h3 (by rw [p1]; omega) _ _) ?_
  rintro q hq
  exact Ret.pure hq
theorem M_go {W : Nat → Int} {n j : Nat} {M : KM} (h : RM W n j M) (hW : TXR W) : Ret (f_M_goOn M) (fun q => RM W n (j + 1) q ∧ Fp pGo M q) := by
  obtain ⟨h1, ⟨p1, p2, p3, p4, p5⟩, h3⟩ := h
  have hen : tkE W n (plS W n j) ≤ n := by
    have := plS_n W n j
    by_cases hp : plS W n j < n
    · exact (tkE_gt hp).2
    · unfold tkE; rw [if_pos (by omega)]; exact this
  refine (M_goOn h1.1 hW p2 hen).mono ?_
  rintro q ⟨q1, q2⟩
  exact ⟨⟨⟨h1.1.go q2, by rw [q2 382 5 (fun z => by have := z.2.1; omega)]; exact h1.2⟩, q1, by rw [q2 382 4 (fun z => by have := z.2.1; omega)]; exact h3⟩, q2⟩
theorem M_isWord {W : Nat → Int} {n j : Nat} {M : KM} (h : RM W n j M) {i : Nat} {u : List Int} (hu : WDS[i]? = some u) {c : Int} (hc : nmM u = c) : f_M_isWord c M = some (if kdJ W n j = 128 + (i : Int) then 1 else 0) := by
  obtain ⟨h1, ⟨p1, p2, p3, p4, p5⟩, h3⟩ := h
  have hi : i < 16 := (List.getElem?_eq_some_iff.mp hu).1
  refine Ret.some_of ?_
  unfold f_M_isWord
  rw [p3]
  refine Ret.bind (R := fun y => y = if kdJ W n j = 128 + (i : Int) then 1 else 0) ?_ (fun y hy => ?_)
  · have no : tkT (tkK W n (plS W n j)) ≠ 3 → ¬ kdJ W n j = 128 + (i : Int) → Ret (if tkT (tkK W n (plS W n j)) = 3 then (if klcmp (M 382 10) c = 0 then some (1 : Int) else some 0) else some 0) (fun y => y = if kdJ W n j = 128 + (i : Int) then 1 else 0) := fun h1 h2 => Ret.f h1 (Ret.pure (if_neg h2).symm)
    rcases tkK_R W n (plS W n j) with ⟨z, _⟩ | ⟨hp, z | ⟨z, _⟩ | ⟨z, _⟩ | ⟨z1, z2, _⟩ | ⟨q, q1, z, q2, q3⟩⟩
    · exact no (by rw [z]; decide) (by show ¬ tkK W n (plS W n j) = _; omega)
    · exact no (by rw [z]; decide) (by show ¬ tkK W n (plS W n j) = _; omega)
    · exact no (by rw [z]; decide) (by show ¬ tkK W n (plS W n j) = _; omega)
    · exact no (by rw [z]; decide) (by show ¬ tkK W n (plS W n j) = _; omega)
    · refine no ?_ (by show ¬ tkK W n (plS W n j) = _; omega)
      unfold tkT
      rw [if_neg (by omega), if_neg (by omega), if_neg (by omega), if_neg (by omega), if_neg (by omega)]
      decide
    · have e3 : tkT (tkK W n (plS W n j)) = 3 := by
        unfold tkT
        rw [if_neg (by omega), if_neg (by omega), if_neg (by omega), if_neg (by omega), if_pos (by omega)]
      rw [e3, p5 (Or.inr (by omega)), ← hc]
      have hL := tkW_lt hp q3
      refine Ret.t rfl (Ret.br (fun h => Ret.pure (if_pos ?_).symm) (fun h => Ret.pure (if_neg (fun g => h ?_)).symm))
      · have e := (nmM_inj hL (WDS_lt i u hu)).mp (klcmp0.mp h)
        rw [e] at q2
        have i1 := (wd_iff q1).mpr q2
        have i2 := (wd_iff hi).mpr hu
        rw [i1] at i2
        show tkK W n (plS W n j) = _
        rw [z, Option.some.inj i2]
      · have : tkK W n (plS W n j) = 128 + (i : Int) := g
        have e : q = i := by omega
        subst e
        rw [q2] at hu
        rw [klcmp0, Option.some.inj hu]
  · rw [hy]
    exact Ret.t (by split <;> omega) (Ret.pure rfl)
theorem M_isSignHere {W : Nat → Int} {n j : Nat} {M : KM} (h : RM W n j M) {c : Int} (hc : c ∈ sgL) : f_M_isSignHere c M = some (if kdJ W n j = c then 1 else 0) := by
  obtain ⟨h1, ⟨p1, p2, p3, p4, p5⟩, h3⟩ := h
  have cR := sgL_R hc
  refine Ret.some_of ?_
  unfold f_M_isSignHere
  rw [p3, p1, M_sign h1.1, ob_some]
  refine Ret.bind (R := fun y => y = if kdJ W n j = c then 1 else 0) ?_ (fun y hy => ?_)
  · have no : tkT (tkK W n (plS W n j)) ≠ 5 → ¬ kdJ W n j = c → Ret (if tkT (tkK W n (plS W n j)) = 5 then (if (if plS W n j < n then W (plS W n j) else 0) = c then some (1 : Int) else some 0) else some 0) (fun y => y = if kdJ W n j = c then 1 else 0) := fun h1 h2 => Ret.f h1 (Ret.pure (if_neg h2).symm)
    rcases tkK_R W n (plS W n j) with ⟨z, _⟩ | ⟨hp, z | ⟨z, _⟩ | ⟨z, _⟩ | ⟨z1, z2, z3, _⟩ | ⟨q, q1, z, q2, q3⟩⟩
    · exact no (by rw [z]; decide) (by show ¬ tkK W n (plS W n j) = _; omega)
    · exact no (by rw [z]; decide) (by show ¬ tkK W n (plS W n j) = _; omega)
    · exact no (by rw [z]; decide) (by show ¬ tkK W n (plS W n j) = _; omega)
    · exact no (by rw [z]; decide) (by show ¬ tkK W n (plS W n j) = _; omega)
    · have e5 : tkT (tkK W n (plS W n j)) = 5 := by
        unfold tkT
        rw [if_neg (by omega), if_neg (by omega), if_neg (by omega), if_neg (by omega), if_neg (by omega)]
      rw [e5, if_pos hp]
      refine Ret.t rfl (Ret.br (fun h => Ret.pure (if_pos (z3.trans h)).symm) (fun h => Ret.pure (if_neg (fun g => h (z3.symm.trans g))).symm))
    · refine no ?_ (by show ¬ tkK W n (plS W n j) = _; omega)
      unfold tkT
      rw [if_neg (by omega), if_neg (by omega), if_neg (by omega), if_neg (by omega), if_pos (by omega)]
      decide
  · rw [hy]
    exact Ret.t (by split <;> omega) (Ret.pure rfl)
theorem M_must {W : Nat → Int} {n j : Nat} {M : KM} (h : RM W n j M) (hW : TXR W) {c : Prop} {dc : Decidable c} : Ret (f_M_must (if c then 1 else 0) M) (fun q => (if c then RM W n (j + 1) q else fM (f2 W n j) (plS W n j) q) ∧ Fp pTm M q) := by
  unfold f_M_must
  rw [M_isGood, ob_some, h.2.2]
  refine Ret.f (by decide) ?_
  by_cases hc : c
  · rw [if_pos hc]
    refine Ret.bind (R := fun q => RM W n (j + 1) q ∧ Fp pTm M q) (Ret.f (by omega) (Ret.bind (M_go h hW) fun q hq => Ret.pure ⟨hq.1, hq.2.mono pGo_m⟩)) (fun q hq => Ret.pure ⟨by rw [if_pos hc]; exact hq.1, hq.2⟩)
  · rw [if_neg hc]
    refine Ret.bind (R := fun q => fM (f2 W n j) (plS W n j) q ∧ Fp pTm M q) (Ret.t rfl (Ret.bind (M_misplaced h) fun q hq => Ret.pure ⟨hq.1, hq.2.mono pFm_m⟩)) (fun q hq => Ret.pure ⟨by rw [if_neg hc]; exact hq.1, hq.2⟩)
theorem M_must_bad {M : KM} (h : M 382 4 ≠ 0) (c : Int) : f_M_must c M = some M := by
  unfold f_M_must
  rw [M_isGood, ob_some, if_neg h]; rfl
theorem M_numeral_bad {M : KM} (h : M 382 4 ≠ 0) (lo hi : Int) : f_M_numeral lo hi M = some (lo, M) := by
  unfold f_M_numeral
  rw [M_isGood, ob_some, if_neg h]; rfl
theorem isWord_any (c : Int) (M : KM) : ∃ y, f_M_isWord c M = some y := by
  unfold f_M_isWord
  by_cases h : M 382 8 = 3
  · rw [if_pos h]
    by_cases h2 : klcmp (M 382 10) c = 0
    · rw [if_pos h2]; exact ⟨1, rfl⟩
    · rw [if_neg h2]; exact ⟨0, rfl⟩
  · rw [if_neg h]; exact ⟨0, rfl⟩
theorem M_after_bad {M : KM} (h : M 382 4 ≠ 0) (c lo hi : Int) : f_M_after c lo hi M = some (lo, M) := by
  obtain ⟨y, hy⟩ := isWord_any c M
  unfold f_M_after
  rw [hy, ob_some, M_must_bad h, ob_some, M_numeral_bad h]; rfl
theorem fM_bad {f : Int} {p : Nat} {M : KM} (h : fM f p M) (hf : f ≠ 0) : M 382 4 ≠ 0 := by rw [h.1]; exact hf
def tkNm1 (W : Nat → Int) (n j : Nat) (lo hi : Int) : (Int × Nat) ⊕ Int := if kdJ W n j = 2 then (if lo ≤ tkV W n (plS W n j) ∧ tkV W n (plS W n j) ≤ hi then .inr (tkV W n (plS W n j)) else .inl (4, plS W n j)) else .inl (f2 W n j, plS W n j)
theorem tkT_4 (W : Nat → Int) (n p : Nat) : tkT (tkK W n p) = 4 ↔ tkK W n p = 2 := by
  unfold tkT
  constructor
  · intro h
    split at h
    · omega
    · split at h
      · omega
      · split at h
        · omega
        · split at h
          · assumption
          · split at h <;> omega
  · intro h
    rw [h]; rfl
theorem M_numeral {W : Nat → Int} {n j : Nat} {M : KM} (h : RM W n j M) (hW : TXR W) (lo hi : Int) : Ret (f_M_numeral lo hi M) (fun q => Sum.elim (fun e : Int × Nat => fM e.1 e.2 q.2 ∧ q.1 = lo) (fun y => q.1 = y ∧ RM W n (j + 1) q.2) (tkNm1 W n j lo hi) ∧ Fp pTm M q.2) := by
  have h' := h
  obtain ⟨h1, ⟨p1, p2, p3, p4, p5⟩, h3⟩ := h
  unfold f_M_numeral tkNm1
  rw [M_isGood, ob_some, h3, p3]
  refine Ret.f (by decide) ?_
  by_cases h2 : kdJ W n j = 2
  · rw [if_pos h2]
    refine Ret.bind (R := fun q => q = M) (Ret.t ((tkT_4 W n _).mpr h2) (Ret.pure rfl)) ?_
    rintro q rfl
    rw [M_isGood, ob_some, h3, p1, p4 h2]
    generalize tkV W n (plS W n j) = y at p4 ⊢
    by_cases hr : lo ≤ y ∧ y ≤ hi
    · rw [if_pos hr]
      refine Ret.bind (R := fun z => z = q) (Ret.f (by decide) (Ret.f (by omega) (Ret.t hr.2 (Ret.pure rfl)))) ?_
      rintro z rfl
      rw [p4 h2]
      refine Ret.letI ?_
      rw [M_isGood, ob_some, h3]
      refine Ret.bind (R := fun z' => RM W n (j + 1) z' ∧ Fp pTm z z') (Ret.f (by decide) (Ret.bind (M_go h' hW) fun z' hz => Ret.pure ⟨hz.1, hz.2.mono pGo_m⟩)) ?_
      rintro z' ⟨z1, z2⟩
      rw [M_isGood, ob_some, z1.2.2]
      refine Ret.bind (R := fun x => x = y) (Ret.f (by decide) (Ret.pure rfl)) ?_
      rintro x rfl
      exact Ret.pure ⟨⟨rfl, z1⟩, z2⟩
    · rw [if_neg hr]
      have fl : Ret (Option.bind (f_M_fails 4 ((plS W n j : Nat) : Int) q) (fun q5 => some q5)) (fun z => fM 4 (plS W n j) z ∧ Fp pTm q z) := Ret.bind (M_fails h3 (by rw [p1]; omega) 4 _) fun z hz => Ret.pure ⟨hz.1, hz.2.mono pFm_m⟩
      refine Ret.bind (R := fun z => fM 4 (plS W n j) z ∧ Fp pTm q z) (Ret.f (by decide) (Ret.br (fun _ => fl) fun h4 => Ret.f (by omega) fl)) ?_
      rintro z ⟨z1, z2⟩
      have zb := fM_bad z1 (by omega)
      refine Ret.letI ?_
      rw [M_isGood, ob_some, if_neg zb]
      refine Ret.bind (R := fun z' => z' = z) (Ret.t rfl (Ret.pure rfl)) ?_
      rintro z' rfl
      rw [M_isGood, ob_some, if_neg zb]
      refine Ret.bind (R := fun x => x = lo) (Ret.t rfl (Ret.pure rfl)) ?_
      rintro x rfl
      exact Ret.pure ⟨⟨z1, rfl⟩, z2⟩
  · rw [if_neg h2]
    refine Ret.bind (R := fun z => fM (f2 W n j) (plS W n j) z ∧ Fp pTm M z) (Ret.f (fun q => h2 ((tkT_4 W n _).mp q)) (Ret.bind (M_misplaced h') fun z hz => Ret.pure ⟨hz.1, hz.2.mono pFm_m⟩)) ?_
    rintro z ⟨z1, z2⟩
    have zb := fM_bad z1 (by have := f2_R W n j; omega)
    rw [M_isGood, ob_some, if_neg zb]
    refine Ret.bind (R := fun z' => z' = z) (Ret.t rfl (Ret.pure rfl)) ?_
    rintro z' rfl
    refine Ret.letI ?_
    rw [M_isGood, ob_some, if_neg zb]
    refine Ret.bind (R := fun z'' => z'' = z') (Ret.t rfl (Ret.pure rfl)) ?_
    rintro z'' rfl
    rw [M_isGood, ob_some, if_neg zb]
    refine Ret.bind (R := fun x => x = lo) (Ret.t rfl (Ret.pure rfl)) ?_
    rintro x rfl
    exact Ret.pure ⟨⟨z1, rfl⟩, z2⟩
theorem M_after {W : Nat → Int} {n j : Nat} {M : KM} (h : RM W n j M) (hW : TXR W) {i : Nat} {u : List Int} (hu : WDS[i]? = some u) {c : Int} (hc : nmM u = c) (lo hi : Int) : Ret (f_M_after c lo hi M) (fun q => Sum.elim (fun e : Int × Nat => fM e.1 e.2 q.2 ∧ q.1 = lo) (fun y => q.1 = y ∧ RM W n (j + 2) q.2) (tkNum W n j (128 + (i : Int)) lo hi) ∧ Fp pTm M q.2) := by
  unfold f_M_after
  rw [M_isWord h hu hc, ob_some]
  refine Ret.bind (M_must h hW) ?_
  rintro q2 ⟨a1, a2⟩
  unfold tkNum
  by_cases hk : kdJ W n j = 128 + (i : Int)
  · rw [if_pos hk] at a1 ⊢
    refine Ret.bind (M_numeral a1 hW lo hi) ?_
    rintro q3 ⟨b1, b2⟩
    exact Ret.pure ⟨b1, a2.tr b2⟩
  · rw [if_neg hk] at a1 ⊢
    have zb := fM_bad a1 (by have := f2_R W n j; omega)
    rw [M_numeral_bad zb, ob_some]
    exact Ret.pure ⟨⟨a1, rfl⟩, a2⟩
theorem tkNum_bad {W : Nat → Int} {n j : Nat} {k lo hi : Int} {e : Int × Nat} (h : tkNum W n j k lo hi = .inl e) : e.1 ≠ 0 := by
  unfold tkNum at h
  have := f2_R W n j
  have := f2_R W n (j + 1)
  split at h
  · split at h
    · split at h
      · cases h
      · cases h; show (4 : Int) ≠ 0; omega
    · cases h; show f2 W n (j + 1) ≠ 0; omega
  · cases h; show f2 W n j ≠ 0; omega
