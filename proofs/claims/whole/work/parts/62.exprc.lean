/-! RULES in the text: the first side -/
def CX (W : Nat → Int) (n J st : Nat) (s : PSt) (M : KM) : Prop := RC W n J s.1 M ∧ M 14 8 = (s.2.1 : Int) ∧ M 15 15 = (s.2.2.1 : Int) ∧ M 24 1 = ((st + s.2.2.2.length : Nat) : Int) ∧ (∀ i q, s.2.2.2[i]? = some q → M 25 (st + i) = encC q) ∧ st + s.2.2.2.length + 1 ≤ s.1
def pXs (st k j : Nat) : Prop := (k = 14 ∧ (j = 0 ∨ j = 1 ∨ j = 4 ∨ j = 5 ∨ j = 8)) ∨ (k = 15 ∧ j = 15) ∨ (k = 24 ∧ j = 1) ∨ (k = 25 ∧ st ≤ j)
theorem pF_X {st : Nat} : ∀ k j, pF k j → pXs st k j := fun k j h => Or.inl ⟨h.1, by have := h.2; omega⟩
theorem pTk_X {st : Nat} : ∀ k j, pTk k j → pXs st k j := fun k j h => Or.inl ⟨h.1, by have := h.2; omega⟩
theorem pS_X {st : Nat} : ∀ k j, pS k j → pXs st k j := fun k j h => Or.inl ⟨h.1, by have := h.2; omega⟩
theorem CX_step {W : Nat → Int} {n J st : Nat} {s : PSt} {M : KM} (h : CX W n J st s M) (hJ : lastT W n J) (hg : good (kdJ W n s.1)) : Ret (f_Reader_step M) (fun q => CX W n J st (nxS s) q ∧ Fp (pXs st) M q) := by
  obtain ⟨h1, h2, h3, h4, h5, h6⟩ := h
  refine (X_step h1 hg hJ).mono ?_
  rintro q ⟨q1, q2⟩
  refine ⟨⟨q1, by rw [q2 14 8 (by unfold pS; omega)]; exact h2, by rw [q2 15 15 (by unfold pS; omega)]; exact h3, by rw [q2 24 1 (by unfold pS; omega)]; exact h4, fun i y hi => by rw [q2 25 _ (by unfold pS; omega)]; exact h5 i y hi, ?_⟩, q2.mono pS_X⟩
  show st + s.2.2.2.length + 1 ≤ s.1 + 1
  omega
theorem CX_flt {W : Nat → Int} {n J st : Nat} {s : PSt} {M : KM} (h : CX W n J st s M) : Ret (Option.bind (f_Reader_refuse 2 M) (fun q => (if 0 ≤ q.1 ∧ q.1 ≤ 1 then some (q.1, q.2) else none))) (fun q => q.1 = 0 ∧ fC (f2 W n s.1) (plS W n s.1) q.2 ∧ Fp (pXs st) M q.2) := by
  refine Ret.bind (X_refuse h.1 2) ?_
  rintro q ⟨q1, q2, q3⟩
  exact Ret.t (by omega) (Ret.pure ⟨q1, q2, q3.mono pF_X⟩)
theorem CX_add {W : Nat → Int} {n J st : Nat} {s : PSt} {M : KM} (h : CX W n J st s M) (hs : st + s.2.2.2.length + 2 ≤ s.1) {y : Int × Int} {c : Int} (hc : encC y = c) : Ret (f_Formulas_add c M) (fun q => CX W n J st (emt y s) q ∧ Fp (pXs st) M q) := by
  obtain ⟨h1, h2, h3, h4, h5, h6⟩ := h
  have hb := h1.2.2.2
  unfold f_Formulas_add
  rw [h4, Int.toNat_natCast, letM_e, letM_e, mupd_ne _ _ (show (24 : Nat) ≠ 25 by omega), h4, w32e (by omega) (by omega)]
  refine Ret.bind (R := fun q => CX W n J st (emt y s) q ∧ Fp (pXs st) M q) (Ret.f (by omega) (Ret.t (by omega) (Ret.t (by omega) ((Ret.pure ⟨⟨RC.congr h1 ?_ ?_ ?_, ?_, ?_, ?_, fun i q hi => ?_, ?_⟩, ?_⟩))))) (fun q hq => Ret.pure hq)
  · rw [mupd_ne _ _ (by omega), mupd_ne _ _ (by omega)]
  · rw [mupd_ne _ _ (by omega), mupd_ne _ _ (by omega)]
  · intro c h1 h2; funext z; rw [mupd_ne _ _ (by omega), mupd_ne _ _ (by omega)]
  · rw [mupd_ne _ _ (by omega), mupd_ne _ _ (by omega)]; exact h2
  · rw [mupd_ne _ _ (by omega), mupd_ne _ _ (by omega)]; exact h3
  · rw [mupd_same]
    show _ = ((st + (s.2.2.2 ++ [y]).length : Nat) : Int)
    rw [List.length_append]
    show _ = ((st + (s.2.2.2.length + 1) : Nat) : Int)
    omega
  · have hi : (s.2.2.2 ++ [y])[i]? = some q := hi
    rw [mupd_ne _ _ (by omega)]
    by_cases hl : i < s.2.2.2.length
    · rw [List.getElem?_append_left hl] at hi
      rw [mupd_ne2 _ _ (by omega)]; exact h5 i q hi
    · rw [List.getElem?_append_right (by omega)] at hi
      have hz : i - s.2.2.2.length < 1 := (List.getElem?_eq_some_iff.mp hi).1
      have hi2 : i = s.2.2.2.length := by omega
      rw [hi2, Nat.sub_self] at hi
      have : y = q := Option.some.inj hi
      rw [hi2, mupd_same, ← this, hc]
  · show st + (s.2.2.2 ++ [y]).length + 1 ≤ s.1
    rw [List.length_append]
    show st + (s.2.2.2.length + 1) + 1 ≤ s.1
    omega
  · exact (Fp.rf.upd (Or.inr (Or.inr (Or.inr ⟨rfl, by omega⟩)))).upd (Or.inr (Or.inr (Or.inl ⟨rfl, rfl⟩)))
/-- the outcome of a part of a rule on the first side -/
def oX (W : Nat → Int) (n J st : Nat) (y : PSt ⊕ (Int × Nat)) (M : KM) (q : Int × KM) : Prop := Sum.elim (fun s1 => q.1 = 1 ∧ CX W n J st s1 q.2) (fun f : Int × Nat => q.1 = 0 ∧ fC f.1 f.2 q.2) y ∧ Fp (pXs st) M q.2
theorem X_lp {W : Nat → Int} {n J st r : Nat} {F : PSt → PO} {ε : Type} {body : Int × KM → Option ((Int × KM) ⊕ ε)} {okE badE : KM → ε}
    (hgo : ∀ i : Nat, i < 1600 → ∀ (s : PSt) (M : KM), CX W n J st s M → rkK (kdJ W n s.1) = r → ∀ y : PSt ⊕ (Int × Nat), F (nxS s) = some y → s.1 ≤ J → Ret (body ((i : Int), M)) (Sum.elim (fun t => ∃ s2, y = .inl s2 ∧ t.1 = ((i + 1 : Nat) : Int) ∧ CX W n J st (emt (sgK (kdJ W n s.1), 0) s2) t.2 ∧ Fp (pXs st) M t.2) (fun e => ∃ f q, y = .inr f ∧ e = badE q ∧ fC f.1 f.2 q ∧ Fp (pXs st) M q)))
    (hst : ∀ i : Nat, ∀ (s : PSt) (M : KM), CX W n J st s M → 1600 ≤ i ∨ rkK (kdJ W n s.1) ≠ r → body ((i : Int), M) = some (.inr (okE M))) :
    ∀ (k i : Nat) (s : PSt) (M : KM) (y : PSt ⊕ (Int × Nat)), i + k = 1600 → CX W n J st s M → lpP W n r F k s = some y → Ret (whileO body ((i : Int), M)) (fun e => Sum.elim (fun s1 => ∃ q, e = okE q ∧ CX W n J st s1 q ∧ Fp (pXs st) M q) (fun f : Int × Nat => ∃ q, e = badE q ∧ fC f.1 f.2 q ∧ Fp (pXs st) M q) y) := by
  intro k
  induction k with
  | zero =>
    intro i s M y hi h hy
    cases hy
    exact Ret.eq (whileO_inr (hst i s M h (Or.inl (by omega)))) ⟨M, rfl, h, Fp.rf⟩
  | succ k ih =>
    intro i s M y hi h hy
    have hy : (if rkK (kdJ W n s.1) = r then bP (F (nxS s)) (fun s2 => lpP W n r F k (emt (sgK (kdJ W n s.1), 0) s2)) else some (.inl s)) = some y := hy
    by_cases hc : rkK (kdJ W n s.1) = r
    · rw [if_pos hc] at hy
      rcases bP_inl hy with ⟨f, h1, h2⟩ | ⟨s2, h1, h2⟩
      · obtain ⟨e, e1, e2⟩ := hgo i (by omega) s M h hc _ h1 h.1.2.2.2.1
        subst h2
        cases e with
        | inl t => obtain ⟨s2, z, _⟩ := e2; cases z
        | inr e =>
          obtain ⟨f', q, z, z2, z3, z4⟩ := e2
          cases z
          exact Ret.eq (whileO_inr e1) ⟨q, z2, z3, z4⟩
      · obtain ⟨e, e1, e2⟩ := hgo i (by omega) s M h hc _ h1 h.1.2.2.2.1
        cases e with
        | inr e => obtain ⟨f', q, z, _⟩ := e2; cases z
        | inl t =>
          obtain ⟨s2', z, z2, z3, z4⟩ := e2
          cases z
          obtain ⟨t1, t2⟩ := t
          dsimp only at z2 z3 z4
          subst z2
          have := ih (i + 1) _ t2 y (by omega) z3 h2
          rw [← whileO_inl e1] at this
          refine this.mono ?_
          intro e he
          cases y with
          | inl s1 => obtain ⟨q, g1, g2, g3⟩ := he; exact ⟨q, g1, g2, z4.tr g3⟩
          | inr f => obtain ⟨q, g1, g2, g3⟩ := he; exact ⟨q, g1, g2, z4.tr g3⟩
    · rw [if_neg hc] at hy
      cases hy
      exact Ret.eq (whileO_inr (hst i s M h (Or.inr hc))) ⟨M, rfl, h, Fp.rf⟩
/-- step, an operand, add -/
theorem CX_op {W : Nat → Int} {n J st r : Nat} {s : PSt} {M : KM} {F : PSt → PO} {G : KM → Option (Int × KM)} (hJ : lastT W n J) (hF : FK J F) (hG : ∀ (s : PSt) (M : KM) (y : PSt ⊕ (Int × Nat)), CX W n J st s M → F s = some y → Ret (G M) (oX W n J st y M)) (h : CX W n J st s M) (hr : rkK (kdJ W n s.1) = r) (hr0 : 0 < r) {y : PSt ⊕ (Int × Nat)} (hy : F (nxS s) = some y) {c : Int} (hc : encC (sgK (kdJ W n s.1), 0) = c) {α : Type} {A B : KM → α} :
    Ret (Option.bind (f_Reader_step M) (fun q6 => Option.bind (G q6) (fun q7 => (if q7.1 = (0 : Int) then some (A q7.2) else Option.bind (f_Formulas_add c q7.2) (fun q8 => some (B q8)))))) (fun e => Sum.elim (fun s2 => ∃ q, e = B q ∧ CX W n J st (emt (sgK (kdJ W n s.1), 0) s2) q ∧ Fp (pXs st) M q) (fun f : Int × Nat => ∃ q, e = A q ∧ fC f.1 f.2 q ∧ Fp (pXs st) M q) y) := by
  have hg := (rkK_R hr hr0).1
  have sJ := nxS_J hJ h.1.2.2.2.1 hg
  refine Ret.bind (CX_step h hJ hg) ?_
  rintro q6 ⟨a1, a2⟩
  refine Ret.bind (hG _ _ _ a1 hy) ?_
  rintro q7 ⟨b1, b2⟩
  cases y with
  | inr f =>
    obtain ⟨c1, c2⟩ : q7.1 = 0 ∧ fC f.1 f.2 q7.2 := b1
    exact Ret.t c1 (Ret.pure ⟨_, rfl, c2, a2.tr b2⟩)
  | inl s2 =>
    obtain ⟨c1, c2⟩ : q7.1 = 1 ∧ CX W n J st s2 q7.2 := b1
    refine Ret.f (by omega) ?_
    have pk := hF _ _ sJ hy
    have sl := pk.2.2.1
    have h6 := h.2.2.2.2.2
    refine Ret.bind (CX_add c2 (y := (sgK (kdJ W n s.1), 0)) (by unfold nxS at sl; dsimp only at sl; omega) hc) ?_
    rintro q8 ⟨d1, d2⟩
    exact Ret.pure ⟨_, rfl, d1, (a2.tr b2).tr d2⟩
theorem rkK_1 (k : Int) : rkK k = 1 ↔ k = 140 := by
  unfold rkK
  constructor
  · intro h
    split at h
    · assumption
    · split at h
      · omega
      · split at h
        · omega
        · split at h
          · omega
          · split at h <;> omega
  · intro h; rw [if_pos h]
theorem rkK_2 (k : Int) : rkK k = 2 ↔ k = 141 := by
  unfold rkK
  constructor
  · intro h
    split at h
    · omega
    · split at h
      · assumption
      · split at h
        · omega
        · split at h
          · omega
          · split at h <;> omega
  · intro h; rw [if_neg (by omega), if_pos h]
theorem rkK_4 (k : Int) : rkK k = 4 ↔ k = 60 ∨ k = 62 ∨ k = 61 := by
  unfold rkK
  constructor
  · intro h
    split at h
    · omega
    · split at h
      · omega
      · split at h
        · assumption
        · split at h
          · omega
          · split at h <;> omega
  · intro h; rw [if_neg (by omega), if_neg (by omega), if_pos h]
theorem rkK_5 (k : Int) : rkK k = 5 ↔ k = 43 ∨ k = 45 := by
  unfold rkK
  constructor
  · intro h
    split at h
    · omega
    · split at h
      · omega
      · split at h
        · omega
        · split at h
          · assumption
          · split at h <;> omega
  · intro h; rw [if_neg (by omega), if_neg (by omega), if_neg (by omega), if_pos h]
theorem rkK_6 (k : Int) : rkK k = 6 ↔ k = 42 ∨ k = 47 ∨ k = 37 := by
  unfold rkK
  constructor
  · intro h
    split at h
    · omega
    · split at h
      · omega
      · split at h
        · omega
        · split at h
          · omega
          · split at h
            · assumption
            · omega
  · intro h; rw [if_neg (by omega), if_neg (by omega), if_neg (by omega), if_neg (by omega), if_pos h]
theorem sgK_o {k : Int} {r : Nat} (h : rkK k = r) (hr : 4 ≤ r) : sgK k = k ∧ encC (k, 0) = k := by
  unfold rkK at h
  unfold sgK
  split at h
  · omega
  · split at h
    · omega
    · split at h
      · rename_i e
        rcases e with e | e | e <;> subst e <;> decide
      · split at h
        · rename_i e
          rcases e with e | e <;> subst e <;> decide
        · split at h
          · rename_i e
            rcases e with e | e | e <;> subst e <;> decide
          · omega
def GXp (W : Nat → Int) (n J st d : Nat) : Prop := ∀ (l a : Nat) (s : PSt) (M : KM) (y : PSt ⊕ (Int × Nat)), CX W n J st s M → exP W n d l a s = some y → a ≤ 7 → Ret (f_par d l (a : Int) M) (oX W n J st y M)
theorem GXp_2 {W : Nat → Int} {n J st d l a r : Nat} {s : PSt} {M : KM} {y : PSt ⊕ (Int × Nat)} (hJ : lastT W n J) (ih : GXp W n J st d) (h : CX W n J st s M) (hy : bP (exP W n d l a s) (lpP W n r (exP W n d l a) 1600) = some y) (ha : a ≤ 7) {okE badE : KM → KM ⊕ KM} {body : Int × KM → Option ((Int × KM) ⊕ (KM ⊕ KM))} {fin : KM ⊕ KM → Option (Int × KM)} (hok : ∀ q, fin (okE q) = some (1, q)) (hbad : ∀ q, fin (badE q) = some (0, q))
    (hgo : ∀ i : Nat, i < 1600 → ∀ (s : PSt) (M : KM), CX W n J st s M → rkK (kdJ W n s.1) = r → ∀ y, exP W n d l a (nxS s) = some y → s.1 ≤ J → Ret (body ((i : Int), M)) (Sum.elim (fun t => ∃ s2, y = .inl s2 ∧ t.1 = ((i + 1 : Nat) : Int) ∧ CX W n J st (emt (sgK (kdJ W n s.1), 0) s2) t.2 ∧ Fp (pXs st) M t.2) (fun e => ∃ f q, y = .inr f ∧ e = badE q ∧ fC f.1 f.2 q ∧ Fp (pXs st) M q)))
    (hst : ∀ i : Nat, ∀ (s : PSt) (M : KM), CX W n J st s M → 1600 ≤ i ∨ rkK (kdJ W n s.1) ≠ r → body ((i : Int), M) = some (.inr (okE M))) :
    Ret (Option.bind (f_par d l (a : Int) M) (fun q1 => (if q1.1 = (0 : Int) then some ((0 : Int), q1.2) else Option.bind (whileO (σ := Int × KM) (ε := KM ⊕ KM) body ((0 : Int), q1.2)) fin))) (oX W n J st y M) := by
  rcases bP_inl hy with ⟨f, h1, h2⟩ | ⟨s2, h1, h2⟩
  · subst h2
    refine Ret.bind (ih l a s M _ h h1 ha) ?_
    rintro q ⟨b1, b2⟩
    exact Ret.t b1.1 (Ret.pure ⟨⟨rfl, b1.2⟩, b2⟩)
  · refine Ret.bind (ih l a s M _ h h1 ha) ?_
    rintro q ⟨b1, b2⟩
    obtain ⟨c1, c2⟩ : q.1 = 1 ∧ CX W n J st s2 q.2 := b1
    refine Ret.f (by omega) ?_
    refine Ret.bind (X_lp hgo hst 1600 0 s2 q.2 y rfl c2 h2) ?_
    intro e he
    cases y with
    | inl s1 =>
      obtain ⟨q', g1, g2, g3⟩ := he
      rw [g1, hok]
      exact Ret.pure ⟨⟨rfl, g2⟩, b2.tr g3⟩
    | inr f =>
      obtain ⟨q', g1, g2, g3⟩ := he
      rw [g1, hbad]
      exact Ret.pure ⟨⟨rfl, g2⟩, b2.tr g3⟩
theorem X_leaf {W : Nat → Int} {n J st : Nat} {s : PSt} {M : KM} (h : CX W n J st s M) (hV : ∀ p, tkK W n p = 2 → 0 ≤ tkV W n p ∧ tkV W n p ≤ 9999) : f_Reader_leafStep M = some (match lfK W n s.1 with
    | some q => encC q
    | none => -1) := by
  have hr := h.1
  refine Ret.some_of ?_
  unfold f_Reader_leafStep lfK
  rw [hr.2.2.1, hr.2.1]
  have hJ := hr.2.2.2
  rw [atM_nat _ _ _ (show s.1 < 1601 by omega)]
  refine Ret.br (fun h2 => Ret.pure ?_) fun h2 => ?_
  · have e := (hr.1 s.1 (by omega)).2.2.1 h2
    have := hV _ h2
    rw [if_pos h2, e, w32e (by omega) (by omega)]; rfl
  rw [if_neg h2]
  refine Ret.br (fun h3 => Ret.pure (by rw [if_pos h3]; rfl)) fun h3 => ?_
  rw [if_neg h3]
  refine Ret.br (fun h4 => Ret.pure (by rw [if_pos h4]; rfl)) fun h4 => ?_
  rw [if_neg h4]
  refine Ret.br (fun h5 => Ret.pure (by rw [if_pos h5]; rfl)) fun h5 => ?_
  rw [if_neg h5]
  exact Ret.br (fun h6 => Ret.pure (by rw [if_pos h6]; rfl)) fun h6 => Ret.pure (by rw [if_neg h6])
theorem encC_leaf {W : Nat → Int} {n j : Nat} (hV : ∀ p, tkK W n p = 2 → 0 ≤ tkV W n p ∧ tkV W n p ≤ 9999) {q : Int × Int} (h : lfK W n j = some q) : encC q ≠ -1 := by
  unfold lfK at h
  split at h
  · rename_i e
    cases h
    have := hV _ e
    show 128 + tkV W n (plS W n j) ≠ -1
    omega
  · split at h
    · cases h; decide
    · split at h
      · cases h; decide
      · split at h
        · cases h; decide
        · split at h
          · cases h; decide
          · cases h
theorem X_par {W : Nat → Int} {n J st : Nat} (hJ : lastT W n J) (hV : ∀ p, tkK W n p = 2 → 0 ≤ tkV W n p ∧ tkV W n p ≤ 9999) : ∀ d, GXp W n J st d := by
  intro d
  induction d with
  | zero => intro l a s M y _ h; cases h
  | succ d ih =>
    intro l a s M y h hy ha
    have hK := exP_K hJ hV d
    have hC : ∀ l' a' : Nat, a' ≤ 7 → ∀ (s : PSt) (M : KM) (y : PSt ⊕ (Int × Nat)), CX W n J st s M → exP W n d l' a' s = some y → Ret (f_par d l' (a' : Int) M) (oX W n J st y M) := fun l' a' ha' s M y h hy => ih l' a' s M y h hy ha'
    have h5 : l = 0 ∨ l = 1 ∨ l = 2 ∨ l = 3 ∨ l = 4 ∨ ∃ l', l = l' + 5 := by
      by_cases h : l < 5
      · omega
      · exact Or.inr (Or.inr (Or.inr (Or.inr (Or.inr ⟨l - 5, by omega⟩))))
    rcases h5 with e | e | e | e | e | ⟨l', e⟩ <;> subst e
    · show Ret (f_Reader_either (f_par d) (a : Int) M) _
      unfold f_Reader_either
      refine GXp_2 (l := 1) (r := 1) (okE := .inr) (badE := .inl) hJ ih h hy ha (fun q => rfl) (fun q => rfl) ?_ ?_
      · intro i hi s M hs hr y hy _
        have h140 := (rkK_1 _).mp hr
        have e5 := hs.1.2.2.1
        refine Ret.t (show (i : Int) < 1600 by omega) (Ret.t (e5.trans h140) ?_)
        refine (CX_op hJ (hK 1 a) (hC 1 a ha) hs hr (by omega) hy (c := 6) (by rw [h140]; rfl) (A := fun q => (Sum.inr (Sum.inl q) : (Int × KM) ⊕ (KM ⊕ KM))) (B := fun q => Sum.inl (w32 ((i : Int) + 1), q))).mono ?_
        intro e he
        cases y with
        | inl s2 => obtain ⟨q, g1, g2, g3⟩ := he; rw [g1]; exact ⟨s2, rfl, w32e (by omega) (by omega), g2, g3⟩
        | inr f => obtain ⟨q, g1, g2, g3⟩ := he; rw [g1]; exact ⟨f, q, rfl, rfl, g2, g3⟩
      · intro i s M hs hc
        have e5 := hs.1.2.2.1
        dsimp only
        rcases hc with hc | hc
        · rw [if_neg (by omega)]
        · by_cases hi : (i : Int) < 1600
          · rw [if_pos hi, if_neg (fun z => hc ((rkK_1 _).mpr (e5.symm.trans z)))]
          · rw [if_neg hi]
    · show Ret (f_Reader_both (f_par d) (a : Int) M) _
      unfold f_Reader_both
      refine GXp_2 (l := 2) (r := 2) (okE := .inr) (badE := .inl) hJ ih h hy ha (fun q => rfl) (fun q => rfl) ?_ ?_
      · intro i hi s M hs hr y hy _
        have h140 := (rkK_2 _).mp hr
        have e5 := hs.1.2.2.1
        refine Ret.t (show (i : Int) < 1600 by omega) (Ret.t (e5.trans h140) ?_)
        refine (CX_op hJ (hK 2 a) (hC 2 a ha) hs hr (by omega) hy (c := 7) (by rw [h140]; rfl) (A := fun q => (Sum.inr (Sum.inl q) : (Int × KM) ⊕ (KM ⊕ KM))) (B := fun q => Sum.inl (w32 ((i : Int) + 1), q))).mono ?_
        intro e he
        cases y with
        | inl s2 => obtain ⟨q, g1, g2, g3⟩ := he; rw [g1]; exact ⟨s2, rfl, w32e (by omega) (by omega), g2, g3⟩
        | inr f => obtain ⟨q, g1, g2, g3⟩ := he; rw [g1]; exact ⟨f, q, rfl, rfl, g2, g3⟩
      · intro i s M hs hc
        have e5 := hs.1.2.2.1
        dsimp only
        rcases hc with hc | hc
        · rw [if_neg (by omega)]
        · by_cases hi : (i : Int) < 1600
          · rw [if_pos hi, if_neg (fun z => hc ((rkK_2 _).mpr (e5.symm.trans z)))]
          · rw [if_neg hi]
    · have hy : oneP W n (exP W n d) a s = some y := hy
      show Ret (f_Reader_one (f_par d) (a : Int) M) _
      unfold f_Reader_one
      unfold oneP at hy
      rw [h.1.2.2.1]
      by_cases h142 : kdJ W n s.1 = 142
      · rw [if_pos h142] at hy
        refine Ret.t h142 ?_
        by_cases ha6 : a ≤ 6
        · rw [if_pos ha6] at hy
          have sJ := nxS_J hJ h.1.2.2.2.1 (good_of h142 (by decide))
          refine Ret.t (by omega) (Ret.bind (CX_step h hJ (good_of h142 (by decide))) ?_)
          rintro q1 ⟨a1, a2⟩
          rw [w32e (n := (a : Int) + 1) (by omega) (by omega), show (a : Int) + 1 = ((a + 1 : Nat) : Int) by omega]
          rcases bP_inl hy with ⟨f, h1, h2⟩ | ⟨s2, h1, h2⟩
          · subst h2
            refine Ret.bind (ih 2 (a + 1) _ _ _ a1 h1 (by omega)) ?_
            rintro q ⟨b1, b2⟩
            exact Ret.t b1.1 (Ret.pure ⟨⟨rfl, b1.2⟩, a2.tr b2⟩)
          · cases h2
            refine Ret.bind (ih 2 (a + 1) _ _ _ a1 h1 (by omega)) ?_
            rintro q ⟨b1, b2⟩
            obtain ⟨c1, c2⟩ : q.1 = 1 ∧ CX W n J st s2 q.2 := b1
            refine Ret.f (by omega) ?_
            have pk := hK 2 (a + 1) _ _ sJ h1
            have sl := pk.2.2.1
            have h6 := h.2.2.2.2.2
            refine Ret.bind (CX_add c2 (y := (126, 0)) (c := 5) (by unfold nxS at sl; dsimp only at sl; omega) rfl) ?_
            rintro q8 ⟨d1, d2⟩
            exact Ret.pure ⟨⟨rfl, d1⟩, (a2.tr b2).tr d2⟩
        · rw [if_neg ha6] at hy
          cases hy
          refine Ret.f (by omega) ((CX_flt h).mono ?_)
          rintro q ⟨q1, q2, q3⟩
          exact ⟨⟨q1, q2⟩, q3⟩
      · rw [if_neg h142] at hy
        refine Ret.f h142 ?_
        rcases bP_inl hy with ⟨f, h1, h2⟩ | ⟨s1, h1, h2⟩
        · subst h2
          refine Ret.bind (ih 3 a _ _ _ h h1 ha) ?_
          rintro q ⟨b1, b2⟩
          exact Ret.t b1.1 (Ret.pure ⟨⟨rfl, b1.2⟩, b2⟩)
        · refine Ret.bind (ih 3 a _ _ _ h h1 ha) ?_
          rintro q ⟨b1, b2⟩
          obtain ⟨c1, c2⟩ : q.1 = 1 ∧ CX W n J st s1 q.2 := b1
          refine Ret.f (by omega) ?_
          rw [c2.1.2.2.1]
          refine Ret.letI ?_
          have go : rkK (kdJ W n s1.1) = 4 → Ret (J_Reader_one_84 (f_par d) (a : Int) M (kdJ W n s1.1) q.2) (oX W n J st y M) := fun hr => by
            rw [if_pos hr] at h2
            have sg := sgK_o hr (by omega)
            unfold J_Reader_one_84
            rcases bP_inl h2 with ⟨f, g1, g2⟩ | ⟨s2, g1, g2⟩
            · subst g2
              refine (CX_op hJ (hK 3 a) (hC 3 a ha) c2 hr (by omega) g1 (c := kdJ W n s1.1) (by rw [sg.1]; exact sg.2) (A := fun q => ((0 : Int), q)) (B := fun q => ((1 : Int), q))).mono ?_
              rintro e ⟨q', z1, z2, z3⟩
              rw [z1]; exact ⟨⟨rfl, z2⟩, b2.tr z3⟩
            · cases g2
              refine (CX_op hJ (hK 3 a) (hC 3 a ha) c2 hr (by omega) g1 (c := kdJ W n s1.1) (by rw [sg.1]; exact sg.2) (A := fun q => ((0 : Int), q)) (B := fun q => ((1 : Int), q))).mono ?_
              rintro e ⟨q', z1, z2, z3⟩
              rw [z1]; exact ⟨⟨rfl, z2⟩, b2.tr z3⟩
          refine Ret.br (fun z => go ((rkK_4 _).mpr (by omega))) fun z1 => Ret.br (fun z => go ((rkK_4 _).mpr (by omega))) fun z2 => Ret.br (fun z => go ((rkK_4 _).mpr (by omega))) fun z3 => ?_
          rw [if_neg (fun hr => by have := (rkK_4 _).mp hr; omega)] at h2
          cases h2
          exact Ret.pure ⟨⟨rfl, c2⟩, b2⟩
    · show Ret (f_Reader_amount (f_par d) (a : Int) M) _
      unfold f_Reader_amount
      refine GXp_2 (l := 4) (r := 5) (okE := .inl) (badE := .inr) hJ ih h hy ha (fun q => rfl) (fun q => rfl) ?_ ?_
      · intro i hi s M' hs hr y hy _
        have hk := (rkK_5 _).mp hr
        have sg := sgK_o hr (by omega)
        have e5 := hs.1.2.2.1
        have go : Ret (J_Reader_amount_37L12 (f_par d) (a : Int) ((i : Int), M') M (i : Int) M') (Sum.elim (fun t => ∃ s2, y = .inl s2 ∧ t.1 = ((i + 1 : Nat) : Int) ∧ CX W n J st (emt (sgK (kdJ W n s.1), 0) s2) t.2 ∧ Fp (pXs st) M' t.2) (fun e => ∃ f q, y = .inr f ∧ e = .inr q ∧ fC f.1 f.2 q ∧ Fp (pXs st) M' q)) := by
          unfold J_Reader_amount_37L12
          rw [hs.1.2.2.1, letI_e, w32e (n := (i : Int) + 1) (by omega) (by omega)]
          refine (CX_op hJ (hK 4 a) (hC 4 a ha) hs hr (by omega) hy (c := kdJ W n s.1) (by rw [sg.1]; exact sg.2) (A := fun q => (Sum.inr (Sum.inr q) : (Int × KM) ⊕ (KM ⊕ KM))) (B := fun q => Sum.inl ((i : Int) + 1, q))).mono ?_
          intro e he
          cases y with
          | inl s2 => obtain ⟨q, g1, g2, g3⟩ := he; rw [g1]; exact ⟨s2, rfl, rfl, g2, g3⟩
          | inr f => obtain ⟨q, g1, g2, g3⟩ := he; rw [g1]; exact ⟨f, q, rfl, rfl, g2, g3⟩
        exact Ret.t (show (i : Int) < 1600 by omega) (Ret.br (fun _ => go) fun z1 => Ret.t (show M' 14 5 = 45 by have z1 : ¬ M' 14 5 = 43 := z1; omega) go)
      · intro i s M' hs hc
        have e5 := hs.1.2.2.1
        dsimp only
        rcases hc with hc | hc
        · rw [if_neg (by omega)]
        · have hk : ¬ (kdJ W n s.1 = 43 ∨ kdJ W n s.1 = 45) := fun z => hc ((rkK_5 _).mpr z)
          by_cases hi : (i : Int) < 1600
          · rw [if_pos hi, if_neg (show ¬ M' 14 5 = 43 by omega), if_neg (show ¬ M' 14 5 = 45 by omega)]
          · rw [if_neg hi]
    · show Ret (f_Reader_term (f_par d) (a : Int) M) _
      unfold f_Reader_term
      refine GXp_2 (l := 5) (r := 6) (okE := .inl) (badE := .inr) hJ ih h hy ha (fun q => rfl) (fun q => rfl) ?_ ?_
      · intro i hi s M' hs hr y hy _
        have hk := (rkK_6 _).mp hr
        have sg := sgK_o hr (by omega)
        have e5 := hs.1.2.2.1
        have go : Ret (J_Reader_term_46L12 (f_par d) (a : Int) ((i : Int), M') M (i : Int) M') (Sum.elim (fun t => ∃ s2, y = .inl s2 ∧ t.1 = ((i + 1 : Nat) : Int) ∧ CX W n J st (emt (sgK (kdJ W n s.1), 0) s2) t.2 ∧ Fp (pXs st) M' t.2) (fun e => ∃ f q, y = .inr f ∧ e = .inr q ∧ fC f.1 f.2 q ∧ Fp (pXs st) M' q)) := by
          unfold J_Reader_term_46L12
          rw [hs.1.2.2.1, letI_e, w32e (n := (i : Int) + 1) (by omega) (by omega)]
          refine (CX_op hJ (hK 5 a) (hC 5 a ha) hs hr (by omega) hy (c := kdJ W n s.1) (by rw [sg.1]; exact sg.2) (A := fun q => (Sum.inr (Sum.inr q) : (Int × KM) ⊕ (KM ⊕ KM))) (B := fun q => Sum.inl ((i : Int) + 1, q))).mono ?_
          intro e he
          cases y with
          | inl s2 => obtain ⟨q, g1, g2, g3⟩ := he; rw [g1]; exact ⟨s2, rfl, rfl, g2, g3⟩
          | inr f => obtain ⟨q, g1, g2, g3⟩ := he; rw [g1]; exact ⟨f, q, rfl, rfl, g2, g3⟩
        exact Ret.t (show (i : Int) < 1600 by omega) (Ret.br (fun _ => go) fun z1 => Ret.br (fun _ => go) fun z2 => Ret.t (show M' 14 5 = 37 by have z1 : ¬ M' 14 5 = 42 := z1; have z2 : ¬ M' 14 5 = 47 := z2; omega) go)
      · intro i s M' hs hc
        have e5 := hs.1.2.2.1
        dsimp only
        rcases hc with hc | hc
        · rw [if_neg (by omega)]
        · have hk : ¬ (kdJ W n s.1 = 42 ∨ kdJ W n s.1 = 47 ∨ kdJ W n s.1 = 37) := fun z => hc ((rkK_6 _).mpr z)
          by_cases hi : (i : Int) < 1600
          · rw [if_pos hi, if_neg (show ¬ M' 14 5 = 42 by omega), if_neg (show ¬ M' 14 5 = 47 by omega), if_neg (show ¬ M' 14 5 = 37 by omega)]
          · rw [if_neg hi]
    · have hy : untP W n (exP W n d) a s = some y := hy
      show Ret (f_Reader_unit (f_par d) (a : Int) M) _
      unfold f_Reader_unit
      unfold untP at hy
      rw [X_leaf h hV, ob_some, h.1.2.2.1]
      have fl : some (Sum.inr (f2 W n s.1, plS W n s.1)) = some y → Ret (Option.bind (f_Reader_refuse 2 M) (fun q => (if 0 ≤ q.1 ∧ q.1 ≤ 1 then some (q.1, q.2) else none))) (oX W n J st y M) := fun he => by
        have he : Sum.inr (f2 W n s.1, plS W n s.1) = y := Option.some.inj he
        subst he
        refine (CX_flt h).mono ?_
        rintro q ⟨q1, q2, q3⟩
        exact ⟨⟨q1, q2⟩, q3⟩
      have hU := h.2.1
      have hU2 := h.2.2.1
      have hJ16 := h.1.2.2.2
      have h6 := h.2.2.2.2.2
      have go : ¬ (lfK W n s.1 = none ∧ ¬ (kdJ W n s.1 = 40 ∧ a ≤ 6)) → Ret (J_Reader_unit_31 (f_par d) (a : Int) M (match lfK W n s.1 with | some q => encC q | none => -1) M) (oX W n J st y M) := fun hn => by
        rw [if_neg hn] at hy
        unfold J_Reader_unit_31
        rw [hU]
        have e15 : mupd M 14 8 (w32 ((s.2.1 : Int) + 1)) 15 15 = (s.2.2.1 : Int) := by rw [mupd_ne _ _ (by omega)]; exact hU2
        rw [hU2, letM_e, e15]
        refine Ret.br (fun h30 => Ret.br (fun h60 => ?_) fun h60 => ?_) fun h30 => ?_
        · rw [if_neg (fun z => z ⟨by omega, by omega⟩)] at hy
          rw [w32e (n := (s.2.1 : Int) + 1) (by omega) (by omega), w32e (n := (s.2.2.1 : Int) + 1) (by omega) (by omega)]
          refine Ret.letM ?_
          have hc1 : CX W n J st (s.1, s.2.1 + 1, s.2.2.1 + 1, s.2.2.2) (mupd (mupd M 14 8 ((s.2.1 : Int) + 1)) 15 15 ((s.2.2.1 : Int) + 1)) := by
            refine ⟨RC.congr h.1 (by rw [mupd_ne _ _ (by omega), mupd_ne2 _ _ (by omega)]) (by rw [mupd_ne _ _ (by omega), mupd_ne2 _ _ (by omega)]) (fun c h1 h2 => by funext z; rw [mupd_ne _ _ (by omega), mupd_ne _ _ (by omega)]), by rw [mupd_ne _ _ (by omega), mupd_same]; rfl, by rw [mupd_same]; rfl, by rw [mupd_ne _ _ (by omega), mupd_ne _ _ (by omega)]; exact h.2.2.2.1, fun i q hi => by rw [mupd_ne _ _ (by omega), mupd_ne _ _ (by omega)]; exact h.2.2.2.2.1 i q hi, h6⟩
          have fr1 : Fp (pXs st) M (mupd (mupd M 14 8 ((s.2.1 : Int) + 1)) 15 15 ((s.2.2.1 : Int) + 1)) := (Fp.rf.upd (Or.inl ⟨rfl, by omega⟩)).upd (Or.inr (Or.inl ⟨rfl, rfl⟩))
          generalize mupd (mupd M 14 8 ((s.2.1 : Int) + 1)) 15 15 ((s.2.2.1 : Int) + 1) = M5 at hc1 fr1 ⊢
          have hgood : good (kdJ W n s.1) := by
            cases hl : lfK W n s.1 with
            | some q => exact (lfK_R hV hl).1
            | none =>
              have : kdJ W n s.1 = 40 := Classical.byContradiction fun z => hn ⟨hl, fun q => z q.1⟩
              exact good_of this (by decide)
          refine Ret.bind (CX_step hc1 hJ hgood) ?_
          rintro q6 ⟨a1, a2⟩
          have sJ := nxS_J hJ h.1.2.2.2.1 hgood
          cases hl : lfK W n s.1 with
          | some q =>
            rw [hl] at hy
            cases hy
            dsimp only
            refine Ret.f (encC_leaf hV hl) ?_
            refine Ret.bind (CX_add a1 (y := q) (by unfold nxS; dsimp only; omega) rfl) ?_
            rintro q10 ⟨d1, d2⟩
            exact Ret.pure ⟨⟨rfl, d1⟩, (fr1.tr a2).tr d2⟩
          | none =>
            rw [hl] at hy
            dsimp only
            have h40 : kdJ W n s.1 = 40 ∧ a ≤ 6 := Classical.byContradiction fun z => hn ⟨hl, z⟩
            rw [w32e (n := (a : Int) + 1) (by omega) (by omega), show (a : Int) + 1 = ((a + 1 : Nat) : Int) by omega]
            refine Ret.t rfl ?_
            rcases bP_inl hy with ⟨f, h1, h2⟩ | ⟨s2, h1, h2⟩
            · subst h2
              refine Ret.bind (ih 0 (a + 1) _ _ _ a1 h1 (by omega)) ?_
              rintro q7 ⟨b1, b2⟩
              obtain ⟨c1, c2⟩ : q7.1 = 0 ∧ fC f.1 f.2 q7.2 := b1
              refine Ret.bind (R := fun z => z = ((0 : Int), q7.2)) (Ret.t c1 (Ret.pure rfl)) ?_
              rintro z rfl
              exact Ret.t ⟨Int.le_refl _, (by decide : (0 : Int) ≤ 1)⟩ (Ret.pure ⟨⟨rfl, c2⟩, (fr1.tr a2).tr b2⟩)
            · refine Ret.bind (ih 0 (a + 1) _ _ _ a1 h1 (by omega)) ?_
              rintro q7 ⟨b1, b2⟩
              obtain ⟨c1, c2⟩ : q7.1 = 1 ∧ CX W n J st s2 q7.2 := b1
              refine Ret.bind (R := fun z => oX W n J st y q7.2 z) ?_ ?_
              · refine Ret.f (by omega) ?_
                refine Ret.bind (X_take c2.1 hJ (k := 41) (by decide)) ?_
                rintro q8 ⟨t1, t2⟩
                by_cases h41 : kdJ W n s2.1 = 41
                · rw [if_pos h41] at t1 h2
                  cases h2
                  obtain ⟨g1, g2, g3, g4, g5, g6⟩ := c2
                  refine Ret.f (by omega) (Ret.pure ⟨⟨rfl, ⟨t1.2, by dsimp only; rw [t2 14 8 (by unfold pTk; omega)]; exact g2, by dsimp only; rw [t2 15 15 (by unfold pTk; omega)]; exact g3, by dsimp only; rw [t2 24 1 (by unfold pTk; omega)]; exact g4, fun i q hi => by dsimp only; rw [t2 25 _ (by unfold pTk; omega)]; exact g5 i q hi, ?_⟩⟩, t2.mono pTk_X⟩)
                  show st + s2.2.2.2.length + 1 ≤ s2.1 + 1
                  omega
                · rw [if_neg h41] at t1 h2
                  cases h2
                  exact Ret.t t1.1 (Ret.pure ⟨⟨rfl, t1.2⟩, t2.mono pTk_X⟩)
              · rintro z ⟨z1, z2⟩
                refine Ret.t ?_ (Ret.pure ⟨?_, (fr1.tr a2).tr (b2.tr z2)⟩)
                · cases y with
                  | inl s1 => have := z1.1; omega
                  | inr f => have := z1.1; omega
                · cases y with
                  | inl s1 => exact z1
                  | inr f => exact z1
        · rw [if_pos (fun z => h60 (by omega))] at hy
          exact fl hy
        · rw [if_pos (fun z => h30 (by omega))] at hy
          exact fl hy
      cases hl : lfK W n s.1 with
      | some q =>
        rw [hl] at go
        dsimp only at go ⊢
        exact Ret.f (encC_leaf hV hl) (go (fun z => by cases z.1))
      | none =>
        rw [hl] at go hy
        dsimp only at go ⊢
        refine Ret.t rfl (Ret.br (fun h40 => Ret.br (fun h6 => go (fun z => z.2 ⟨h40, by omega⟩)) fun h6 => fl ?_) fun h40 => fl ?_)
        · rw [if_pos ⟨rfl, fun z => h6 (by omega)⟩] at hy; exact hy
        · rw [if_pos ⟨rfl, fun z => h40 z.1⟩] at hy; exact hy
