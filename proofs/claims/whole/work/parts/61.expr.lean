/-! RULES in the text: how they are read, apart from both sides -/
abbrev PSt : Type := Nat × Nat × Nat × RL
abbrev PO : Type := Option (PSt ⊕ (Int × Nat))
def bP (x : PO) (k : PSt → PO) : PO := match x with
  | none => none
  | some (.inr f) => some (.inr f)
  | some (.inl s) => k s
def nxS (s : PSt) : PSt := (s.1 + 1, s.2.1, s.2.2.1, s.2.2.2)
def emt (q : Int × Int) (s : PSt) : PSt := (s.1, s.2.1, s.2.2.1, s.2.2.2 ++ [q])
def fltP (W : Nat → Int) (n : Nat) (s : PSt) : PO := some (.inr (f2 W n s.1, plS W n s.1))
def rkK (k : Int) : Nat := if k = 140 then 1 else if k = 141 then 2 else if k = 60 ∨ k = 62 ∨ k = 61 then 4 else if k = 43 ∨ k = 45 then 5 else if k = 42 ∨ k = 47 ∨ k = 37 then 6 else 0
def sgK (k : Int) : Int := if k = 140 then 124 else if k = 141 then 38 else k
def lfK (W : Nat → Int) (n j : Nat) : Option (Int × Int) := if kdJ W n j = 2 then some (110, tkV W n (plS W n j)) else if kdJ W n j = 129 then some (97, 0) else if kdJ W n j = 130 then some (99, 0) else if kdJ W n j = 132 then some (102, 0) else if kdJ W n j = 143 then some (121, 0) else none
def lpP (W : Nat → Int) (n r : Nat) (F : PSt → PO) : Nat → PSt → PO
  | 0, s => some (.inl s)
  | k + 1, s => if rkK (kdJ W n s.1) = r then bP (F (nxS s)) (fun s2 => lpP W n r F k (emt (sgK (kdJ W n s.1), 0) s2)) else some (.inl s)
def oneP (W : Nat → Int) (n : Nat) (F : Nat → Nat → PSt → PO) (a : Nat) (s : PSt) : PO := if kdJ W n s.1 = 142 then (if a ≤ 6 then bP (F 2 (a + 1) (nxS s)) (fun s2 => some (.inl (emt (126, 0) s2))) else fltP W n s) else bP (F 3 a s) (fun s1 => if rkK (kdJ W n s1.1) = 4 then bP (F 3 a (nxS s1)) (fun s2 => some (.inl (emt (sgK (kdJ W n s1.1), 0) s2))) else some (.inl s1))
def untP (W : Nat → Int) (n : Nat) (F : Nat → Nat → PSt → PO) (a : Nat) (s : PSt) : PO := if lfK W n s.1 = none ∧ ¬ (kdJ W n s.1 = 40 ∧ a ≤ 6) then fltP W n s else if ¬ (s.2.1 < 30 ∧ s.2.2.1 < 60) then fltP W n s else match lfK W n s.1 with
  | some q => some (.inl (emt q (s.1 + 1, s.2.1 + 1, s.2.2.1 + 1, s.2.2.2)))
  | none => bP (F 0 (a + 1) (s.1 + 1, s.2.1 + 1, s.2.2.1 + 1, s.2.2.2)) (fun s2 => if kdJ W n s2.1 = 41 then some (.inl (nxS s2)) else fltP W n s2)
def exP (W : Nat → Int) (n : Nat) : Nat → Nat → Nat → PSt → PO
  | 0, _, _, _ => none
  | d + 1, 0, a, s => bP (exP W n d 1 a s) (lpP W n 1 (exP W n d 1 a) 1600)
  | d + 1, 1, a, s => bP (exP W n d 2 a s) (lpP W n 2 (exP W n d 2 a) 1600)
  | d + 1, 2, a, s => oneP W n (exP W n d) a s
  | d + 1, 3, a, s => bP (exP W n d 4 a s) (lpP W n 5 (exP W n d 4 a) 1600)
  | d + 1, 4, a, s => bP (exP W n d 5 a s) (lpP W n 6 (exP W n d 5 a) 1600)
  | d + 1, _ + 5, a, s => untP W n (exP W n d) a s
theorem bP_inl {x : PO} {k : PSt → PO} {r : PSt ⊕ (Int × Nat)} (h : bP x k = some r) : (∃ f, x = some (.inr f) ∧ r = .inr f) ∨ ∃ s, x = some (.inl s) ∧ k s = some r := by
  cases x with
  | none => cases h
  | some y =>
    cases y with
    | inl s => exact Or.inr ⟨s, rfl, h⟩
    | inr f => exact Or.inl ⟨f, rfl, (Option.some.inj h).symm⟩
theorem bP_ne {x : PO} {k : PSt → PO} (h : x ≠ none) (hk : ∀ s, x = some (.inl s) → k s ≠ none) : bP x k ≠ none := by
  cases x with
  | none => exact absurd rfl h
  | some y =>
    cases y with
    | inl s => exact hk s rfl
    | inr f => intro q; cases q
theorem lpP_ne {W : Nat → Int} {n r : Nat} {F : PSt → PO} (h : ∀ s, F s ≠ none) : ∀ k s, lpP W n r F k s ≠ none := by
  intro k
  induction k with
  | zero => intro s q; cases q
  | succ k ih =>
    intro s
    show (if rkK (kdJ W n s.1) = r then bP (F (nxS s)) (fun s2 => lpP W n r F k (emt (sgK (kdJ W n s.1), 0) s2)) else some (.inl s)) ≠ none
    split
    · exact bP_ne (h _) fun s2 _ => ih _
    · intro q; cases q
/-- they come to an end -/
theorem exP_ne (W : Nat → Int) (n : Nat) : ∀ d l a s, l ≤ 5 → a ≤ 7 → 6 * (7 - a) + (6 - l) ≤ d → exP W n d l a s ≠ none := by
  intro d
  induction d with
  | zero => intro l a s hl ha hd; omega
  | succ d ih =>
    intro l a s hl ha hd
    have h5 : l = 0 ∨ l = 1 ∨ l = 2 ∨ l = 3 ∨ l = 4 ∨ l = 5 := by omega
    rcases h5 with h | h | h | h | h | h <;> subst h
    · have := fun s => ih 1 a s (by omega) ha (by omega)
      exact bP_ne (this s) fun s1 _ => lpP_ne this _ _
    · have := fun s => ih 2 a s (by omega) ha (by omega)
      exact bP_ne (this s) fun s1 _ => lpP_ne this _ _
    · show oneP W n (exP W n d) a s ≠ none
      unfold oneP
      split
      · split
        · exact bP_ne (ih 2 (a + 1) _ (by omega) (by omega) (by omega)) fun s2 _ q => by cases q
        · intro q; cases q
      · refine bP_ne (ih 3 a _ (by omega) ha (by omega)) fun s1 _ => ?_
        split
        · exact bP_ne (ih 3 a _ (by omega) ha (by omega)) fun s2 _ q => by cases q
        · intro q; cases q
    · have := fun s => ih 4 a s (by omega) ha (by omega)
      exact bP_ne (this s) fun s1 _ => lpP_ne this _ _
    · have := fun s => ih 5 a s (by omega) ha (by omega)
      exact bP_ne (this s) fun s1 _ => lpP_ne this _ _
    · show untP W n (exP W n d) a s ≠ none
      unfold untP
      split
      · intro q; cases q
      · rename_i h1
        split
        · intro q; cases q
        · split
          · intro q; cases q
          · rename_i hlf
            have ha6 : a ≤ 6 := by
              apply Classical.byContradiction
              intro hh
              exact h1 ⟨hlf, fun q => hh q.2⟩
            refine bP_ne (ih 0 (a + 1) _ (by omega) (by omega) (by omega)) fun s2 _ => ?_
            split
            · intro q; cases q
            · intro q; cases q
/-! what stays true -/
/-- how high the pile stands behind these steps -/
def wfs : RL → Nat → Option Nat
  | [], h => some h
  | q :: L, h => if okc q = true then (if isL q.1 = true then (if h < 30 then wfs L (h + 1) else none) else if q.1 = 126 then (if 1 ≤ h then wfs L h else none) else (if 2 ≤ h then wfs L (h - 1) else none)) else none
theorem wfs_app : ∀ (L K : RL) (h : Nat), wfs (L ++ K) h = (wfs L h).bind (wfs K) := by
  intro L
  induction L with
  | nil => intro K h; rfl
  | cons q L ih =>
    intro K h
    show (if okc q = true then _ else none) = Option.bind (if okc q = true then _ else none) _
    by_cases hq : okc q = true
    · rw [if_pos hq, if_pos hq]
      by_cases h1 : isL q.1 = true
      · rw [if_pos h1, if_pos h1]
        by_cases h2 : h < 30
        · rw [if_pos h2, if_pos h2]; exact ih K _
        · rw [if_neg h2, if_neg h2]; rfl
      · rw [if_neg h1, if_neg h1]
        by_cases h2 : q.1 = 126
        · rw [if_pos h2, if_pos h2]
          by_cases h3 : 1 ≤ h
          · rw [if_pos h3, if_pos h3]; exact ih K _
          · rw [if_neg h3, if_neg h3]; rfl
        · rw [if_neg h2, if_neg h2]
          by_cases h3 : 2 ≤ h
          · rw [if_pos h3, if_pos h3]; exact ih K _
          · rw [if_neg h3, if_neg h3]; rfl
    · rw [if_neg hq, if_neg hq]; rfl
theorem wfs_wfr : ∀ (L : RL) (h : Nat), wfs L h = some 1 → wfr L h = true := by
  intro L
  induction L with
  | nil =>
    intro h e
    have : h = 1 := Option.some.inj e
    subst this; rfl
  | cons q L ih =>
    intro h e
    have e : (if okc q = true then (if isL q.1 = true then (if h < 30 then wfs L (h + 1) else none) else if q.1 = 126 then (if 1 ≤ h then wfs L h else none) else (if 2 ≤ h then wfs L (h - 1) else none)) else none) = some 1 := e
    show (okc q && (if isL q.1 then decide (h < 30) && wfr L (h + 1) else if q.1 = 126 then decide (1 ≤ h) && wfr L h else decide (2 ≤ h) && wfr L (h - 1))) = true
    by_cases hq : okc q = true
    · rw [if_pos hq] at e
      rw [hq, Bool.true_and]
      by_cases h1 : isL q.1 = true
      · rw [if_pos h1] at e
        rw [if_pos h1]
        by_cases h2 : h < 30
        · rw [if_pos h2] at e
          rw [decide_eq_true h2, Bool.true_and]; exact ih _ e
        · rw [if_neg h2] at e; cases e
      · rw [if_neg h1] at e
        rw [if_neg h1]
        by_cases h2 : q.1 = 126
        · rw [if_pos h2] at e
          rw [if_pos h2]
          by_cases h3 : 1 ≤ h
          · rw [if_pos h3] at e
            rw [decide_eq_true h3, Bool.true_and]; exact ih _ e
          · rw [if_neg h3] at e; cases e
        · rw [if_neg h2] at e
          rw [if_neg h2]
          by_cases h3 : 2 ≤ h
          · rw [if_pos h3] at e
            rw [decide_eq_true h3, Bool.true_and]; exact ih _ e
          · rw [if_neg h3] at e; cases e
    · rw [if_neg hq] at e; cases e
theorem okc_leaf (y : Int) (h0 : 0 ≤ y) (h1 : y ≤ 9999) : okc (110, y) = true ∧ isL 110 = true := by
  refine ⟨?_, by decide⟩
  unfold okc
  rw [decide_eq_true h0, decide_eq_true h1]; rfl
theorem wfs_leaf {L : RL} {h : Nat} {q : Int × Int} (hL : wfs L 0 = some h) (h30 : h < 30) (hq : okc q = true) (hl : isL q.1 = true) : wfs (L ++ [q]) 0 = some (h + 1) := by
  rw [wfs_app, hL]
  show wfs [q] h = _
  unfold wfs
  rw [if_pos hq, if_pos hl, if_pos h30]; rfl
theorem wfs_not {L : RL} {h : Nat} (hL : wfs L 0 = some h) (h1 : 1 ≤ h) : wfs (L ++ [(126, 0)]) 0 = some h := by
  rw [wfs_app, hL]
  show wfs [(126, 0)] h = _
  unfold wfs
  rw [if_pos (by decide), if_neg (by decide), if_pos rfl, if_pos h1]; rfl
theorem wfs_op {L : RL} {h : Nat} {c : Int} (hL : wfs L 0 = some h) (h1 : 2 ≤ h) (hc : okc (c, 0) = true) (hl : isL c = false) (h126 : c ≠ 126) : wfs (L ++ [(c, 0)]) 0 = some (h - 1) := by
  rw [wfs_app, hL]
  show wfs [(c, 0)] h = _
  unfold wfs
  rw [if_pos hc, if_neg (by rw [hl]; simp), if_neg h126, if_pos h1]; rfl
theorem rkK_R {k : Int} {r : Nat} (h : rkK k = r) (hr : 0 < r) : good k ∧ okc (sgK k, 0) = true ∧ isL (sgK k) = false ∧ sgK k ≠ 126 ∧ r ≤ 6 ∧ r ≠ 3 := by
  unfold rkK at h
  unfold sgK good
  split at h
  · rename_i e; subst e; subst h; decide
  · split at h
    · rename_i e; subst e; subst h; decide
    · split at h
      · rename_i e; subst h
        rcases e with e | e | e <;> subst e <;> decide
      · split at h
        · rename_i e; subst h
          rcases e with e | e <;> subst e <;> decide
        · split at h
          · rename_i e; subst h
            rcases e with e | e | e <;> subst e <;> decide
          · omega
theorem lfK_R {W : Nat → Int} {n j : Nat} (hW : ∀ p, tkK W n p = 2 → 0 ≤ tkV W n p ∧ tkV W n p ≤ 9999) {q : Int × Int} (h : lfK W n j = some q) : good (kdJ W n j) ∧ okc q = true ∧ isL q.1 = true ∧ kdJ W n j ≠ 40 ∧ kdJ W n j ≠ 142 := by
  unfold lfK at h
  unfold good
  split at h
  · rename_i e
    cases h
    have := hW _ e
    have := okc_leaf _ this.1 this.2
    exact ⟨by omega, this.1, this.2, by omega, by omega⟩
  · split at h
    · cases h; exact ⟨by omega, by decide, by decide, by omega, by omega⟩
    · split at h
      · cases h; exact ⟨by omega, by decide, by decide, by omega, by omega⟩
      · split at h
        · cases h; exact ⟨by omega, by decide, by decide, by omega, by omega⟩
        · split at h
          · cases h; exact ⟨by omega, by decide, by decide, by omega, by omega⟩
          · cases h
/-- what a reading keeps: from s to s1 -/
def PK (J : Nat) (s s1 : PSt) : Prop := s.1 < s1.1 ∧ s1.1 ≤ J ∧ s.1 + s1.2.2.2.length ≤ s1.1 + s.2.2.2.length ∧ s.2.1 < s1.2.1 ∧ s1.2.1 + s.2.2.1 = s1.2.2.1 + s.2.1 ∧ s1.2.1 ≤ 30 ∧ s1.2.2.1 ≤ 60 ∧ (∃ K, s1.2.2.2 = s.2.2.2 ++ K) ∧ ∀ h, wfs s.2.2.2 0 = some h → h ≤ s.2.1 → wfs s1.2.2.2 0 = some (h + 1)
def FK (J : Nat) (F : PSt → PO) : Prop := ∀ s s1, s.1 ≤ J → F s = some (.inl s1) → PK J s s1
theorem nxS_J {W : Nat → Int} {n J : Nat} (hJ : lastT W n J) {s : PSt} (h : s.1 ≤ J) (hg : good (kdJ W n s.1)) : (nxS s).1 ≤ J := by
  show s.1 + 1 ≤ J
  apply Classical.byContradiction
  intro hh
  have : s.1 = J := by omega
  rw [this] at hg
  exact hJ.2 hg
/-- an operand, an operator, another operand -/
theorem PK_op {W : Nat → Int} {n J r : Nat} {s s1 s2 : PSt} (h1 : PK J s s1) (hr : rkK (kdJ W n s1.1) = r) (hr0 : 0 < r) (h2 : PK J (nxS s1) s2) : PK J s (emt (sgK (kdJ W n s1.1), 0) s2) := by
  obtain ⟨a1, a2, a3, a4, a5, a6, a7, ⟨K1, a8⟩, a9⟩ := h1
  obtain ⟨b1, b2, b3, b4, b5, b6, b7, ⟨K2, b8⟩, b9⟩ := h2
  obtain ⟨-, c2, c3, c4, -⟩ := rkK_R hr hr0
  unfold nxS at b1 b3 b4 b5 b8 b9
  unfold PK emt
  dsimp only at *
  refine ⟨by omega, b2, ?_, by omega, by omega, b6, b7, ⟨K1 ++ K2 ++ [(sgK (kdJ W n s1.1), 0)], ?_⟩, fun h e hh => ?_⟩
  · rw [List.length_append]
    show s.1 + (s2.2.2.2.length + 1) ≤ _
    omega
  · skip
    rw [b8, a8, List.append_assoc, List.append_assoc, List.append_assoc]
  · have e1 := a9 h e hh
    have e2 := b9 (h + 1) e1 (by omega)
    skip
    rw [wfs_op e2 (by omega) c2 c3 c4]; rfl
theorem lpP_K {W : Nat → Int} {n J r : Nat} (hJ : lastT W n J) {F : PSt → PO} (hF : FK J F) (hr : 0 < r) {s : PSt} : ∀ k s1 s2, PK J s s1 → lpP W n r F k s1 = some (.inl s2) → PK J s s2 := by
  intro k
  induction k with
  | zero => intro s1 s2 h1 h2; cases h2; exact h1
  | succ k ih =>
    intro s1 s2 h1 h2
    have h2 : (if rkK (kdJ W n s1.1) = r then bP (F (nxS s1)) (fun s2 => lpP W n r F k (emt (sgK (kdJ W n s1.1), 0) s2)) else some (.inl s1)) = some (.inl s2) := h2
    by_cases hc : rkK (kdJ W n s1.1) = r
    · rw [if_pos hc] at h2
      rcases bP_inl h2 with ⟨f, _, q⟩ | ⟨s3, e3, e4⟩
      · cases q
      · have hg := (rkK_R hc hr).1
        exact ih _ _ (PK_op h1 hc hr (hF _ _ (nxS_J hJ h1.2.1 hg) e3)) e4
    · rw [if_neg hc] at h2
      cases h2; exact h1
theorem exP_K {W : Nat → Int} {n J : Nat} (hJ : lastT W n J) (hW : ∀ p, tkK W n p = 2 → 0 ≤ tkV W n p ∧ tkV W n p ≤ 9999) : ∀ d l a, FK J (exP W n d l a) := by
  intro d
  induction d with
  | zero => intro l a s s1 _ h; cases h
  | succ d ih =>
    intro l a s s1 hs h
    have two : ∀ l' r, 0 < r → bP (exP W n d l' a s) (lpP W n r (exP W n d l' a) 1600) = some (.inl s1) → PK J s s1 := fun l' r hr h => by
      rcases bP_inl h with ⟨f, _, q⟩ | ⟨s2, e2, e3⟩
      · cases q
      · exact lpP_K hJ (ih l' a) hr 1600 _ _ (ih l' a _ _ hs e2) e3
    have h5 : l = 0 ∨ l = 1 ∨ l = 2 ∨ l = 3 ∨ l = 4 ∨ ∃ l', l = l' + 5 := by
      by_cases h : l < 5
      · omega
      · exact Or.inr (Or.inr (Or.inr (Or.inr (Or.inr ⟨l - 5, by omega⟩))))
    rcases h5 with e | e | e | e | e | ⟨l', e⟩ <;> subst e
    · exact two 1 1 (by omega) h
    · exact two 2 2 (by omega) h
    · have h : oneP W n (exP W n d) a s = some (.inl s1) := h
      unfold oneP at h
      split at h
      · rename_i hk
        split at h
        · rcases bP_inl h with ⟨f, _, q⟩ | ⟨s2, e2, e3⟩
          · cases q
          · cases e3
            obtain ⟨b1, b2, b3, b4, b5, b6, b7, ⟨K2, b8⟩, b9⟩ := ih 2 (a + 1) _ _ (nxS_J hJ hs (by rw [hk]; exact ⟨by decide, by decide⟩)) e2
            unfold nxS at b1 b3 b4 b5 b8 b9
            unfold emt
            dsimp only at *
            refine ⟨by omega, b2, ?_, b4, b5, b6, b7, ⟨K2 ++ [(126, 0)], by dsimp only; rw [b8, List.append_assoc]⟩, fun h e hh => ?_⟩
            · rw [List.length_append]
              show s.1 + (s2.2.2.2.length + 1) ≤ _
              omega
            · exact wfs_not (b9 h e hh) (by omega)
        · cases h
      · rcases bP_inl h with ⟨f, _, q⟩ | ⟨s2, e2, e3⟩
        · cases q
        · have k1 := ih 3 a _ _ hs e2
          split at e3
          · rename_i hr
            rcases bP_inl e3 with ⟨f, _, q⟩ | ⟨s4, e4, e5⟩
            · cases q
            · cases e5
              exact PK_op k1 hr (by omega) (ih 3 a _ _ (nxS_J hJ k1.2.1 (rkK_R hr (by omega)).1) e4)
          · cases e3; exact k1
    · exact two 4 5 (by omega) h
    · exact two 5 6 (by omega) h
    · have h : untP W n (exP W n d) a s = some (.inl s1) := h
      unfold untP at h
      split at h
      · cases h
      · rename_i h1
        split at h
        · cases h
        · rename_i h2
          have h2' : s.2.1 < 30 ∧ s.2.2.1 < 60 := Classical.byContradiction h2
          split at h
          · rename_i q hq
            obtain ⟨g1, g2, g3, _⟩ := lfK_R hW hq
            have := nxS_J hJ hs g1
            cases h
            unfold emt
            dsimp only
            refine ⟨by show s.1 < s.1 + 1; omega, this, ?_, by show s.2.1 < s.2.1 + 1; omega, by show s.2.1 + 1 + s.2.2.1 = s.2.2.1 + 1 + s.2.1; omega, by show s.2.1 + 1 ≤ 30; omega, by show s.2.2.1 + 1 ≤ 60; omega, ⟨[q], rfl⟩, fun h e hh => wfs_leaf e (by omega) g2 g3⟩
            show s.1 + (s.2.2.2 ++ [q]).length ≤ s.1 + 1 + s.2.2.2.length
            rw [List.length_append]
            show s.1 + (s.2.2.2.length + 1) ≤ _
            omega
          · rename_i hlf
            have hk : kdJ W n s.1 = 40 := by
              apply Classical.byContradiction
              intro hh
              exact h1 ⟨hlf, fun q => hh q.1⟩
            rcases bP_inl h with ⟨f, _, q⟩ | ⟨s2, e2, e3⟩
            · cases q
            · have hJ1 : s.1 + 1 ≤ J := nxS_J hJ hs (by rw [hk]; exact ⟨by decide, by decide⟩)
              obtain ⟨b1, b2, b3, b4, b5, b6, b7, ⟨K2, b8⟩, b9⟩ := ih 0 (a + 1) _ _ hJ1 e2
              dsimp only at *
              split at e3
              · rename_i h41
                have := nxS_J hJ b2 (by rw [h41]; exact ⟨by decide, by decide⟩)
                cases e3
                unfold nxS at this
                unfold PK nxS
                dsimp only at *
                exact ⟨by omega, this, by omega, by omega, by omega, b6, b7, ⟨K2, b8⟩, fun h e hh => b9 h e (by omega)⟩
              · cases e3
