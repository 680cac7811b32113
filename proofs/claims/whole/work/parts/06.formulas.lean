/-! FORMULAS -/
def opv (c a b : Int) : Int :=
  if c = 37 then (if b = 0 then 0 else krem a b) else if c = 38 then (if a = 0 then 0 else if b = 0 then 0 else 1) else if c = 42 then w32 (a * b) else if c = 43 then w32 (a + b)
  else if c = 45 then w32 (a - b) else if c = 47 then (if b = 0 then 0 else kdiv a b) else if c = 60 then (if a < b then 1 else 0) else if c = 61 then (if a = b then 1 else 0) else if c = 62 then (if a ≤ b then 0 else 1) else (if a = 0 then (if b = 0 then 0 else 1) else 1)
/-- A age, C coin, F family, Y the YEAR -/
def ltv (A C F Y : Int) (q : Int × Int) : Int := if q.1 = 97 then A else if q.1 = 99 then C else if q.1 = 102 then F else if q.1 = 121 then Y else q.2
def stp (A C F Y : Int) (q : Int × Int) (st : List Int) : List Int :=
  if isL q.1 = true then ltv A C F Y q :: st else match st with
  | [] => []
  | b :: st => if q.1 = 126 then (if b = 0 then 1 else 0) :: st else match st with
    | [] => []
    | a :: st => opv q.1 a b :: st
def evr (A C F Y : Int) : RL → List Int → Int
  | [], st => st.headD 0
  | q :: L, st => evr A C F Y L (stp A C F Y q st)
def stk (c : Nat) (M : KM) : List Int → Prop
  | [] => True
  | x :: st => M c st.length = x ∧ stk c M st
theorem stk_congr {c : Nat} {M M' : KM} : ∀ {st : List Int}, stk c M st → (∀ j, j < st.length → M' c j = M c j) → stk c M' st := by
  intro st
  induction st with
  | nil => intro _ _; trivial
  | cons x st ih =>
    intro h hj
    exact ⟨by rw [hj _ (by simp)]; exact h.1, ih h.2 (fun j hl => hj j (by simp; omega))⟩
theorem stk_push {c : Nat} {M : KM} {st : List Int} {v : Int} (h : stk c M st) : stk c (mupd M c st.length v) (v :: st) :=
  ⟨mupd_same _ _ _ _, stk_congr h (fun j hj => mupd_ne2 _ _ (by omega))⟩
def pV (k j : Nat) : Prop := k = 13 ∨ (k = 11 ∧ j = 3)
def pW (k j : Nat) : Prop := k = 410 ∨ (k = 382 ∧ (j = 43 ∨ j = 44 ∨ j = 45))
theorem e_F_push {M : KM} {st : List Int} (x : Int) (h : M 11 3 = st.length) (hl : st.length < 31) : f_Formulas_push x M = some (mupd (mupd M 13 st.length x) 11 3 (st.length + 1)) := by
  unfold f_Formulas_push
  rw [h]
  rw [if_neg (by omega), if_pos (by omega), if_pos (by omega)]
  simp only [letM_e, ob_some, Int.toNat_natCast]
  rw [mupd_ne _ _ (by omega), h, w32e (by omega) (by omega)]
theorem e_F_pop {M : KM} {x : Int} {st : List Int} (h : M 11 3 = ((x :: st).length : Nat)) (hk : stk 13 M (x :: st)) (hl : st.length < 31) : f_Formulas_pop M = some (x, mupd M 11 3 st.length) := by
  unfold f_Formulas_pop
  have h' : M 11 3 = (st.length : Int) + 1 := by rw [h]; simp
  rw [h']
  rw [if_neg (by omega), if_pos (by omega)]
  simp only [letM_e, mupd_same]
  rw [w32e (by omega) (by omega), if_pos (by omega)]
  rw [mupd_ne _ _ (by omega), show (st.length : Int) + 1 - 1 = (st.length : Int) by omega, Int.toNat_natCast, hk.1]
theorem e_F_truth (x : Int) (M : KM) : f_Formulas_truth x M = some (if x = 0 then 0 else 1) := by
  unfold f_Formulas_truth
  by_cases h : x = 0
  · simp [h]
  · simp [h]
theorem e_F_joined (c a b : Int) (M : KM) (hc : c = 6 ∨ c = 7 ∨ c = 37 ∨ c = 42 ∨ c = 43 ∨ c = 45 ∨ c = 47 ∨ c = 60 ∨ c = 61 ∨ c = 62) : f_Formulas_joined c a b M = some (opv (if c = 6 then 124 else if c = 7 then 38 else c) a b) := by
  unfold f_Formulas_joined opv
  simp only [e_F_truth]
  rcases hc with rfl | rfl | rfl | rfl | rfl | rfl | rfl | rfl | rfl | rfl
  · by_cases ha : a = 0 <;> by_cases hb : b = 0 <;> simp [ha, hb]
  · by_cases ha : a = 0 <;> by_cases hb : b = 0 <;> simp [ha, hb]
  · by_cases hb : b = 0 <;> simp [hb]
  · simp
  · simp
  · simp
  · by_cases hb : b = 0 <;> simp [hb]
  · by_cases hb : a < b <;> simp [hb]
  · by_cases hb : a = b <;> simp [hb]
  · by_cases hb : a ≤ b <;> simp [hb]
theorem e_M_two (c a b : Int) (M : KM) (hc : c = 124 ∨ c = 38 ∨ c = 37 ∨ c = 42 ∨ c = 43 ∨ c = 45 ∨ c = 47 ∨ c = 60 ∨ c = 61 ∨ c = 62) : f_M_two c a b M = some (opv c a b) := by
  unfold f_M_two opv
  rcases hc with rfl | rfl | rfl | rfl | rfl | rfl | rfl | rfl | rfl | rfl
  · by_cases ha : a = 0 <;> by_cases hb : b = 0 <;> simp [ha, hb]
  · by_cases ha : a = 0 <;> by_cases hb : b = 0 <;> simp [ha, hb]
  · by_cases hb : b = 0 <;> simp [hb]
  · simp
  · simp
  · simp
  · by_cases hb : b = 0 <;> simp [hb]
  · by_cases hb : a < b <;> simp [hb]
  · by_cases hb : a = b <;> simp [hb]
  · by_cases hb : a ≤ b <;> simp [hb]
theorem okc_cases {q : Int × Int} (h : okc q = true) : (q.1 = 110 ∧ 0 ≤ q.2 ∧ q.2 ≤ 9999) ∨ q.1 = 97 ∨ q.1 = 99 ∨ q.1 = 121 ∨ q.1 = 102 ∨ q.1 = 126 ∨ (q.1 = 124 ∨ q.1 = 38 ∨ q.1 = 37 ∨ q.1 = 42 ∨ q.1 = 43 ∨ q.1 = 45 ∨ q.1 = 47 ∨ q.1 = 60 ∨ q.1 = 61 ∨ q.1 = 62) := by
  unfold okc at h
  simp at h
  omega
/-- the rest of a rule behind i -/
def CAt (M : KM) (i : Int) (L : RL) : Prop := 0 ≤ i ∧ i + L.length < M 11 1 ∧ M 11 1 ≤ 1600 ∧ (∀ j q, L[j]? = some q → M 12 (i.toNat + j) = encC q) ∧ M 12 (i.toNat + L.length) = 0
theorem CAt.tail {M : KM} {i : Int} {q : Int × Int} {L : RL} (h : CAt M i (q :: L)) : CAt M (i + 1) L ∧ M 12 i.toNat = encC q := by
  obtain ⟨h0, h1, h2, h3, h4⟩ := h
  rw [List.length_cons] at h1 h4
  have e : (i + 1).toNat = i.toNat + 1 := by omega
  refine ⟨⟨by omega, by omega, h2, fun j q' hq' => ?_, ?_⟩, h3 0 q rfl⟩
  · rw [e, show i.toNat + 1 + j = i.toNat + (j + 1) by omega]
    exact h3 (j + 1) q' hq'
  · rw [e, show i.toNat + 1 + L.length = i.toNat + (L.length + 1) by omega]
    exact h4
theorem CAt.congr {M M' : KM} {i : Int} {L : RL} (h : CAt M i L) (h1 : M' 11 1 = M 11 1) (h2 : M' 12 = M 12) : CAt M' i L := by
  unfold CAt at h ⊢
  rw [h1, h2]; exact h
theorem pV_11 : ¬ pV 11 1 := by unfold pV; omega
theorem pV_12 (j : Nat) : ¬ pV 12 j := by unfold pV; omega
theorem Fp.v12 {M M' : KM} (h : Fp pV M M') : M' 12 = M 12 := h.row pV_12
def Ival (M0 : KM) (A C F Y : Int) (r : Int) (L : RL) (s : Int × KM) : Prop := CAt s.2 s.1 L ∧ Fp pV M0 s.2 ∧ ∃ st : List Int, s.2 11 3 = st.length ∧ stk 13 s.2 st ∧ wfr L st.length = true ∧ st.length < 31 ∧ evr A C F Y L st = r
theorem Ival.mk1 {M0 M M' : KM} {A C F Y r : Int} {q : Int × Int} {L : RL} {i : Int} {st : List Int} (hc : CAt M i (q :: L)) (hf : Fp pV M0 M') (hf2 : Fp pV M M') (h1 : M' 11 3 = (stp A C F Y q st).length) (h2 : stk 13 M' (stp A C F Y q st)) (h3 : wfr L (stp A C F Y q st).length = true) (h4 : (stp A C F Y q st).length < 31) (h5 : evr A C F Y (q :: L) st = r) : Ival M0 A C F Y r L (i + 1, M') :=
  ⟨hc.tail.1.congr (hf2 _ _ pV_11) hf2.v12, hf, _, h1, h2, h3, h4, h5⟩
/-- one step of the first side -/
theorem F_body {M0 M : KM} {A C F Y r : Int} {q : Int × Int} {L : RL} {i : Int} (h : Ival M0 A C F Y r (q :: L) (i, M)) : Ret (if encC q < (128 : Int) then (if encC q = (1 : Int) then Option.bind (f_Formulas_push A M) (fun q4 => some q4) else (if encC q = (2 : Int) then Option.bind (f_Formulas_push C M) (fun q5 => some q5) else (if encC q = (3 : Int) then Option.bind (f_Formulas_push Y M) (fun q6 => some q6) else (if encC q = (4 : Int) then Option.bind (f_Formulas_push F M) (fun q7 => some q7) else (if encC q = (5 : Int) then Option.bind (f_Formulas_pop M) (fun q8 => Option.bind ((if q8.1 = (0 : Int) then some (1 : Int) else some (0 : Int)) : Option (Int)) (fun t9 => Option.bind (f_Formulas_truth t9 q8.2) (fun q10 => Option.bind (f_Formulas_push q10 q8.2) (fun q11 => some q11)))) else Option.bind (f_Formulas_pop M) (fun q12 => Option.bind (f_Formulas_pop q12.2) (fun q13 => Option.bind (f_Formulas_joined (encC q) q13.1 q12.1 q13.2) (fun q14 => Option.bind (f_Formulas_push q14 q13.2) (fun q15 => some q15))))))))) else Option.bind (f_Formulas_push (w32 (encC q - (128 : Int))) M) (fun q16 => some q16)) (fun M' => Ival M0 A C F Y r L (i + 1, M')) := by
  obtain ⟨hc, hf, st, h1, h2, h3, h4, h5⟩ := h
  have hw := h3
  unfold wfr at hw
  rw [Bool.and_eq_true] at hw
  obtain ⟨hok, hw⟩ := hw
  have hpush : ∀ x : Int, isL q.1 = true → ltv A C F Y q = x → Ret (Option.bind (f_Formulas_push x M) (fun q4 => some q4)) (fun M' => Ival M0 A C F Y r L (i + 1, M')) := by
    intro x hL hx
    rw [if_pos hL, Bool.and_eq_true, decide_eq_true_eq] at hw
    rw [e_F_push x h1 h4]
    have es : stp A C F Y q st = x :: st := by unfold stp; rw [if_pos hL, hx]
    have f2 : Fp pV M (mupd (mupd M 13 st.length x) 11 3 (st.length + 1)) := (Fp.rf.upd (Or.inl rfl)).upd (Or.inr ⟨rfl, rfl⟩)
    refine Ret.pure (Ival.mk1 (st := st) hc (hf.tr f2) f2 ?_ ?_ ?_ ?_ h5)
    · rw [es, mupd_same]; simp
    · rw [es]; exact stk_congr (stk_push h2) (fun j _ => mupd_ne _ _ (by omega))
    · rw [es]; exact hw.2
    · rw [es]; simp; omega
  have hL0 : ∀ c : Int, isL c = true → 97 ≤ c ∧ c ≤ 122 := fun c hc => by unfold isL at hc; simpa using hc
  rcases okc_cases hok with ⟨h, hb⟩ | h | h | h | h | h | h
  · have e : encC q = 128 + q.2 := by unfold encC; rw [if_pos h]
    rw [e]
    refine Ret.f (by omega) ?_
    rw [show 128 + q.2 - 128 = q.2 by omega, w32e (by omega) (by omega)]
    exact hpush _ (by rw [h]; rfl) (by unfold ltv; rw [h]; simp)
  · have e : encC q = 1 := by unfold encC; rw [h]; rfl
    rw [e]
    exact Ret.t (by omega) (Ret.t rfl (hpush _ (by rw [h]; rfl) (by unfold ltv; rw [h]; simp)))
  · have e : encC q = 2 := by unfold encC; rw [h]; rfl
    rw [e]
    exact Ret.t (by omega) (Ret.f (by omega) (Ret.t rfl (hpush _ (by rw [h]; rfl) (by unfold ltv; rw [h]; simp))))
  · have e : encC q = 3 := by unfold encC; rw [h]; rfl
    rw [e]
    exact Ret.t (by omega) (Ret.f (by omega) (Ret.f (by omega) (Ret.t rfl (hpush _ (by rw [h]; rfl) (by unfold ltv; rw [h]; simp)))))
  · have e : encC q = 4 := by unfold encC; rw [h]; rfl
    rw [e]
    exact Ret.t (by omega) (Ret.f (by omega) (Ret.f (by omega) (Ret.f (by omega) (Ret.t rfl (hpush _ (by rw [h]; rfl) (by unfold ltv; rw [h]; simp))))))
  · have e : encC q = 5 := by unfold encC; rw [h]; rfl
    rw [e]
    refine Ret.t (by omega) (Ret.f (by omega) (Ret.f (by omega) (Ret.f (by omega) (Ret.f (by omega) (Ret.t rfl ?_)))))
    have hl : isL q.1 = false := by rw [h]; rfl
    rw [hl, if_neg (by simp), if_pos h, Bool.and_eq_true, decide_eq_true_eq] at hw
    obtain ⟨x, st, rfl⟩ : ∃ x st', st = x :: st' := by
      cases st with
      | nil => simp at hw
      | cons x st => exact ⟨x, st, rfl⟩
    rw [List.length_cons] at h4
    rw [e_F_pop h1 h2 (by omega), ob_some]
    have e1 : (if x = 0 then some (1 : Int) else some 0) = some (if x = 0 then (1 : Int) else 0) := by split <;> rfl
    rw [e1, ob_some, e_F_truth, ob_some]
    have e2 : (if (if x = 0 then (1 : Int) else 0) = 0 then (0 : Int) else 1) = if x = 0 then 1 else 0 := by by_cases hx : x = 0 <;> simp [hx]
    have f1 : Fp pV M (mupd M 11 3 st.length) := Fp.rf.upd (Or.inr ⟨rfl, rfl⟩)
    rw [e2, e_F_push (st := st) _ (mupd_same _ _ _ _) (by omega), ob_some]
    have es : stp A C F Y q (x :: st) = (if x = 0 then 1 else 0) :: st := by unfold stp; rw [hl, if_neg (by simp)]; simp [h]
    have f2 : Fp pV M (mupd (mupd (mupd M 11 3 st.length) 13 st.length (if x = 0 then 1 else 0)) 11 3 (st.length + 1)) := (f1.upd (Or.inl rfl)).upd (Or.inr ⟨rfl, rfl⟩)
    refine Ret.pure (Ival.mk1 (st := x :: st) hc (hf.tr f2) f2 ?_ ?_ ?_ ?_ h5)
    · rw [es, mupd_same]; simp
    · rw [es]; exact stk_congr (stk_push (stk_congr h2.2 (fun j _ => mupd_ne _ _ (by omega)))) (fun j _ => mupd_ne _ _ (by omega))
    · rw [es]; exact hw.2
    · rw [es]; simp; omega
  · have hl : isL q.1 = false := by rcases h with h | h | h | h | h | h | h | h | h | h <;> rw [h] <;> rfl
    have h6 : q.1 ≠ 126 := by omega
    have e : encC q = (if q.1 = 124 then 6 else if q.1 = 38 then 7 else q.1) := by
      unfold encC
      rcases h with h | h | h | h | h | h | h | h | h | h <;> rw [h] <;> rfl
    have er : encC q = 6 ∨ encC q = 7 ∨ encC q = 37 ∨ encC q = 42 ∨ encC q = 43 ∨ encC q = 45 ∨ encC q = 47 ∨ encC q = 60 ∨ encC q = 61 ∨ encC q = 62 := by
      rw [e]
      rcases h with h | h | h | h | h | h | h | h | h | h <;> rw [h] <;> simp
    refine Ret.t (by omega) (Ret.f (by omega) (Ret.f (by omega) (Ret.f (by omega) (Ret.f (by omega) (Ret.f (by omega) ?_)))))
    rw [hl, if_neg (by simp), if_neg h6, Bool.and_eq_true, decide_eq_true_eq] at hw
    obtain ⟨y, x, st, rfl⟩ : ∃ y x st', st = y :: x :: st' := by
      match st, hw.1 with
      | y :: x :: st, _ => exact ⟨y, x, st, rfl⟩
    have hk := h2.2
    simp only [List.length_cons] at h4 hw
    have f1 : Fp pV M (mupd M 11 3 (x :: st).length) := Fp.rf.upd (Or.inr ⟨rfl, rfl⟩)
    rw [e_F_pop h1 h2 (by simp; omega), ob_some]
    rw [e_F_pop (x := x) (st := st) (mupd_same _ _ _ _) (stk_congr hk (fun j _ => mupd_ne _ _ (by omega))) (by omega), ob_some, e_F_joined _ _ _ _ er, ob_some]
    have e3 : (if encC q = 6 then 124 else if encC q = 7 then 38 else encC q) = q.1 := by
      rw [e]
      rcases h with h | h | h | h | h | h | h | h | h | h <;> rw [h] <;> rfl
    rw [e3, e_F_push (st := st) _ (mupd_same _ _ _ _) (by omega), ob_some]
    have es : stp A C F Y q (y :: x :: st) = opv q.1 x y :: st := by unfold stp; rw [hl, if_neg (by simp)]; simp [h6]
    have f2 : Fp pV M (mupd (mupd (mupd (mupd M 11 3 (x :: st).length) 11 3 st.length) 13 st.length (opv q.1 x y)) 11 3 (st.length + 1)) := ((f1.upd (Or.inr ⟨rfl, rfl⟩)).upd (Or.inl rfl)).upd (Or.inr ⟨rfl, rfl⟩)
    refine Ret.pure (Ival.mk1 (st := y :: x :: st) hc (hf.tr f2) f2 ?_ ?_ ?_ ?_ h5)
    · rw [es, mupd_same]; simp
    · rw [es]
      refine stk_congr (stk_push (stk_congr hk.2 (fun j _ => ?_))) (fun j _ => mupd_ne _ _ (by omega))
      rw [mupd_ne _ _ (by omega), mupd_ne _ _ (by omega)]
    · rw [es]; simpa using hw.2
    · rw [es]; simp; omega
theorem wfr_end {h : Nat} (hw : wfr [] h = true) : h = 1 := by unfold wfr at hw; simpa using hw
theorem X_value {M : KM} {s : Int} {L : RL} (A C F Y : Int) (hc : CAt M s L) (hw : wfr L 0 = true) : Ret (f_Formulas_value s A C F Y M) (fun q => q.1 = evr A C F Y L [] ∧ Fp pV M q.2) := by
  unfold f_Formulas_value
  rw [letM_e]
  have f0 : Fp pV M (mupd M 11 3 0) := Fp.rf.upd (Or.inr ⟨rfl, rfl⟩)
  refine Ret.bind (Ret.list (Q := fun e => ∃ M' i, e = Sum.inr M' ∧ Ival M A C F Y (evr A C F Y L []) [] (i, M')) (I := Ival M A C F Y (evr A C F Y L [])) ?_ ?_ L _ ?_) ?_
  · rintro q L' ⟨i, M'⟩ h
    have ht := h.1.tail
    obtain ⟨h0, h1, h2, h3, h4⟩ := h.1
    rw [List.length_cons] at h1
    dsimp only at h0 h1 h2 h3 h4 ht ⊢
    refine Ret.f (by omega) (Ret.t (by omega) (Ret.t (by omega) (Ret.t (by omega) (Ret.letI ?_))))
    rw [ht.2]
    have hne : encC q ≠ 0 := by
      obtain ⟨-, -, st, -, -, hw, -⟩ := h
      unfold wfr at hw
      rw [Bool.and_eq_true] at hw
      unfold encC
      rcases okc_cases hw.1 with ⟨h, hb⟩ | h | h | h | h | h | h
      · rw [if_pos h]; omega
      · rw [h]; simp
      · rw [h]; simp
      · rw [h]; simp
      · rw [h]; simp
      · rw [h]; simp
      · rcases h with h | h | h | h | h | h | h | h | h | h <;> rw [h] <;> simp
    refine Ret.f hne (Ret.bind (F_body h) (fun M1 h5 => ?_))
    rw [w32e (by omega) (by omega)]
    exact Ret.pure h5
  · rintro ⟨i, M'⟩ h
    obtain ⟨h0, h1, h2, h3, h4⟩ := h.1
    rw [List.length_nil] at h1
    dsimp only at h0 h1 h2 h3 h4 ⊢
    refine Ret.f (by omega) (Ret.t (by omega) (Ret.t (by omega) (Ret.t (by omega) (Ret.letI ?_))))
    refine Ret.t h4 (Ret.pure ⟨M', i, rfl, h⟩)
  · exact ⟨hc.congr (f0 _ _ pV_11) f0.v12, f0, [], by simp [mupd_same], trivial, hw, by decide, rfl⟩
  · rintro e ⟨M', i, rfl, h⟩
    obtain ⟨-, hf, st, h1, h2, h3, h4, h5⟩ := h
    have hl := wfr_end h3
    obtain ⟨x, rfl⟩ : ∃ x, st = [x] := by
      match st, hl with
      | [x], _ => exact ⟨x, rfl⟩
    dsimp only [Sum.elim_inr] at h1 h2 ⊢
    rw [e_F_pop h1 h2 (by decide), ob_some]
    exact Ret.pure ⟨h5, hf.upd (Or.inr ⟨rfl, rfl⟩)⟩
/-! THE SECOND SIDE -/
theorem e_M_isLetter (c : Int) (M : KM) : f_M_isLetter c M = some (if isL c = true then 1 else 0) := by
  unfold f_M_isLetter isL
  by_cases h : c < 97
  · simp [h, Int.not_le.mpr h]
  · by_cases h2 : c ≤ 122
    · simp [h, h2, Int.not_lt.mp h]
    · simp [h, h2]
theorem e_M_asked {M : KM} {A C F Y : Int} {q : Int × Int} (hA : M 382 43 = A) (hC : M 382 44 = C) (hF : M 382 45 = F) (hY : M 411 19 = Y) : f_M_asked q.1 q.2 M = some (ltv A C F Y q) := by
  unfold f_M_asked ltv
  subst hA; subst hC; subst hF; subst hY
  by_cases h1 : q.1 = 97
  · simp [h1]
  · by_cases h2 : q.1 = 99
    · simp [h2]
    · by_cases h3 : q.1 = 102
      · simp [h3]
      · by_cases h4 : q.1 = 121
        · simp [h4]
        · simp [h1, h2, h3, h4]
def pP (k _ : Nat) : Prop := k = 410
/-- the rest of a rule behind i -/
def MAt (M : KM) (e i : Int) (L : RL) : Prop := 0 ≤ i ∧ e = i + L.length ∧ e ≤ 1120 ∧ ∀ j q, L[j]? = some q → M 406 (i.toNat + j) = q.1 ∧ M 407 (i.toNat + j) = q.2
theorem MAt.tail {M : KM} {e i : Int} {q : Int × Int} {L : RL} (h : MAt M e i (q :: L)) : MAt M e (i + 1) L ∧ M 406 i.toNat = q.1 ∧ M 407 i.toNat = q.2 ∧ i < e := by
  obtain ⟨h0, h1, h2, h3⟩ := h
  rw [List.length_cons] at h1
  have e' : (i + 1).toNat = i.toNat + 1 := by omega
  refine ⟨⟨by omega, by omega, h2, fun j q' hq' => ?_⟩, (h3 0 q rfl).1, (h3 0 q rfl).2, by omega⟩
  rw [e', show i.toNat + 1 + j = i.toNat + (j + 1) by omega]
  exact h3 (j + 1) q' hq'
theorem MAt.congr {M M' : KM} {e i : Int} {L : RL} (h : MAt M e i L) (h1 : M' 406 = M 406) (h2 : M' 407 = M 407) : MAt M' e i L := by
  unfold MAt at h ⊢
  rw [h1, h2]; exact h
theorem Fp.p {M M' : KM} (h : Fp pP M M') {k : Nat} (hk : k ≠ 410) : M' k = M k := h.row (fun _ hp => hk hp)
theorem M_comes {b : Nat} {M : KM} {r : Nat} {L : RL} {A C F Y : Int} (hb : BK b M) (hr : r < 7) (hL : MRule b M r L) (hw : wfr L 0 = true) (hA : M 382 43 = A) (hC : M 382 44 = C) (hF : M 382 45 = F) (hY : M 411 19 = Y) :
    Ret (f_M_comes r M) (fun q => q.1 = evr A C F Y L [] ∧ Fp pP M q.2) := by
  have hb1 := hb.1
  unfold f_M_comes
  have ew : ∀ M' : KM, M' 382 37 = (b : Int) → w32 (w32 (7 * M' 382 37) + (r : Int)) = ((7 * b + r : Nat) : Int) := by
    intro M' h
    rw [h, w32e (n := 7 * (b : Int)) (by omega) (by omega), w32e (by omega) (by omega)]
    omega
  rw [ew M hb.2, Int.toNat_natCast]
  refine Ret.t (by omega) (Ret.letI ?_)
  refine Ret.bind (R := fun e => Fp pP M e ∧ e 410 0 = evr A C F Y L []) (Ret.list (I := fun (K : RL) (s : Int × Int × KM) => MAt s.2.2 (M 401 (7 * b + r)) s.2.1 K ∧ Fp pP M s.2.2 ∧ ∃ st : List Int, s.1 = (st.length : Int) ∧ stk 410 s.2.2 st ∧ wfr K st.length = true ∧ st.length < 31 ∧ evr A C F Y K st = evr A C F Y L []) ?_ ?_ L _ ?_) ?_
  · rintro q K ⟨n, i, M'⟩ ⟨hat, hf, st, h1, h2, h3, h4, h5⟩
    dsimp only at hat hf h1 h2 h3 h4 h5 ⊢
    have ht := hat.tail
    have hi0 := hat.1
    have hi1 := hat.2.2.1
    rw [ew M' (by rw [hf.p (by omega)]; exact hb.2), Int.toNat_natCast]
    have e401 : M' 401 = M 401 := hf.p (by omega)
    refine Ret.t (by omega) (Ret.t (by rw [e401]; exact ht.2.2.2) (Ret.t (by omega) (Ret.letI ?_)))
    rw [ht.2.1, h1]
    have hw' := h3
    unfold wfr at hw'
    rw [Bool.and_eq_true] at hw'
    obtain ⟨hok, hw'⟩ := hw'
    refine Ret.bind (R := fun t => MAt t.2 (M 401 (7 * b + r)) (i + 1) K ∧ Fp pP M t.2 ∧ ∃ st : List Int, t.1 = (st.length : Int) ∧ stk 410 t.2 st ∧ wfr K st.length = true ∧ st.length < 31 ∧ evr A C F Y K st = evr A C F Y L []) ?_ ?_
    · have fin : ∀ (M2 : KM) (n2 : Int), Fp pP M' M2 → n2 = ((stp A C F Y q st).length : Int) → stk 410 M2 (stp A C F Y q st) → wfr K (stp A C F Y q st).length = true → (stp A C F Y q st).length < 31 → (fun t : Int × KM => MAt t.2 (M 401 (7 * b + r)) (i + 1) K ∧ Fp pP M t.2 ∧ ∃ st : List Int, t.1 = (st.length : Int) ∧ stk 410 t.2 st ∧ wfr K st.length = true ∧ st.length < 31 ∧ evr A C F Y K st = evr A C F Y L []) (n2, M2) := by
        intro M2 n2 g1 g2 g3 g4 g5
        exact ⟨ht.1.congr (g1.p (by omega)) (g1.p (by omega)), hf.tr g1, _, g2, g3, g4, g5, h5⟩
      have hLt : isL q.1 = true → Ret (Option.bind (f_M_isLetter q.1 M') (fun q6 => (if q6 = (0 : Int) then (none : Option (Int × KM)) else (if 0 ≤ i ∧ i < 1120 then Option.bind (f_M_asked q.1 (M' 407 i.toNat) M') (fun q9 => (if 0 ≤ (st.length : Int) ∧ (st.length : Int) < 60 then letM_ (mupd M' 410 (st.length : Int).toNat q9) (fun M10 => some (w32 ((st.length : Int) + (1 : Int)), M10)) else none)) else none)))) (fun t => MAt t.2 (M 401 (7 * b + r)) (i + 1) K ∧ Fp pP M t.2 ∧ ∃ st : List Int, t.1 = (st.length : Int) ∧ stk 410 t.2 st ∧ wfr K st.length = true ∧ st.length < 31 ∧ evr A C F Y K st = evr A C F Y L []) := by
        intro hl
        rw [if_pos hl, Bool.and_eq_true, decide_eq_true_eq] at hw'
        rw [e_M_isLetter, if_pos hl, ob_some]
        refine Ret.f (by omega) (Ret.t (by omega) ?_)
        have g : ∀ k, k ≠ 410 → M' k = M k := fun k hk => hf.p hk
        rw [ht.2.2.1, e_M_asked (A := A) (C := C) (F := F) (Y := Y) (by rw [g 382 (by omega)]; exact hA) (by rw [g 382 (by omega)]; exact hC) (by rw [g 382 (by omega)]; exact hF) (by rw [g 411 (by omega)]; exact hY), ob_some]
        refine Ret.t (by omega) (Ret.letM (Ret.pure ?_))
        rw [Int.toNat_natCast, w32e (by omega) (by omega)]
        have es : stp A C F Y q st = ltv A C F Y q :: st := by unfold stp; rw [if_pos hl]
        refine fin _ _ (Fp.rf.upd rfl) ?_ ?_ ?_ ?_
        · rw [es]; simp
        · rw [es]; exact stk_push h2
        · rw [es]; exact hw'.2
        · rw [es]; simp; omega
      rcases okc_cases hok with ⟨h, hb2⟩ | h | h | h | h | h | h
      · exact Ret.f (by omega) (by simpa [e_M_isLetter, h, isL] using hLt (by rw [h]; rfl))
      · exact Ret.f (by omega) (by simpa [e_M_isLetter, h, isL] using hLt (by rw [h]; rfl))
      · exact Ret.f (by omega) (by simpa [e_M_isLetter, h, isL] using hLt (by rw [h]; rfl))
      · exact Ret.f (by omega) (by simpa [e_M_isLetter, h, isL] using hLt (by rw [h]; rfl))
      · exact Ret.f (by omega) (by simpa [e_M_isLetter, h, isL] using hLt (by rw [h]; rfl))
      · have hl : isL q.1 = false := by rw [h]; rfl
        rw [hl, if_neg (by simp), if_pos h, Bool.and_eq_true, decide_eq_true_eq] at hw'
        obtain ⟨x, st, rfl⟩ : ∃ x st', st = x :: st' := by
          cases st with
          | nil => simp at hw'
          | cons x st => exact ⟨x, st, rfl⟩
        rw [List.length_cons] at h4 hw' ⊢
        have e1 : w32 (((st.length + 1 : Nat) : Int) - 1) = (st.length : Int) := by rw [w32e (by omega) (by omega)]; omega
        rw [e1, Int.toNat_natCast]
        refine Ret.t h (Ret.t (by omega) ?_)
        have e2 : (if M' 410 st.length = 0 then some (1 : Int) else some 0) = some (if x = 0 then (1 : Int) else 0) := by rw [h2.1]; split <;> rfl
        rw [e2, ob_some]
        refine Ret.t (by omega) (Ret.letM (Ret.pure ?_))
        have es : stp A C F Y q (x :: st) = (if x = 0 then 1 else 0) :: st := by unfold stp; rw [hl, if_neg (by simp)]; simp [h]
        refine fin _ _ (Fp.rf.upd rfl) ?_ ?_ ?_ ?_
        · rw [es]; simp
        · rw [es]; exact stk_push h2.2
        · rw [es]; exact hw'.2
        · rw [es]; simp; omega
      · have hl : isL q.1 = false := by rcases h with h | h | h | h | h | h | h | h | h | h <;> rw [h] <;> rfl
        have h6 : q.1 ≠ 126 := by omega
        refine Ret.f h6 ?_
        rw [e_M_isLetter, hl, if_neg (by simp), ob_some]
        rw [hl, if_neg (by simp), if_neg h6, Bool.and_eq_true, decide_eq_true_eq] at hw'
        obtain ⟨y, x, st, rfl⟩ : ∃ y x st', st = y :: x :: st' := by
          match st, hw'.1 with
          | y :: x :: st, _ => exact ⟨y, x, st, rfl⟩
        simp only [List.length_cons] at h4 hw' ⊢
        have e0 : w32 (((st.length + 1 + 1 : Nat) : Int) + -1) = ((st.length + 1 : Nat) : Int) := by rw [w32e (by omega) (by omega)]; omega
        have e1 : w32 (((st.length + 1 : Nat) : Int) - 1) = (st.length : Int) := by rw [w32e (by omega) (by omega)]; omega
        rw [e0, e1]
        simp only [Int.toNat_natCast]
        refine Ret.t (by simp) (Ret.t (by omega) (Ret.t (by omega) ?_))
        have k1 : M' 410 (st.length + 1) = y := h2.1
        have k2 : M' 410 st.length = x := h2.2.1
        rw [k1, k2, e_M_two _ _ _ _ h, ob_some]
        refine Ret.t (by omega) (Ret.letM (Ret.pure ?_))
        have es : stp A C F Y q (y :: x :: st) = opv q.1 x y :: st := by unfold stp; rw [hl, if_neg (by simp)]; simp [h6]
        refine fin _ _ (Fp.rf.upd rfl) ?_ ?_ ?_ ?_
        · rw [es]; simp
        · rw [es]; exact stk_push h2.2.2
        · rw [es]; simpa using hw'.2
        · rw [es]; simp; omega
    · rintro ⟨n2, M2⟩ h
      dsimp only at h ⊢
      rw [w32e (by omega) (by omega)]
      exact Ret.pure h
  · rintro ⟨n, i, M'⟩ ⟨hat, hf, st, h1, h2, h3, h4, h5⟩
    dsimp only at hat hf h1 h2 h3 h4 h5 ⊢
    rw [ew M' (by rw [hf.p (by omega)]; exact hb.2), Int.toNat_natCast]
    have e401 : M' 401 = M 401 := hf.p (by omega)
    have hat2 := hat.2.1
    rw [List.length_nil] at hat2
    refine Ret.t (by omega) (Ret.f (by rw [e401]; omega) (Ret.pure ⟨hf, ?_⟩))
    have hl := wfr_end h3
    obtain ⟨x, rfl⟩ : ∃ x, st = [x] := by
      match st, hl with
      | [x], _ => exact ⟨x, rfl⟩
    exact h2.1.trans h5
  · exact ⟨⟨hL.1, hL.2.1, hL.2.2.1, hL.2.2.2⟩, Fp.rf, [], rfl, trivial, hw, by decide, rfl⟩
  · rintro e ⟨h1, h2⟩
    refine Ret.t (by omega) (Ret.pure ⟨h2, h1⟩)
