/-! RULES in the text: both ways of reading come to the same -/
/-- behind a unit: another operator -/
theorem M_beh_op {W : Nat → Int} {n rb bs r : Nat} {s : PSt} {tp pend : STK} {e : Int × Int} {cm : RL} {a : Nat} {M : KM} (hW : TXR W) (hrb : rb < 2) (h : MX W n rb bs s (tp ++ [e] ++ pend) cm (a + nots pend) M) (hl : (tp ++ [e] ++ pend).length ≤ 80) (hp : ∀ x, x ∈ pend → (r : Int) ≤ x.1 ∧ x.1 ≤ 6) (he : e.1 < (r : Int) ∨ 7 ≤ e.1) (hc : bs + (cm ++ emd pend).length ≤ 560 * rb + 560) (hwi : a + nots pend < 1000) (hr : rkK (kdJ W n s.1) = r) (hr0 : 0 < r) (h4 : r = 4 → f_M_isCompared M = some 0) :
    Ret (f_M_behindUnit M) (fun q => q.1 = 1 ∧ MX W n rb bs (nxS s) (tp ++ [e] ++ [((r : Int), sgK (kdJ W n s.1))]) (cm ++ emd pend) a q.2 ∧ Fp (pExm rb bs) M q.2) := by
  rw [behind_e, M_rankHere h.1, ob_some, hr]
  have go : Ret (Option.bind (whileO (σ := KM) (ε := KM) (redB (r : Int)) M) (behK (r : Int))) (fun q => q.1 = 1 ∧ MX W n rb bs (nxS s) (tp ++ [e] ++ [((r : Int), sgK (kdJ W n s.1))]) (cm ++ emd pend) a q.2 ∧ Fp (pExm rb bs) M q.2) := by
    refine Ret.bind (MX_red hrb h (by omega) hp he hc hwi) ?_
    rintro e8 ⟨a1, a2⟩
    unfold behK
    refine Ret.f (by omega) ?_
    refine Ret.bind (R := fun y => y = sgK (kdJ W n s.1)) ?_ ?_
    · have hR := rkK_R hr hr0
      refine Ret.br (fun h2 => Ret.pure ?_) fun h2 => Ret.br (fun h1 => Ret.pure ?_) fun h1 => ?_
      · have : kdJ W n s.1 = 141 := (rkK_2 _).mp (by omega)
        rw [this]; rfl
      · have : kdJ W n s.1 = 140 := (rkK_1 _).mp (by omega)
        rw [this]; rfl
      · have sg := sgK_o hr (by omega)
        obtain ⟨t1, ⟨p1, -⟩, -⟩ := a1.1
        rw [p1, M_sign t1.1, ob_some, sg.1]
        refine Ret.pure ?_
        have hk : kdJ W n s.1 < 128 ∧ 4 ≤ kdJ W n s.1 := by
          rcases (show r = 4 ∨ r = 5 ∨ r = 6 by omega) with z | z | z
          · have := (rkK_4 _).mp (hr.trans z); omega
          · have := (rkK_5 _).mp (hr.trans z); omega
          · have := (rkK_6 _).mp (hr.trans z); omega
        have hk : tkK W n (plS W n s.1) < 128 ∧ 4 ≤ tkK W n (plS W n s.1) := hk
        rcases tkK_R W n (plS W n s.1) with ⟨z, _⟩ | ⟨hpn, z | ⟨z, _⟩ | ⟨z, _⟩ | ⟨z1, z2, z3, _⟩ | ⟨q, q1, z, _⟩⟩
        · omega
        · omega
        · omega
        · omega
        · rw [if_pos hpn]; exact z3.symm
        · omega
    rintro y rfl
    have hl1 : (tp ++ [e]).length ≤ 80 := by rw [List.length_append] at hl; omega
    refine Ret.bind (MX_push a1 (by omega) (r : Int) (sgK (kdJ W n s.1))) ?_
    rintro q16 ⟨b1, b2⟩
    refine Ret.bind (MX_go b1 hW) ?_
    rintro q17 ⟨c1, c2⟩
    exact Ret.pure ⟨rfl, c1, (a2.tr b2).tr c2⟩
  refine Ret.br (fun hq => ?_) fun _ => go
  rw [h4 (by omega), ob_some]
  exact Ret.t rfl go
/-- a second relation -/
theorem M_beh_cmp {W : Nat → Int} {n rb bs : Nat} {s : PSt} {stk : STK} {cm : RL} {wi : Nat} {M : KM} (h : MX W n rb bs s stk cm wi M) (hr : rkK (kdJ W n s.1) = 4) (h4 : f_M_isCompared M = some 1) : Ret (f_M_behindUnit M) (fun q => q.1 = 1 ∧ fM (f2 W n s.1) (plS W n s.1) q.2 ∧ Fp (pExm rb bs) M q.2) := by
  rw [behind_e, M_rankHere h.1, ob_some, hr, h4, ob_some]
  refine Ret.t rfl (Ret.f (by decide) ?_)
  refine Ret.bind (M_misplaced h.1) ?_
  rintro q ⟨q1, q2⟩
  exact Ret.pure ⟨rfl, q1, q2.mono pFm_E⟩
/-- behind a unit: no operator: a bracket's end -/
theorem M_beh_br {W : Nat → Int} {n rb bs : Nat} {s : PSt} {tp pend : STK} {y : Int} {cm : RL} {a : Nat} {M : KM} (hW : TXR W) (hrb : rb < 2) (h : MX W n rb bs s (tp ++ [(7, y)] ++ pend) cm (a + 1 + nots pend) M) (hl : (tp ++ [(7, y)] ++ pend).length ≤ 80) (hp : ∀ x, x ∈ pend → (0 : Int) ≤ x.1 ∧ x.1 ≤ 6) (hc : bs + (cm ++ emd pend).length ≤ 560 * rb + 560) (hwi : a + 1 + nots pend < 1000) (hr : rkK (kdJ W n s.1) = 0) :
    Ret (f_M_behindUnit M) (fun q => q.1 = 0 ∧ (if kdJ W n s.1 = 41 then MX W n rb bs (nxS s) tp (cm ++ emd pend) a q.2 else fM (f2 W n s.1) (plS W n s.1) q.2) ∧ Fp (pExm rb bs) M q.2) := by
  rw [behind_e, M_rankHere h.1, ob_some, hr]
  refine Ret.f (by decide) ?_
  refine Ret.bind (MX_red (r := 0) hrb h (by omega) hp (Or.inr (Int.le_refl _)) hc hwi) ?_
  rintro e8 ⟨a1, a2⟩
  obtain ⟨⟨p1, p2⟩, p3, p4, p5⟩ := MX_pop a1
  have hl1 : tp.length + 1 ≤ 80 := by rw [List.length_append, List.length_append] at hl; have : [((7 : Int), y)].length = 1 := rfl; omega
  unfold behK
  refine Ret.t (Int.le_refl _) ?_
  rw [p3, w32e (by omega) (by omega), show (tp.length : Int) + 1 - 1 = (tp.length : Int) by omega]
  have e41 : mupd e8 382 41 (tp.length : Int) 382 41 = (tp.length : Int) := mupd_same _ _ _ _
  have e408 : mupd e8 382 41 (tp.length : Int) 408 tp.length = 7 := by rw [mupd_ne _ _ (by omega)]; exact p4
  generalize mupd e8 382 41 (tp.length : Int) = M9 at p1 p2 e41 e408
  refine Ret.letM ?_
  rw [e41, Int.toNat_natCast, e408, p1.2.2.2.2, w32e (by omega) (by omega), show ((a + 1 : Nat) : Int) - 1 = (a : Int) by omega]
  have hw := MX_w p1 a
  refine Ret.t (by omega) ?_
  refine Ret.bind (R := fun t => (if kdJ W n s.1 = 41 then MX W n rb bs (nxS s) tp (cm ++ emd pend) a t else fM (f2 W n s.1) (plS W n s.1) t) ∧ Fp (pExm rb bs) M t) ?_ (fun t ht => Ret.pure ⟨rfl, ht.1, ht.2⟩)
  refine Ret.t rfl ?_
  generalize mupd M9 382 40 (a : Int) = M10 at hw
  refine Ret.letM ?_
  rw [M_isSignHere hw.1.1 (c := 41) (by decide), ob_some]
  have frm := (a2.tr p2).tr hw.2
  refine Ret.bind (R := fun t => (if kdJ W n s.1 = 41 then MX W n rb bs (nxS s) tp (cm ++ emd pend) a t else fM (f2 W n s.1) (plS W n s.1) t) ∧ Fp (pExm rb bs) M t) ?_ (fun t ht => Ret.pure ht)
  by_cases h41 : kdJ W n s.1 = 41
  · rw [if_pos h41]
    unfold f_M_must
    rw [M_isGood, ob_some, hw.1.1.2.2]
    refine Ret.f (by decide) ?_
    refine Ret.bind (R := fun t => MX W n rb bs (nxS s) tp (cm ++ emd pend) a t ∧ Fp (pExm rb bs) M t) (Ret.f (by decide) (Ret.bind (MX_go hw.1 hW) fun t ht => Ret.pure ⟨ht.1, frm.tr ht.2⟩)) (fun t ht => Ret.pure (by rw [if_pos h41]; exact ht))
  · rw [if_neg h41]
    refine (M_must hw.1.1 hW (c := False)).mono ?_
    rintro t ⟨t1, t2⟩
    rw [if_neg h41]
    rw [if_neg (fun z => z)] at t1
    exact ⟨t1, frm.tr (t2.mono pTm_E)⟩
/-- .. the rule's end -/
theorem M_beh_all {W : Nat → Int} {n rb bs : Nat} {s : PSt} {pend : STK} {cm : RL} {a : Nat} {M : KM} (hrb : rb < 2) (h : MX W n rb bs s ([(8, 0)] ++ pend) cm (a + nots pend) M) (hl : ([((8 : Int), (0 : Int))] ++ pend).length ≤ 80) (hp : ∀ x, x ∈ pend → (0 : Int) ≤ x.1 ∧ x.1 ≤ 6) (hc : bs + (cm ++ emd pend).length ≤ 560 * rb + 560) (hwi : a + nots pend < 1000) (hr : rkK (kdJ W n s.1) = 0) :
    Ret (f_M_behindUnit M) (fun q => q.1 = 0 ∧ MX W n rb bs s [] (cm ++ emd pend) a q.2 ∧ Fp (pExm rb bs) M q.2) := by
  rw [behind_e, M_rankHere h.1, ob_some, hr]
  refine Ret.f (by decide) ?_
  refine Ret.bind (MX_red (r := 0) (tp := []) (e := (8, 0)) hrb h (by show ([((8 : Int), (0 : Int))] ++ pend).length ≤ 90; omega) hp (Or.inr (by decide)) hc hwi) ?_
  rintro e8 ⟨a1, a2⟩
  obtain ⟨⟨p1, p2⟩, p3, p4, p5⟩ := MX_pop a1
  unfold behK
  refine Ret.t (Int.le_refl _) ?_
  have p3 : e8 382 41 = 0 + 1 := p3
  have p4 : e8 408 0 = 8 := p4
  rw [p3, w32e (by omega) (by omega)]
  have e41 : mupd e8 382 41 (([] : STK).length : Int) 382 41 = 0 := mupd_same _ _ _ _
  have e408 : mupd e8 382 41 (([] : STK).length : Int) 408 0 = 8 := by rw [mupd_ne _ _ (by omega)]; exact p4
  rw [show (0 : Int) + 1 - 1 = (([] : STK).length : Int) by rfl]
  generalize mupd e8 382 41 (([] : STK).length : Int) = M9 at p1 p2 e41 e408
  refine Ret.letM ?_
  rw [e41, show (0 : Int).toNat = 0 by rfl, e408]
  refine Ret.t (by omega) ?_
  refine Ret.bind (R := fun t => t = M9) (Ret.f (by decide) (Ret.pure rfl)) ?_
  rintro t rfl
  exact Ret.pure ⟨rfl, p1, a2.tr p2⟩
/-! a unit -/
def lfI (W : Nat → Int) (n j : Nat) : Prop := lfK W n j = none
theorem wH_lf {W : Nat → Int} {n j : Nat} : (wH (kdJ W n j) = 0 ∧ ¬ kdJ W n j = 2 ↔ lfK W n j = none) ∧ ∀ q, lfK W n j = some q → q = ((if wH (kdJ W n j) = 0 then 110 else wH (kdJ W n j)), (if wH (kdJ W n j) = 0 then tkV W n (plS W n j) else 0)) ∧ (wH (kdJ W n j) = 0 → kdJ W n j = 2) := by
  unfold wH lfK
  by_cases h2 : kdJ W n j = 2
  · rw [h2]
    constructor
    · constructor
      · intro z; exact absurd rfl z.2
      · intro z; cases z
    · intro q hq; cases hq; exact ⟨rfl, fun _ => rfl⟩
  · rw [if_neg h2]
    by_cases h129 : kdJ W n j = 129
    · rw [if_pos h129, if_pos h129]
      exact ⟨⟨fun z => absurd z.1 (by decide), fun z => by cases z⟩, fun q hq => by cases hq; exact ⟨rfl, fun z => absurd z (by decide)⟩⟩
    · rw [if_neg h129, if_neg h129]
      by_cases h130 : kdJ W n j = 130
      · rw [if_pos h130, if_pos h130]
        exact ⟨⟨fun z => absurd z.1 (by decide), fun z => by cases z⟩, fun q hq => by cases hq; exact ⟨rfl, fun z => absurd z (by decide)⟩⟩
      · rw [if_neg h130, if_neg h130]
        by_cases h143 : kdJ W n j = 143
        · rw [if_pos h143, if_neg (show ¬ kdJ W n j = 132 by omega), if_pos h143]
          exact ⟨⟨fun z => absurd z.1 (by decide), fun z => by cases z⟩, fun q hq => by cases hq; exact ⟨rfl, fun z => absurd z (by decide)⟩⟩
        · rw [if_neg h143, if_neg h143]
          by_cases h132 : kdJ W n j = 132
          · rw [if_pos h132, if_pos h132]
            exact ⟨⟨fun z => absurd z.1 (by decide), fun z => by cases z⟩, fun q hq => by cases hq; exact ⟨rfl, fun z => absurd z (by decide)⟩⟩
          · rw [if_neg h132, if_neg h132]
            exact ⟨⟨fun _ => rfl, fun _ => ⟨rfl, h2⟩⟩, fun q hq => by cases hq⟩
def beg (e : Int × Int) : Prop := e.1 ≤ 3 ∨ 7 ≤ e.1
/-- what a unit does: t3 a "not", q4 a bracket, q5 a word, t6 all units told -/
noncomputable def untM (t3 q4 q5 t6 : Int) (M : KM) : Option (Int × KM) := Option.bind ((if t3 = (0 : Int) then (if q5 = (0 : Int) then (if M 382 8 = (4 : Int) then (if t6 = (0 : Int) then (if t3 = (0 : Int) then (if q4 = (0 : Int) then some M else (if M 382 40 = (7 : Int) then Option.bind (f_M_misplaced M) (fun q7 => some q7) else some M)) else (if M 382 40 = (7 : Int) then Option.bind (f_M_misplaced M) (fun q8 => some q8) else some M)) else Option.bind (f_M_misplaced M) (fun q9 => some q9)) else (if q4 = (0 : Int) then Option.bind (f_M_misplaced M) (fun q10 => some q10) else (if t6 = (0 : Int) then (if t3 = (0 : Int) then (if q4 = (0 : Int) then some M else (if M 382 40 = (7 : Int) then Option.bind (f_M_misplaced M) (fun q11 => some q11) else some M)) else (if M 382 40 = (7 : Int) then Option.bind (f_M_misplaced M) (fun q12 => some q12) else some M)) else Option.bind (f_M_misplaced M) (fun q13 => some q13)))) else (if t6 = (0 : Int) then (if t3 = (0 : Int) then (if q4 = (0 : Int) then some M else (if M 382 40 = (7 : Int) then Option.bind (f_M_misplaced M) (fun q14 => some q14) else some M)) else (if M 382 40 = (7 : Int) then Option.bind (f_M_misplaced M) (fun q15 => some q15) else some M)) else Option.bind (f_M_misplaced M) (fun q16 => some q16))) else (if t3 = (0 : Int) then (if q4 = (0 : Int) then some M else (if M 382 40 = (7 : Int) then Option.bind (f_M_misplaced M) (fun q17 => some q17) else some M)) else (if M 382 40 = (7 : Int) then Option.bind (f_M_misplaced M) (fun q18 => some q18) else some M))) : Option (KM)) (fun t19 => Option.bind (f_M_isGood t19) (fun q20 => (if q20 = (0 : Int) then some ((1 : Int), t19) else (if 0 ≤ t19 382 38 ∧ t19 382 38 < 2 then Option.bind ((if t3 = (0 : Int) then some (1 : Int) else some (0 : Int)) : Option (Int)) (fun t21 => (if 0 ≤ t19 382 38 ∧ t19 382 38 < 2 then letM_ (mupd t19 388 (t19 382 38).toNat (w32 ((t19 388 (t19 382 38).toNat) + t21))) (fun M22 => Option.bind ((if t3 = (0 : Int) then some (1 : Int) else some (0 : Int)) : Option (Int)) (fun t23 => letM_ (mupd M22 382 42 (w32 ((M22 382 42) + t23))) (fun M24 => Option.bind ((if q5 = (0 : Int) then some (M24 382 9) else some (0 : Int)) : Option (Int)) (fun t25 => Option.bind (f_M_goOn M24) (fun q26 => (if t3 = (0 : Int) then (if q4 = (0 : Int) then Option.bind ((if q5 = (0 : Int) then some (110 : Int) else some q5) : Option (Int)) (fun t27 => Option.bind (f_M_emit t27 t25 q26) (fun q28 => some ((0 : Int), q28))) else J_M_unit_222 M t3 q26) else J_M_unit_222 M t3 q26)))))) else none)) else none))))
def qNot (W : Nat → Int) (n j : Nat) (e : Int × Int) (t3 : Int) : Prop := (t3 = 1 ∧ beg e ∧ kdJ W n j = 142) ∨ (t3 = 0 ∧ ¬ (beg e ∧ kdJ W n j = 142))
def qFull (s : PSt) (t6 : Int) : Prop := (t6 = 0 ∧ s.2.1 < 30 ∧ s.2.2.1 < 60) ∨ (t6 = 1 ∧ ¬ (s.2.1 < 30 ∧ s.2.2.1 < 60))
theorem M_unit_e {W : Nat → Int} {n rb bs : Nat} {s : PSt} {tp : STK} {e : Int × Int} {cm : RL} {wi : Nat} {M : KM} (hrb : rb < 2) (h : MX W n rb bs s (tp ++ [e]) cm wi M) (hl : (tp ++ [e]).length ≤ 80) (hU : s.2.2.1 ≤ 60) (hu : s.2.1 ≤ 30) : ∃ t3 t6, qNot W n s.1 e t3 ∧ qFull s t6 ∧ f_M_unit M = untM t3 (if kdJ W n s.1 = 40 then 1 else 0) (wH (kdJ W n s.1)) t6 M := by
  have h' := h
  obtain ⟨h1, ⟨a1, a2, a3⟩, ⟨b1, b2⟩, ⟨c1, c2⟩, d1⟩ := h
  obtain ⟨-, p3, p4, -⟩ := MX_pop h'
  have hl1 : tp.length + 1 ≤ 80 := by rw [List.length_append] at hl; exact hl
  have key : Ret (f_M_unit M) (fun r => ∃ t3 t6, qNot W n s.1 e t3 ∧ qFull s t6 ∧ f_M_unit M = untM t3 (if kdJ W n s.1 = 40 then 1 else 0) (wH (kdJ W n s.1)) t6 M) ∨ ∃ t3 t6, qNot W n s.1 e t3 ∧ qFull s t6 ∧ f_M_unit M = untM t3 (if kdJ W n s.1 = 40 then 1 else 0) (wH (kdJ W n s.1)) t6 M := by
    refine Or.inr ?_
    -- the "not"
    have n1 : ∃ t1 : Int, (t1 = 1 ∧ beg e ∨ t1 = 0 ∧ ¬ beg e) ∧ (if M 408 tp.length ≤ (3 : Int) then some (1 : Int) else (if 0 ≤ (tp.length : Int) ∧ (tp.length : Int) < 90 then (if M 408 tp.length < (7 : Int) then some (0 : Int) else some (1 : Int)) else none)) = some t1 := by
      rw [p4]
      unfold beg
      by_cases g1 : e.1 ≤ 3
      · exact ⟨1, Or.inl ⟨rfl, Or.inl g1⟩, if_pos g1⟩
      · by_cases g2 : e.1 < 7
        · exact ⟨0, Or.inr ⟨rfl, by omega⟩, by rw [if_neg g1, if_pos (by omega), if_pos g2]⟩
        · exact ⟨1, Or.inl ⟨rfl, by omega⟩, by rw [if_neg g1, if_pos (by omega), if_neg g2]⟩
    obtain ⟨t1, n2, n3⟩ := n1
    have n4 : ∃ t3 : Int, qNot W n s.1 e t3 ∧ (if t1 = (0 : Int) then some (0 : Int) else Option.bind (f_M_isWord (7237492 : Int) M) (fun q2 => (if q2 = (0 : Int) then some (0 : Int) else some (1 : Int)))) = some t3 := by
      rw [M_isWord h1 (i := 14) (u := [110, 111, 116]) rfl (by decide), ob_some]
      unfold qNot
      rcases n2 with ⟨g1, g2⟩ | ⟨g1, g2⟩
      · rw [if_neg (by omega)]
        by_cases g3 : kdJ W n s.1 = 142
        · rw [if_pos (show kdJ W n s.1 = 128 + ((14 : Nat) : Int) by omega)]
          exact ⟨1, Or.inl ⟨rfl, g2, g3⟩, by rw [if_neg (by decide)]⟩
        · rw [if_neg (show ¬ kdJ W n s.1 = 128 + ((14 : Nat) : Int) by omega)]
          exact ⟨0, Or.inr ⟨rfl, fun q => g3 q.2⟩, by rw [if_pos rfl]⟩
      · exact ⟨0, Or.inr ⟨rfl, fun q => g2 q.1⟩, by rw [if_pos g1]⟩
    obtain ⟨t3, n5, n6⟩ := n4
    have n7 : ∃ t6 : Int, qFull s t6 ∧ (if M 388 rb = (60 : Int) then some (1 : Int) else (if M 382 42 = (30 : Int) then some (1 : Int) else some (0 : Int))) = some t6 := by
      rw [a2, a3]
      unfold qFull
      by_cases g1 : (s.2.2.1 : Int) = 60
      · exact ⟨1, Or.inr ⟨rfl, by omega⟩, if_pos g1⟩
      · by_cases g2 : (s.2.1 : Int) = 30
        · exact ⟨1, Or.inr ⟨rfl, by omega⟩, by rw [if_neg g1, if_pos g2]⟩
        · exact ⟨0, Or.inl ⟨rfl, by omega, by omega⟩, by rw [if_neg g1, if_neg g2]⟩
    obtain ⟨t6, n8, n9⟩ := n7
    refine ⟨t3, t6, n5, n8, ?_⟩
    unfold f_M_unit
    rw [p3, w32e (n := (tp.length : Int) + 1 - 1) (by omega) (by omega), show (tp.length : Int) + 1 - 1 = (tp.length : Int) by omega, Int.toNat_natCast, if_pos (by omega), n3, ob_some, n6, ob_some, M_isSignHere h1 (c := 40) (by decide), ob_some, M_wordHere h1, ob_some, a1, Int.toNat_natCast, if_pos (by omega), n9, ob_some]
    rfl
  rcases key with ⟨r, _, k⟩ | k
  · exact k
  · exact k
/-- no unit can stand here -/
theorem M_unit_flt {W : Nat → Int} {n rb bs : Nat} {s : PSt} {tp : STK} {e : Int × Int} {cm : RL} {wi : Nat} {M : KM} (hrb : rb < 2) (h : MX W n rb bs s (tp ++ [e]) cm wi M) (hl : (tp ++ [e]).length ≤ 80) (hU : s.2.2.1 ≤ 60) (hu : s.2.1 ≤ 30) (hwi : wi ≤ 7)
    (hc : (beg e ∧ kdJ W n s.1 = 142 ∧ wi = 7) ∨ (¬ (beg e ∧ kdJ W n s.1 = 142) ∧ ((lfK W n s.1 = none ∧ ¬ (kdJ W n s.1 = 40 ∧ wi ≤ 6)) ∨ ¬ (s.2.1 < 30 ∧ s.2.2.1 < 60)))) :
    Ret (f_M_unit M) (fun q => q.1 = 1 ∧ fM (f2 W n s.1) (plS W n s.1) q.2 ∧ Fp (pExm rb bs) M q.2) := by
  obtain ⟨t3, t6, q3, q6, he⟩ := M_unit_e hrb h hl hU hu
  rw [he]
  have wl := wH_lf (W := W) (n := n) (j := s.1)
  obtain ⟨h1, ⟨a1, a2, a3⟩, ⟨b1, b2⟩, ⟨c1, c2⟩, d1⟩ := h
  have t4 := tkT_4 W n (plS W n s.1)
  have p3 := h1.2.1.2.2.1
  have mis : Ret (Option.bind (f_M_misplaced M) (fun q => some q)) (fun t => fM (f2 W n s.1) (plS W n s.1) t ∧ Fp (pExm rb bs) M t) := Ret.bind (M_misplaced h1) fun q hq => Ret.pure ⟨hq.1, hq.2.mono pFm_E⟩
  unfold untM
  rw [d1, p3]
  refine Ret.bind (R := fun t => fM (f2 W n s.1) (plS W n s.1) t ∧ Fp (pExm rb bs) M t) ?_ ?_
  · unfold qNot at q3
    unfold qFull at q6
    rcases hc with ⟨g1, g2, g3⟩ | ⟨g1, g2⟩
    · have z : t3 = 1 := by
        rcases q3 with q3 | q3
        · exact q3.1
        · exact absurd ⟨g1, g2⟩ q3.2
      refine Ret.f (by omega) (Ret.f (by omega) (Ret.t (by omega) mis))
    · have z : t3 = 0 := by
        rcases q3 with q3 | q3
        · exact absurd q3.2 g1
        · exact q3.1
      refine Ret.t z ?_
      have brk : kdJ W n s.1 = 40 → ¬ (wi ≤ 6) → t6 = 0 → Ret (if t6 = (0 : Int) then (if t3 = (0 : Int) then (if (if kdJ W n s.1 = 40 then (1 : Int) else 0) = (0 : Int) then some M else (if (wi : Int) = (7 : Int) then Option.bind (f_M_misplaced M) (fun q => some q) else some M)) else (if (wi : Int) = (7 : Int) then Option.bind (f_M_misplaced M) (fun q => some q) else some M)) else Option.bind (f_M_misplaced M) (fun q => some q)) (fun t => fM (f2 W n s.1) (plS W n s.1) t ∧ Fp (pExm rb bs) M t) := fun e1 e2 e3 => Ret.t e3 (Ret.t z (Ret.f (by rw [if_pos e1]; decide) (Ret.t (by omega) mis)))
      refine Ret.br (fun w0 => Ret.br (fun k4 => ?_) fun k4 => Ret.br (fun _ => mis) fun k40 => ?_) fun w1 => ?_
      · -- a number
        rcases g2 with ⟨g2, g3⟩ | g2
        · exact absurd (t4.mp k4) (wl.1.mpr g2).2
        · exact Ret.f (by omega) mis
      · have e40 : kdJ W n s.1 = 40 := Classical.byContradiction fun q => k40 (if_neg q)
        rcases q6 with q6 | q6
        · rcases g2 with ⟨g2, g3⟩ | g2
          · exact brk e40 (fun q => g3 ⟨e40, q⟩) q6.1
          · exact absurd q6.2 g2
        · exact Ret.f (by omega) mis
      · rcases g2 with ⟨g2, g3⟩ | g2
        · exact absurd (wl.1.mpr g2).1 w1
        · exact Ret.f (by omega) mis
  · rintro t ⟨z1, z2⟩
    rw [M_isGood, ob_some, if_neg (fM_bad z1 (by have := f2_R W n s.1; omega))]
    exact Ret.t rfl (Ret.pure ⟨rfl, z1, z2⟩)
/-- a number, a word -/
theorem M_unit_leaf {W : Nat → Int} {n rb bs : Nat} {s : PSt} {tp : STK} {e : Int × Int} {cm : RL} {wi : Nat} {M : KM} (hW : TXR W) (hrb : rb < 2) (h : MX W n rb bs s (tp ++ [e]) cm wi M) (hl : (tp ++ [e]).length ≤ 80) (hU : s.2.2.1 < 60) (hu : s.2.1 < 30) {q : Int × Int} (hq : lfK W n s.1 = some q) (hk : kdJ W n s.1 ≠ 40 ∧ kdJ W n s.1 ≠ 142) (hc : bs + cm.length < 560 * rb + 560) :
    Ret (f_M_unit M) (fun r => r.1 = 0 ∧ MX W n rb bs (nxS (s.1, s.2.1 + 1, s.2.2.1 + 1, s.2.2.2)) (tp ++ [e]) (cm ++ [q]) wi r.2 ∧ Fp (pExm rb bs) M r.2) := by
  obtain ⟨t3, t6, q3, q6, he⟩ := M_unit_e hrb h hl (by omega) (by omega)
  rw [he]
  have wl := wH_lf (W := W) (n := n) (j := s.1)
  have w2 := wl.2 q hq
  have hu2 := MX_units h 1
  obtain ⟨h1, ⟨a1, a2, a3⟩, ⟨b1, b2⟩, ⟨c1, c2⟩, d1⟩ := h
  have t4 := tkT_4 W n (plS W n s.1)
  have p3 := h1.2.1.2.2.1
  have z3 : t3 = 0 := by
    rcases q3 with q3 | q3
    · exact absurd q3.2.2 hk.2
    · exact q3.1
  have z6 : t6 = 0 := by
    rcases q6 with q6 | q6
    · exact q6.1
    · exact absurd ⟨hu, hU⟩ q6.2
  subst z3 z6
  unfold untM
  rw [p3, if_neg hk.1]
  have good3 : Ret (if (0 : Int) = (0 : Int) then (if (0 : Int) = (0 : Int) then (if (0 : Int) = (0 : Int) then some M else (if M 382 40 = (7 : Int) then Option.bind (f_M_misplaced M) (fun q => some q) else some M)) else (if M 382 40 = (7 : Int) then Option.bind (f_M_misplaced M) (fun q => some q) else some M)) else Option.bind (f_M_misplaced M) (fun q => some q)) (fun t => t = M) := Ret.t rfl (Ret.t rfl (Ret.t rfl (Ret.pure rfl)))
  refine Ret.bind (R := fun t => t = M) (Ret.t rfl (Ret.br (fun w0 => Ret.t (t4.mpr (w2.2 w0)) good3) fun w1 => good3)) ?_
  rintro t rfl
  rw [M_isGood, ob_some, h1.2.2, a1, Int.toNat_natCast, a2]
  refine Ret.f (by decide) (Ret.t (by omega) ?_)
  refine Ret.bind (R := fun y => y = 1) (Ret.t rfl (Ret.pure rfl)) ?_
  rintro y rfl
  refine Ret.t (by omega) ?_
  rw [w32e (n := (s.2.2.1 : Int) + 1) (by omega) (by omega)]
  refine Ret.letM ?_
  refine Ret.bind (R := fun y => y = 1) (Ret.t rfl (Ret.pure rfl)) ?_
  rintro y rfl
  have e42 : mupd t 388 rb ((s.2.2.1 : Int) + 1) 382 42 = (s.2.1 : Int) := by rw [mupd_ne _ _ (by omega)]; exact a3
  rw [e42, w32e (n := (s.2.1 : Int) + 1) (by omega) (by omega)]
  have hu2' : MX W n rb bs (s.1, s.2.1 + 1, s.2.2.1 + 1, s.2.2.2) (tp ++ [e]) cm wi (mupd (mupd t 388 rb ((s.2.2.1 : Int) + 1)) 382 42 ((s.2.1 : Int) + 1)) ∧ Fp (pExm rb bs) t (mupd (mupd t 388 rb ((s.2.2.1 : Int) + 1)) 382 42 ((s.2.1 : Int) + 1)) := hu2
  have e9 : mupd (mupd t 388 rb ((s.2.2.1 : Int) + 1)) 382 42 ((s.2.1 : Int) + 1) 382 9 = t 382 9 := by rw [mupd_ne2 _ _ (by omega), mupd_ne _ _ (by omega)]
  generalize mupd (mupd t 388 rb ((s.2.2.1 : Int) + 1)) 382 42 ((s.2.1 : Int) + 1) = M24 at hu2' e9
  refine Ret.letM ?_
  rw [e9]
  refine Ret.bind (R := fun y => y = q.2) ?_ ?_
  · rw [w2.1]
    refine Ret.br (fun w0 => Ret.pure ?_) fun w1 => Ret.pure ?_
    · dsimp only
      rw [if_pos w0]
      exact h1.2.1.2.2.2.1 (w2.2 w0)
    · dsimp only
      rw [if_neg w1]
  rintro y rfl
  refine Ret.bind (MX_go hu2'.1 hW) ?_
  rintro q26 ⟨g1, g2⟩
  refine Ret.t rfl (Ret.t rfl ?_)
  refine Ret.bind (R := fun y => y = q.1) ?_ ?_
  · rw [w2.1]
    refine Ret.br (fun w0 => Ret.pure ?_) fun w1 => Ret.pure ?_
    · dsimp only; rw [if_pos w0]
    · dsimp only; rw [if_neg w1]
  rintro y rfl
  refine Ret.bind (MX_emit g1 hrb hc q.1 q.2) ?_
  rintro q28 ⟨i1, i2⟩
  exact Ret.pure ⟨rfl, i1, (hu2'.2.tr g2).tr i2⟩
/-- a "not", a bracket -/
theorem M_unit_open {W : Nat → Int} {n rb bs : Nat} {s : PSt} {tp : STK} {e : Int × Int} {cm : RL} {wi : Nat} {M : KM} (hW : TXR W) (hrb : rb < 2) (h : MX W n rb bs s (tp ++ [e]) cm wi M) (hl : (tp ++ [e]).length ≤ 80) (hU : s.2.2.1 ≤ 60) (hu : s.2.1 ≤ 30) (hwi : wi ≤ 6)
    (hc : (beg e ∧ kdJ W n s.1 = 142) ∨ (kdJ W n s.1 = 40 ∧ s.2.1 < 30 ∧ s.2.2.1 < 60)) :
    Ret (f_M_unit M) (fun r => r.1 = 1 ∧ (if kdJ W n s.1 = 142 then MX W n rb bs (nxS s) (tp ++ [e] ++ [(3, 126)]) cm (wi + 1) r.2 else MX W n rb bs (nxS (s.1, s.2.1 + 1, s.2.2.1 + 1, s.2.2.2)) (tp ++ [e] ++ [(7, 126)]) cm (wi + 1) r.2) ∧ Fp (pExm rb bs) M r.2) := by
  obtain ⟨t3, t6, q3, q6, he⟩ := M_unit_e hrb h hl hU hu
  rw [he]
  have wl := wH_lf (W := W) (n := n) (j := s.1)
  have h' := h
  obtain ⟨h1, ⟨a1, a2, a3⟩, ⟨b1, b2⟩, ⟨c1, c2⟩, d1⟩ := h
  have t4 := tkT_4 W n (plS W n s.1)
  have p3 := h1.2.1.2.2.1
  -- what is common behind the question
  have tail : ∀ (d : Nat) (sg : Int) (rr : Int), (t3 = 0 ∧ d = 1 ∧ rr = 7 ∧ kdJ W n s.1 = 40 ∨ t3 = 1 ∧ d = 0 ∧ rr = 3) → d ≤ 1 → Ret (Option.bind (f_M_isGood M) (fun q20 => (if q20 = (0 : Int) then some ((1 : Int), M) else (if 0 ≤ M 382 38 ∧ M 382 38 < 2 then Option.bind ((if t3 = (0 : Int) then some (1 : Int) else some (0 : Int)) : Option (Int)) (fun t21 => (if 0 ≤ M 382 38 ∧ M 382 38 < 2 then letM_ (mupd M 388 (M 382 38).toNat (w32 ((M 388 (M 382 38).toNat) + t21))) (fun M22 => Option.bind ((if t3 = (0 : Int) then some (1 : Int) else some (0 : Int)) : Option (Int)) (fun t23 => letM_ (mupd M22 382 42 (w32 ((M22 382 42) + t23))) (fun M24 => Option.bind ((if wH (kdJ W n s.1) = (0 : Int) then some (M24 382 9) else some (0 : Int)) : Option (Int)) (fun t25 => Option.bind (f_M_goOn M24) (fun q26 => (if t3 = (0 : Int) then (if (if kdJ W n s.1 = 40 then (1 : Int) else 0) = (0 : Int) then Option.bind ((if wH (kdJ W n s.1) = (0 : Int) then some (110 : Int) else some (wH (kdJ W n s.1))) : Option (Int)) (fun t27 => Option.bind (f_M_emit t27 t25 q26) (fun q28 => some ((0 : Int), q28))) else J_M_unit_222 M t3 q26) else J_M_unit_222 M t3 q26)))))) else none)) else none))))
      (fun r => r.1 = 1 ∧ MX W n rb bs (nxS (s.1, s.2.1 + d, s.2.2.1 + d, s.2.2.2)) (tp ++ [e] ++ [(rr, 126)]) cm (wi + 1) r.2 ∧ Fp (pExm rb bs) M r.2) := by
    intro d sg rr hd hd1
    have hu2 := MX_units h' d
    rw [M_isGood, ob_some, h1.2.2, a1, Int.toNat_natCast, a2]
    refine Ret.f (by decide) (Ret.t (by omega) ?_)
    refine Ret.bind (R := fun y => y = (d : Int)) (Ret.br (fun z => Ret.pure (by omega)) fun z => Ret.pure (by omega)) ?_
    rintro y rfl
    refine Ret.t (by omega) ?_
    rw [w32e (n := (s.2.2.1 : Int) + d) (by omega) (by omega)]
    refine Ret.letM ?_
    refine Ret.bind (R := fun y => y = (d : Int)) (Ret.br (fun z => Ret.pure (by omega)) fun z => Ret.pure (by omega)) ?_
    rintro y rfl
    have e42 : mupd M 388 rb ((s.2.2.1 : Int) + d) 382 42 = (s.2.1 : Int) := by rw [mupd_ne _ _ (by omega)]; exact a3
    rw [e42, w32e (n := (s.2.1 : Int) + d) (by omega) (by omega)]
    have hu2' : MX W n rb bs (s.1, s.2.1 + d, s.2.2.1 + d, s.2.2.2) (tp ++ [e]) cm wi (mupd (mupd M 388 rb ((s.2.2.1 : Int) + d)) 382 42 ((s.2.1 : Int) + d)) ∧ Fp (pExm rb bs) M (mupd (mupd M 388 rb ((s.2.2.1 : Int) + d)) 382 42 ((s.2.1 : Int) + d)) := by
      rw [show ((s.2.2.1 : Int) + d) = ((s.2.2.1 + d : Nat) : Int) by omega, show ((s.2.1 : Int) + d) = ((s.2.1 + d : Nat) : Int) by omega]
      exact hu2
    generalize mupd (mupd M 388 rb ((s.2.2.1 : Int) + d)) 382 42 ((s.2.1 : Int) + d) = M24 at hu2'
    refine Ret.letM ?_
    refine Ret.bind (R := fun _ => True) (Ret.br (fun _ => Ret.pure trivial) fun _ => Ret.pure trivial) ?_
    rintro t25 -
    refine Ret.bind (MX_go hu2'.1 hW) ?_
    rintro q26 ⟨g1, g2⟩
    have go : Ret (J_M_unit_222 M t3 q26) (fun r => r.1 = 1 ∧ MX W n rb bs (nxS (s.1, s.2.1 + d, s.2.2.1 + d, s.2.2.2)) (tp ++ [e] ++ [(rr, 126)]) cm (wi + 1) r.2 ∧ Fp (pExm rb bs) M r.2) := by
      unfold J_M_unit_222
      refine Ret.bind (R := fun y => y = rr) (Ret.br (fun z => Ret.pure (by omega)) fun z => Ret.pure (by omega)) ?_
      rintro y rfl
      refine Ret.bind (MX_push g1 (by omega) y 126) ?_
      rintro q32 ⟨i1, i2⟩
      rw [i1.2.2.2.2, w32e (by omega) (by omega)]
      have hw := MX_w i1 (wi + 1)
      exact Ret.letM (Ret.pure ⟨rfl, hw.1, ((hu2'.2.tr g2).tr i2).tr hw.2⟩)
    refine Ret.br (fun z => Ret.f ?_ go) fun _ => go
    rw [if_pos (by omega)]; decide
  unfold untM
  rw [d1, p3]
  have ok7 : ∀ {x : Option KM}, Ret (if (wi : Int) = (7 : Int) then x else some M) (fun t => t = M) := fun {x} => Ret.f (by omega) (Ret.pure rfl)
  refine Ret.bind (R := fun t => t = M) ?_ ?_
  · rcases hc with ⟨g1, g2⟩ | ⟨g1, g2, g3⟩
    · have z : t3 = 1 := by
        rcases q3 with q3 | q3
        · exact q3.1
        · exact absurd ⟨g1, g2⟩ q3.2
      exact Ret.f (by omega) (Ret.f (by omega) ok7)
    · have z : t3 = 0 := by
        rcases q3 with q3 | q3
        · omega
        · exact q3.1
      have z6 : t6 = 0 := by
        rcases q6 with q6 | q6
        · exact q6.1
        · exact absurd ⟨g2, g3⟩ q6.2
      have e40 : (if kdJ W n s.1 = 40 then (1 : Int) else 0) = 1 := if_pos g1
      have wn : lfK W n s.1 = none := by unfold lfK; rw [if_neg (by omega), if_neg (by omega), if_neg (by omega), if_neg (by omega), if_neg (by omega)]
      have w0 := wl.1.mpr wn
      refine Ret.t z (Ret.t w0.1 (Ret.f (fun q => w0.2 (t4.mp q)) (Ret.f (by omega) (Ret.t z6 (Ret.t z (Ret.f (by omega) ok7))))))
  · rintro t rfl
    rcases hc with ⟨g1, g2⟩ | ⟨g1, g2, g3⟩
    · have z : t3 = 1 := by
        rcases q3 with q3 | q3
        · exact q3.1
        · exact absurd ⟨g1, g2⟩ q3.2
      refine (tail 0 0 3 (Or.inr ⟨z, rfl, rfl⟩) (by omega)).mono ?_
      rintro r ⟨r1, r2, r3⟩
      rw [if_pos g2]
      exact ⟨r1, r2, r3⟩
    · have z : t3 = 0 := by
        rcases q3 with q3 | q3
        · omega
        · exact q3.1
      refine (tail 1 0 7 (Or.inl ⟨z, rfl, rfl, g1⟩) (by omega)).mono ?_
      rintro r ⟨r1, r2, r3⟩
      rw [if_neg (by omega)]
      exact ⟨r1, r2, r3⟩
