/-! RULES in the text: what the second side does with a token -/
abbrev STK : Type := List (Int × Int)
def opn (L : STK) : Nat := L.countP fun e => decide (e.1 ≤ 6)
def nots (L : STK) : Nat := L.countP fun e => decide (e.1 = 3)
def emd (L : STK) : RL := L.reverse.map fun e => (e.2, 0)
theorem emd_c (e : Int × Int) (L : STK) : emd (e :: L) = emd L ++ [(e.2, 0)] := by unfold emd; rw [List.reverse_cons, List.map_append]; rfl
theorem opn_app (A B : STK) : opn (A ++ B) = opn A + opn B := List.countP_append
theorem nots_app (A B : STK) : nots (A ++ B) = nots A + nots B := List.countP_append
theorem opn_1 (e : Int × Int) : opn [e] = if e.1 ≤ 6 then 1 else 0 := by unfold opn; rw [List.countP_cons, List.countP_nil]; simp
theorem nots_1 (e : Int × Int) : nots [e] = if e.1 = 3 then 1 else 0 := by unfold nots; rw [List.countP_cons, List.countP_nil]; simp
theorem nots_c (e : Int × Int) (L : STK) : nots (e :: L) = nots L + if e.1 = 3 then 1 else 0 := by unfold nots; rw [List.countP_cons]; simp
def MX (W : Nat → Int) (n rb bs : Nat) (s : PSt) (stk : STK) (cm : RL) (wi : Nat) (M : KM) : Prop := RM W n s.1 M ∧ (M 382 38 = (rb : Int) ∧ M 388 rb = (s.2.2.1 : Int) ∧ M 382 42 = (s.2.1 : Int)) ∧ (M 382 39 = ((bs + cm.length : Nat) : Int) ∧ ∀ i q, cm[i]? = some q → M 406 (bs + i) = q.1 ∧ M 407 (bs + i) = q.2) ∧ (M 382 41 = (stk.length : Int) ∧ ∀ i e, stk[i]? = some e → M 408 i = e.1 ∧ M 409 i = e.2) ∧ M 382 40 = (wi : Int)
def pExm (rb bs k j : Nat) : Prop := (k = 382 ∧ ((4 ≤ j ∧ j ≤ 10) ∨ (39 ≤ j ∧ j ≤ 42))) ∨ (k = 388 ∧ j = rb) ∨ ((k = 406 ∨ k = 407) ∧ bs ≤ j ∧ j < 560 * rb + 560) ∨ k = 408 ∨ k = 409
theorem pTm_E {rb bs : Nat} : ∀ k j, pTm k j → pExm rb bs k j := fun k j h => Or.inl ⟨h.1, Or.inl h.2⟩
theorem pGo_E {rb bs : Nat} : ∀ k j, pGo k j → pExm rb bs k j := fun k j h => pTm_E k j (pGo_m k j h)
theorem pFm_E {rb bs : Nat} : ∀ k j, pFm k j → pExm rb bs k j := fun k j h => pTm_E k j (pFm_m k j h)
theorem RM.congr {W : Nat → Int} {n j : Nat} {M M' : KM} (h : RM W n j M) (he : ∀ i, 3 ≤ i → i ≤ 10 → M' 382 i = M 382 i) (h4 : M' 384 = M 384) : RM W n j M' := by
  obtain ⟨h1, ⟨p1, p2, p3, p4, p5⟩, h3⟩ := h
  refine ⟨⟨h1.1.congr (he 3 (by omega) (by omega)) h4, by rw [he 5 (by omega) (by omega)]; exact h1.2⟩, ⟨?_, ?_, ?_, ?_, ?_⟩, ?_⟩
  · rw [he 6 (by omega) (by omega)]; exact p1
  · rw [he 7 (by omega) (by omega)]; exact p2
  · rw [he 8 (by omega) (by omega)]; exact p3
  · rw [he 9 (by omega) (by omega)]; exact p4
  · rw [he 10 (by omega) (by omega)]; exact p5
  · rw [he 4 (by omega) (by omega)]; exact h3
theorem MX_go {W : Nat → Int} {n rb bs : Nat} {s : PSt} {stk : STK} {cm : RL} {wi : Nat} {M : KM} (h : MX W n rb bs s stk cm wi M) (hW : TXR W) : Ret (f_M_goOn M) (fun q => MX W n rb bs (nxS s) stk cm wi q ∧ Fp (pExm rb bs) M q) := by
  obtain ⟨h1, ⟨a1, a2, a3⟩, ⟨b1, b2⟩, ⟨c1, c2⟩, d1⟩ := h
  refine (M_go h1 hW).mono ?_
  rintro q ⟨q1, q2⟩
  refine ⟨⟨q1, ⟨?_, ?_, ?_⟩, ⟨?_, fun i y hi => ?_⟩, ⟨?_, fun i e hi => ?_⟩, ?_⟩, q2.mono pGo_E⟩
  · rw [q2 382 38 (by unfold pGo; omega)]; exact a1
  · rw [q2 388 rb (by unfold pGo; omega)]; exact a2
  · rw [q2 382 42 (by unfold pGo; omega)]; exact a3
  · rw [q2 382 39 (by unfold pGo; omega)]; exact b1
  · rw [q2 406 _ (by unfold pGo; omega), q2 407 _ (by unfold pGo; omega)]; exact b2 i y hi
  · rw [q2 382 41 (by unfold pGo; omega)]; exact c1
  · rw [q2 408 _ (by unfold pGo; omega), q2 409 _ (by unfold pGo; omega)]; exact c2 i e hi
  · rw [q2 382 40 (by unfold pGo; omega)]; exact d1
theorem MX_push {W : Nat → Int} {n rb bs : Nat} {s : PSt} {stk : STK} {cm : RL} {wi : Nat} {M : KM} (h : MX W n rb bs s stk cm wi M) (hl : stk.length < 90) (x y : Int) : Ret (f_M_pushE x y M) (fun q => MX W n rb bs s (stk ++ [(x, y)]) cm wi q ∧ Fp (pExm rb bs) M q) := by
  obtain ⟨h1, ⟨a1, a2, a3⟩, ⟨b1, b2⟩, ⟨c1, c2⟩, d1⟩ := h
  unfold f_M_pushE
  rw [c1, Int.toNat_natCast]
  refine Ret.t (by omega) ?_
  rw [letM_e, mupd_ne _ _ (show (382 : Nat) ≠ 408 by omega), c1, Int.toNat_natCast, letM_e, mupd_ne _ _ (show (382 : Nat) ≠ 409 by omega), mupd_ne _ _ (show (382 : Nat) ≠ 408 by omega), c1, w32e (by omega) (by omega)]
  refine Ret.t (by omega) (Ret.letM (Ret.pure ⟨⟨h1.congr (fun i z1 z2 => by rw [mupd_ne2 _ _ (by omega), mupd_ne _ _ (by omega), mupd_ne _ _ (by omega)]) (by funext z; rw [mupd_ne _ _ (by omega), mupd_ne _ _ (by omega), mupd_ne _ _ (by omega)]), ⟨?_, ?_, ?_⟩, ⟨?_, fun i q hi => ?_⟩, ⟨?_, fun i e hi => ?_⟩, ?_⟩, ?_⟩))
  · rw [mupd_ne2 _ _ (by omega), mupd_ne _ _ (by omega), mupd_ne _ _ (by omega)]; exact a1
  · rw [mupd_ne _ _ (by omega), mupd_ne _ _ (by omega), mupd_ne _ _ (by omega)]; exact a2
  · rw [mupd_ne2 _ _ (by omega), mupd_ne _ _ (by omega), mupd_ne _ _ (by omega)]; exact a3
  · rw [mupd_ne2 _ _ (by omega), mupd_ne _ _ (by omega), mupd_ne _ _ (by omega)]; exact b1
  · rw [mupd_ne _ _ (by omega), mupd_ne _ _ (by omega), mupd_ne _ _ (by omega), mupd_ne _ _ (by omega), mupd_ne _ _ (by omega), mupd_ne _ _ (by omega)]; exact b2 i q hi
  · rw [mupd_same, List.length_append]; rfl
  · rw [mupd_ne _ _ (show (408 : Nat) ≠ 382 by omega), mupd_ne _ _ (show (408 : Nat) ≠ 409 by omega), mupd_ne _ _ (show (409 : Nat) ≠ 382 by omega)]
    by_cases hl : i < stk.length
    · rw [List.getElem?_append_left hl] at hi
      rw [mupd_ne2 _ _ (by omega), mupd_ne2 _ _ (by omega), mupd_ne _ _ (by omega)]; exact c2 i e hi
    · rw [List.getElem?_append_right (by omega)] at hi
      have hz : i - stk.length < 1 := (List.getElem?_eq_some_iff.mp hi).1
      have hi2 : i = stk.length := by omega
      rw [hi2, Nat.sub_self] at hi
      have : (x, y) = e := Option.some.inj hi
      rw [hi2, mupd_same, mupd_same, ← this]
      exact ⟨rfl, rfl⟩
  · rw [mupd_ne2 _ _ (by omega), mupd_ne _ _ (by omega), mupd_ne _ _ (by omega)]; exact d1
  · exact ((Fp.rf.upd (Or.inr (Or.inr (Or.inr (Or.inl rfl))))).upd (Or.inr (Or.inr (Or.inr (Or.inr rfl))))).upd (Or.inl ⟨rfl, by omega⟩)
theorem MX_emit {W : Nat → Int} {n rb bs : Nat} {s : PSt} {stk : STK} {cm : RL} {wi : Nat} {M : KM} (h : MX W n rb bs s stk cm wi M) (hrb : rb < 2) (hl : bs + cm.length < 560 * rb + 560) (x y : Int) : Ret (f_M_emit x y M) (fun q => MX W n rb bs s stk (cm ++ [(x, y)]) wi q ∧ Fp (pExm rb bs) M q) := by
  obtain ⟨h1, ⟨a1, a2, a3⟩, ⟨b1, b2⟩, ⟨c1, c2⟩, d1⟩ := h
  unfold f_M_emit
  rw [b1, Int.toNat_natCast]
  refine Ret.t (by omega) ?_
  rw [letM_e, mupd_ne _ _ (show (382 : Nat) ≠ 406 by omega), b1, Int.toNat_natCast, letM_e, mupd_ne _ _ (show (382 : Nat) ≠ 407 by omega), mupd_ne _ _ (show (382 : Nat) ≠ 406 by omega), b1, w32e (by omega) (by omega)]
  refine Ret.t (by omega) (Ret.letM (Ret.pure ⟨⟨h1.congr (fun i z1 z2 => by rw [mupd_ne2 _ _ (by omega), mupd_ne _ _ (by omega), mupd_ne _ _ (by omega)]) (by funext z; rw [mupd_ne _ _ (by omega), mupd_ne _ _ (by omega), mupd_ne _ _ (by omega)]), ⟨?_, ?_, ?_⟩, ⟨?_, fun i q hi => ?_⟩, ⟨?_, fun i e hi => ?_⟩, ?_⟩, ?_⟩))
  · rw [mupd_ne2 _ _ (by omega), mupd_ne _ _ (by omega), mupd_ne _ _ (by omega)]; exact a1
  · rw [mupd_ne _ _ (by omega), mupd_ne _ _ (by omega), mupd_ne _ _ (by omega)]; exact a2
  · rw [mupd_ne2 _ _ (by omega), mupd_ne _ _ (by omega), mupd_ne _ _ (by omega)]; exact a3
  · rw [mupd_same, List.length_append]
    show _ = ((bs + (cm.length + 1) : Nat) : Int)
    omega
  · rw [mupd_ne _ _ (show (406 : Nat) ≠ 382 by omega), mupd_ne _ _ (show (406 : Nat) ≠ 407 by omega), mupd_ne _ _ (show (407 : Nat) ≠ 382 by omega)]
    by_cases hl : i < cm.length
    · rw [List.getElem?_append_left hl] at hi
      rw [mupd_ne2 _ _ (by omega), mupd_ne2 _ _ (by omega), mupd_ne _ _ (by omega)]; exact b2 i q hi
    · rw [List.getElem?_append_right (by omega)] at hi
      have hz : i - cm.length < 1 := (List.getElem?_eq_some_iff.mp hi).1
      have hi2 : i = cm.length := by omega
      rw [hi2, Nat.sub_self] at hi
      have : (x, y) = q := Option.some.inj hi
      rw [hi2, mupd_same, mupd_same, ← this]
      exact ⟨rfl, rfl⟩
  · rw [mupd_ne2 _ _ (by omega), mupd_ne _ _ (by omega), mupd_ne _ _ (by omega)]; exact c1
  · rw [mupd_ne _ _ (by omega), mupd_ne _ _ (by omega), mupd_ne _ _ (by omega), mupd_ne _ _ (by omega), mupd_ne _ _ (by omega), mupd_ne _ _ (by omega)]; exact c2 i e hi
  · rw [mupd_ne2 _ _ (by omega), mupd_ne _ _ (by omega), mupd_ne _ _ (by omega)]; exact d1
  · exact ((Fp.rf.upd (Or.inr (Or.inr (Or.inl ⟨Or.inl rfl, by omega, by omega⟩)))).upd (Or.inr (Or.inr (Or.inl ⟨Or.inr rfl, by omega, by omega⟩)))).upd (Or.inl ⟨rfl, by omega⟩)
/-- another way to look at the same state -/
theorem MX_s {W : Nat → Int} {n rb bs : Nat} {s s' : PSt} {stk : STK} {cm : RL} {wi : Nat} {M : KM} (h : MX W n rb bs s stk cm wi M) (e1 : s'.1 = s.1) (e2 : s'.2.1 = s.2.1) (e3 : s'.2.2.1 = s.2.2.1) : MX W n rb bs s' stk cm wi M := by
  unfold MX at *
  rw [e1, e2, e3]; exact h
/-- within, piled: told anew -/
theorem MX_w {W : Nat → Int} {n rb bs : Nat} {s : PSt} {stk : STK} {cm : RL} {wi : Nat} {M : KM} (h : MX W n rb bs s stk cm wi M) (wi' : Nat) : MX W n rb bs s stk cm wi' (mupd M 382 40 (wi' : Int)) ∧ Fp (pExm rb bs) M (mupd M 382 40 (wi' : Int)) := by
  obtain ⟨h1, ⟨a1, a2, a3⟩, ⟨b1, b2⟩, ⟨c1, c2⟩, d1⟩ := h
  refine ⟨⟨h1.congr (fun i z1 z2 => by rw [mupd_ne2 _ _ (by omega)]) (by funext z; rw [mupd_ne _ _ (by omega)]), ⟨?_, ?_, ?_⟩, ⟨?_, fun i q hi => ?_⟩, ⟨?_, fun i e hi => ?_⟩, ?_⟩, Fp.rf.upd (Or.inl ⟨rfl, by omega⟩)⟩
  · rw [mupd_ne2 _ _ (by omega)]; exact a1
  · rw [mupd_ne _ _ (by omega)]; exact a2
  · rw [mupd_ne2 _ _ (by omega)]; exact a3
  · rw [mupd_ne2 _ _ (by omega)]; exact b1
  · rw [mupd_ne _ _ (by omega), mupd_ne _ _ (by omega)]; exact b2 i q hi
  · rw [mupd_ne2 _ _ (by omega)]; exact c1
  · rw [mupd_ne _ _ (by omega), mupd_ne _ _ (by omega)]; exact c2 i e hi
  · rw [mupd_same]
theorem MX_pop {W : Nat → Int} {n rb bs : Nat} {s : PSt} {stk : STK} {e : Int × Int} {cm : RL} {wi : Nat} {M : KM} (h : MX W n rb bs s (stk ++ [e]) cm wi M) : (MX W n rb bs s stk cm wi (mupd M 382 41 (stk.length : Int)) ∧ Fp (pExm rb bs) M (mupd M 382 41 (stk.length : Int))) ∧ M 382 41 = (stk.length : Int) + 1 ∧ M 408 stk.length = e.1 ∧ M 409 stk.length = e.2 := by
  obtain ⟨h1, ⟨a1, a2, a3⟩, ⟨b1, b2⟩, ⟨c1, c2⟩, d1⟩ := h
  have top := c2 stk.length e (by rw [List.getElem?_append_right (Nat.le_refl _), Nat.sub_self]; rfl)
  refine ⟨⟨⟨h1.congr (fun i z1 z2 => by rw [mupd_ne2 _ _ (by omega)]) (by funext z; rw [mupd_ne _ _ (by omega)]), ⟨?_, ?_, ?_⟩, ⟨?_, fun i q hi => ?_⟩, ⟨?_, fun i x hi => ?_⟩, ?_⟩, Fp.rf.upd (Or.inl ⟨rfl, by omega⟩)⟩, ?_, top⟩
  · rw [mupd_ne2 _ _ (by omega)]; exact a1
  · rw [mupd_ne _ _ (by omega)]; exact a2
  · rw [mupd_ne2 _ _ (by omega)]; exact a3
  · rw [mupd_ne2 _ _ (by omega)]; exact b1
  · rw [mupd_ne _ _ (by omega), mupd_ne _ _ (by omega)]; exact b2 i q hi
  · rw [mupd_same]
  · rw [mupd_ne _ _ (by omega), mupd_ne _ _ (by omega)]
    have hl : i < stk.length := (List.getElem?_eq_some_iff.mp hi).1
    exact c2 i x (by rw [List.getElem?_append_left hl]; exact hi)
  · rw [mupd_ne2 _ _ (by omega)]; exact d1
  · rw [c1, List.length_append]; rfl
theorem MX_units {W : Nat → Int} {n rb bs : Nat} {s : PSt} {stk : STK} {cm : RL} {wi : Nat} {M : KM} (h : MX W n rb bs s stk cm wi M) (d : Nat) : MX W n rb bs (s.1, s.2.1 + d, s.2.2.1 + d, s.2.2.2) stk cm wi (mupd (mupd M 388 rb (((s.2.2.1 + d : Nat) : Nat) : Int)) 382 42 (((s.2.1 + d : Nat) : Nat) : Int)) ∧ Fp (pExm rb bs) M (mupd (mupd M 388 rb (((s.2.2.1 + d : Nat) : Nat) : Int)) 382 42 (((s.2.1 + d : Nat) : Nat) : Int)) := by
  obtain ⟨h1, ⟨a1, a2, a3⟩, ⟨b1, b2⟩, ⟨c1, c2⟩, d1⟩ := h
  refine ⟨⟨h1.congr (fun i z1 z2 => by rw [mupd_ne2 _ _ (by omega), mupd_ne _ _ (by omega)]) (by funext z; rw [mupd_ne _ _ (by omega), mupd_ne _ _ (by omega)]), ⟨?_, ?_, ?_⟩, ⟨?_, fun i q hi => ?_⟩, ⟨?_, fun i e hi => ?_⟩, ?_⟩, (Fp.rf.upd (Or.inr (Or.inl ⟨rfl, rfl⟩))).upd (Or.inl ⟨rfl, by omega⟩)⟩
  · rw [mupd_ne2 _ _ (by omega), mupd_ne _ _ (by omega)]; exact a1
  · rw [mupd_ne _ _ (by omega), mupd_same]
  · rw [mupd_same]
  · rw [mupd_ne2 _ _ (by omega), mupd_ne _ _ (by omega)]; exact b1
  · rw [mupd_ne _ _ (by omega), mupd_ne _ _ (by omega), mupd_ne _ _ (by omega), mupd_ne _ _ (by omega)]; exact b2 i q hi
  · rw [mupd_ne2 _ _ (by omega), mupd_ne _ _ (by omega)]; exact c1
  · rw [mupd_ne _ _ (by omega), mupd_ne _ _ (by omega), mupd_ne _ _ (by omega), mupd_ne _ _ (by omega)]; exact c2 i e hi
  · rw [mupd_ne2 _ _ (by omega), mupd_ne _ _ (by omega)]; exact d1
/-! words, ranks -/
def wH (k : Int) : Int := if k = 129 then 97 else if k = 130 then 99 else if k = 143 then 121 else if k = 132 then 102 else 0
theorem M_wordHere {W : Nat → Int} {n j : Nat} {M : KM} (h : RM W n j M) : f_M_wordHere M = some (wH (kdJ W n j)) := by
  refine Ret.some_of ?_
  unfold f_M_wordHere wH
  rw [M_isWord h (i := 1) (u := [97, 103, 101]) rfl (by decide), ob_some, M_isWord h (i := 2) (u := [99, 111, 105, 110]) rfl (by decide), ob_some, M_isWord h (i := 15) (u := [121, 101, 97, 114]) rfl (by decide), ob_some, M_isWord h (i := 4) (u := [102, 97, 109, 105, 108, 121]) rfl (by decide), ob_some]
  by_cases h1 : kdJ W n j = 129
  · rw [if_pos (show kdJ W n j = 128 + ((1 : Nat) : Int) by omega), if_pos h1]
    exact Ret.f (by decide) (Ret.pure rfl)
  · rw [if_neg (show ¬ kdJ W n j = 128 + ((1 : Nat) : Int) by omega), if_neg h1]
    refine Ret.t rfl ?_
    by_cases h2 : kdJ W n j = 130
    · rw [if_pos (show kdJ W n j = 128 + ((2 : Nat) : Int) by omega), if_pos h2]
      exact Ret.f (by decide) (Ret.pure rfl)
    · rw [if_neg (show ¬ kdJ W n j = 128 + ((2 : Nat) : Int) by omega), if_neg h2]
      refine Ret.t rfl ?_
      by_cases h3 : kdJ W n j = 143
      · rw [if_pos (show kdJ W n j = 128 + ((15 : Nat) : Int) by omega), if_pos h3]
        exact Ret.f (by decide) (Ret.pure rfl)
      · rw [if_neg (show ¬ kdJ W n j = 128 + ((15 : Nat) : Int) by omega), if_neg h3]
        refine Ret.t rfl ?_
        by_cases h4 : kdJ W n j = 132
        · rw [if_pos (show kdJ W n j = 128 + ((4 : Nat) : Int) by omega), if_pos h4]
          exact Ret.bind (R := fun y => y = 102) (Ret.f (by decide) (Ret.pure rfl)) fun y hy => Ret.pure hy
        · rw [if_neg (show ¬ kdJ W n j = 128 + ((4 : Nat) : Int) by omega), if_neg h4]
          exact Ret.bind (R := fun y => y = 0) (Ret.t rfl (Ret.pure rfl)) fun y hy => Ret.pure hy
theorem M_rankHere {W : Nat → Int} {n j : Nat} {M : KM} (h : RM W n j M) : f_M_rankHere M = some ((rkK (kdJ W n j) : Nat) : Int) := by
  refine Ret.some_of ?_
  unfold f_M_rankHere rkK
  rw [M_isWord h (i := 13) (u := [97, 110, 100]) rfl (by decide), ob_some, M_isWord h (i := 12) (u := [111, 114]) rfl (by decide), ob_some, M_isSignHere h (c := 60) (by decide), ob_some, M_isSignHere h (c := 62) (by decide), ob_some, M_isSignHere h (c := 61) (by decide), ob_some, M_isSignHere h (c := 43) (by decide), ob_some, M_isSignHere h (c := 45) (by decide), ob_some, M_isSignHere h (c := 42) (by decide), ob_some, M_isSignHere h (c := 47) (by decide), ob_some, M_isSignHere h (c := 37) (by decide), ob_some]
  generalize kdJ W n j = k
  by_cases h1 : k = 141
  · subst h1; exact Ret.f (by decide) (Ret.pure rfl)
  · rw [if_neg (show ¬ k = 128 + ((13 : Nat) : Int) by omega)]
    refine Ret.t rfl ?_
    by_cases h2 : k = 140
    · subst h2; exact Ret.f (by decide) (Ret.pure rfl)
    · rw [if_neg (show ¬ k = 128 + ((12 : Nat) : Int) by omega), if_neg h2, if_neg h1]
      refine Ret.t rfl ?_
      by_cases h3 : k = 60
      · subst h3; exact Ret.f (by decide) (Ret.pure rfl)
      · rw [if_neg h3]
        refine Ret.t rfl ?_
        by_cases h4 : k = 62
        · subst h4; exact Ret.f (by decide) (Ret.pure rfl)
        · rw [if_neg h4]
          refine Ret.t rfl ?_
          by_cases h5 : k = 61
          · subst h5; exact Ret.f (by decide) (Ret.pure rfl)
          · rw [if_neg h5, if_neg (show ¬ (k = 60 ∨ k = 62 ∨ k = 61) by omega)]
            refine Ret.t rfl ?_
            by_cases h6 : k = 43
            · subst h6; exact Ret.f (by decide) (Ret.pure rfl)
            · rw [if_neg h6]
              refine Ret.t rfl ?_
              by_cases h7 : k = 45
              · subst h7; exact Ret.f (by decide) (Ret.pure rfl)
              · rw [if_neg h7, if_neg (show ¬ (k = 43 ∨ k = 45) by omega)]
                refine Ret.t rfl ?_
                refine Ret.bind (R := fun y => y = (((if k = 42 ∨ k = 47 ∨ k = 37 then 6 else 0 : Nat) : Nat) : Int)) ?_ (fun y hy => Ret.pure hy)
                by_cases h8 : k = 42
                · subst h8; exact Ret.f (by decide) (Ret.pure rfl)
                · rw [if_neg h8]
                  refine Ret.t rfl ?_
                  by_cases h9 : k = 47
                  · subst h9; exact Ret.f (by decide) (Ret.pure rfl)
                  · rw [if_neg h9]
                    refine Ret.t rfl ?_
                    by_cases h10 : k = 37
                    · subst h10; exact Ret.f (by decide) (Ret.pure rfl)
                    · rw [if_neg h10, if_neg (show ¬ (k = 42 ∨ k = 47 ∨ k = 37) by omega)]
                      exact Ret.t rfl (Ret.pure rfl)
theorem M_isCompared {W : Nat → Int} {n rb bs : Nat} {s : PSt} {A B : STK} {e : Int × Int} {cm : RL} {wi : Nat} {M : KM} (h : MX W n rb bs s (A ++ e :: B) cm wi M) (hl : (A ++ e :: B).length ≤ 90) (hB : ∀ x, x ∈ B → x.1 = 5 ∨ x.1 = 6) (he : e.1 ≠ 5 ∧ e.1 ≠ 6) : f_M_isCompared M = some (if e.1 = 4 then 1 else 0) := by
  obtain ⟨h1, h2, h3, ⟨c1, c2⟩, d1⟩ := h
  rw [List.length_append, List.length_cons] at hl c1
  refine Ret.some_of ?_
  unfold f_M_isCompared
  rw [c1, w32e (by omega) (by omega)]
  refine Ret.letI ?_
  refine Ret.bind (R := fun k => k = (A.length : Int)) (Ret.loop B.length (fun i k => k = ((A.length + (B.length - i) : Nat) : Int)) (by omega) ?_ ?_) ?_
  · rintro i k hi rfl
    have hx : (A ++ e :: B)[A.length + (B.length - i)]? = B[B.length - i - 1]? := by
      rw [List.getElem?_append_right (by omega), show A.length + (B.length - i) - A.length = (B.length - i - 1) + 1 by omega, List.getElem?_cons_succ]
    have hb : B.length - i - 1 < B.length := by omega
    rw [List.getElem?_eq_getElem hb] at hx
    have hc := c2 _ _ hx
    have hm := hB _ (List.getElem_mem hb)
    rw [Int.toNat_natCast, hc.1, w32e (n := ((A.length + (B.length - i) : Nat) : Int) + -1) (by omega) (by omega)]
    refine Ret.t (by omega) (Ret.br (fun _ => Ret.pure ?_) fun h5 => Ret.t (by omega) (Ret.t (by omega) (Ret.pure ?_)))
    · show ((A.length + (B.length - i) : Nat) : Int) + -1 = _; omega
    · show ((A.length + (B.length - i) : Nat) : Int) + -1 = _; omega
  · rintro k rfl
    have hx : (A ++ e :: B)[A.length]? = some e := by rw [List.getElem?_append_right (Nat.le_refl _), Nat.sub_self]; rfl
    have hc := c2 _ _ hx
    rw [show A.length + (B.length - B.length) = A.length by omega, Int.toNat_natCast, hc.1]
    exact Ret.t (by omega) (Ret.f he.1 (Ret.t (by omega) (Ret.f he.2 (Ret.pure rfl))))
  rintro k rfl
  have hx : (A ++ e :: B)[A.length]? = some e := by rw [List.getElem?_append_right (Nat.le_refl _), Nat.sub_self]; rfl
  have hc := c2 _ _ hx
  rw [Int.toNat_natCast, hc.1]
  refine Ret.t (by omega) (Ret.bind (R := fun y => y = if e.1 = 4 then 1 else 0) (Ret.br (fun h => Ret.pure (if_pos h).symm) fun h => Ret.pure (if_neg h).symm) ?_)
  rintro y rfl
  exact Ret.t (by split <;> omega) (Ret.pure rfl)
/-! what is piled comes down -/
noncomputable def redB (q1 : Int) : KM → Option (KM ⊕ KM) := fun s3 => (if 0 ≤ w32 ((s3 382 41) - (1 : Int)) ∧ w32 ((s3 382 41) - (1 : Int)) < 90 then (if s3 408 (w32 ((s3 382 41) - (1 : Int))).toNat ≤ (6 : Int) then (if 0 ≤ w32 ((s3 382 41) - (1 : Int)) ∧ w32 ((s3 382 41) - (1 : Int)) < 90 then (if s3 408 (w32 ((s3 382 41) - (1 : Int))).toNat < q1 then some (Sum.inr s3) else letM_ (mupd s3 382 41 (w32 ((s3 382 41) - (1 : Int)))) (fun M4 => (if 0 ≤ M4 382 41 ∧ M4 382 41 < 90 then Option.bind ((if M4 408 (M4 382 41).toNat = (3 : Int) then letM_ (mupd M4 382 40 (w32 ((M4 382 40) - (1 : Int)))) (fun M5 => some M5) else some M4) : Option (KM)) (fun t6 => (if 0 ≤ t6 382 41 ∧ t6 382 41 < 90 then Option.bind (f_M_emit (t6 409 (t6 382 41).toNat) (0 : Int) t6) (fun q7 => some (Sum.inl q7)) else none)) else none))) else none) else some (Sum.inr s3)) else none)
noncomputable def behK (q1 : Int) : KM → Option (Int × KM) := fun e8 => (if q1 ≤ (0 : Int) then letM_ (mupd e8 382 41 (w32 ((e8 382 41) - (1 : Int)))) (fun M9 => (if 0 ≤ M9 382 41 ∧ M9 382 41 < 90 then Option.bind ((if M9 408 (M9 382 41).toNat = (7 : Int) then letM_ (mupd M9 382 40 (w32 ((M9 382 40) - (1 : Int)))) (fun M10 => Option.bind (f_M_isSignHere (41 : Int) M10) (fun q11 => Option.bind (f_M_must q11 M10) (fun q12 => some q12))) else some M9) : Option (KM)) (fun t13 => some ((0 : Int), t13)) else none)) else Option.bind ((if q1 = (2 : Int) then some (38 : Int) else (if q1 = (1 : Int) then some (124 : Int) else Option.bind (f_M_sign (e8 382 6) e8) (fun q14 => some q14))) : Option (Int)) (fun t15 => Option.bind (f_M_pushE q1 t15 e8) (fun q16 => Option.bind (f_M_goOn q16) (fun q17 => some ((1 : Int), q17)))))
theorem behind_e (M : KM) : f_M_behindUnit M = Option.bind (f_M_rankHere M) (fun q1 => (if q1 = (4 : Int) then Option.bind (f_M_isCompared M) (fun q2 => (if q2 = (0 : Int) then Option.bind (whileO (σ := KM) (ε := KM) (redB q1) M) (behK q1) else Option.bind (f_M_misplaced M) (fun q18 => some ((1 : Int), q18)))) else Option.bind (whileO (σ := KM) (ε := KM) (redB q1) M) (behK q1))) := rfl
theorem MX_red {W : Nat → Int} {n rb bs r : Nat} {s : PSt} {tp pend : STK} {e : Int × Int} {cm : RL} {a : Nat} {M : KM} (hrb : rb < 2) (h : MX W n rb bs s (tp ++ [e] ++ pend) cm (a + nots pend) M) (hl : (tp ++ [e] ++ pend).length ≤ 90) (hp : ∀ x, x ∈ pend → (r : Int) ≤ x.1 ∧ x.1 ≤ 6) (he : e.1 < (r : Int) ∨ 7 ≤ e.1) (hc : bs + (cm ++ emd pend).length ≤ 560 * rb + 560) (hwi : a + nots pend < 1000) :
    Ret (whileO (redB (r : Int)) M) (fun q => MX W n rb bs s (tp ++ [e]) (cm ++ emd pend) a q ∧ Fp (pExm rb bs) M q) := by
  refine Ret.list (fun (L : STK) (q : KM) => ∃ cm', MX W n rb bs s (tp ++ [e] ++ L.reverse) cm' (a + nots L.reverse) q ∧ cm' ++ emd L.reverse = cm ++ emd pend ∧ (tp ++ [e] ++ L.reverse).length ≤ 90 ∧ (∀ x, x ∈ L → (r : Int) ≤ x.1 ∧ x.1 ≤ 6) ∧ a + nots L.reverse < 1000 ∧ Fp (pExm rb bs) M q) ?_ ?_ pend.reverse M ⟨cm, by rw [List.reverse_reverse]; exact h, by rw [List.reverse_reverse], by rw [List.reverse_reverse]; exact hl, fun x hx => hp x (List.mem_reverse.mp hx), by rw [List.reverse_reverse]; exact hwi, Fp.rf⟩
  · rintro x L q ⟨cm', k1, k2, k3, k4, k5, k6⟩
    rw [List.reverse_cons] at k1 k2 k3 k5
    rw [← List.append_assoc] at k1 k3
    have xr := k4 x List.mem_cons_self
    obtain ⟨⟨p1, p2⟩, p3, p4, p5⟩ := MX_pop k1
    rw [nots_app, nots_1] at p1 k5
    have hlen : (tp ++ [e] ++ L.reverse).length + 1 ≤ 90 := by rw [List.length_append] at k3; exact k3
    generalize hS : tp ++ [e] ++ L.reverse = S at p1 p2 p3 p4 p5 hlen
    have ek : cm' ++ [(x.2, 0)] ++ emd L.reverse = cm ++ emd pend := by
      rw [← k2]
      unfold emd
      rw [List.reverse_append, List.reverse_reverse, List.map_append]
      simp
    have hcl : bs + cm'.length < 560 * rb + 560 := by
      rw [← ek] at hc
      rw [List.length_append, List.length_append] at hc
      have : [(x.2, (0 : Int))].length = 1 := rfl
      omega
    unfold redB
    rw [p3, w32e (n := (S.length : Int) + 1 - 1) (by omega) (by omega), show (S.length : Int) + 1 - 1 = (S.length : Int) by omega, Int.toNat_natCast, p4]
    refine Ret.t (by omega) (Ret.t xr.2 (Ret.t (by omega) (Ret.f (by omega) ?_)))
    have e41 : mupd q 382 41 (S.length : Int) 382 41 = (S.length : Int) := mupd_same _ _ _ _
    have e408 : mupd q 382 41 (S.length : Int) 408 S.length = x.1 := by rw [mupd_ne _ _ (by omega)]; exact p4
    have e409 : mupd q 382 41 (S.length : Int) 409 S.length = x.2 := by rw [mupd_ne _ _ (by omega)]; exact p5
    generalize mupd q 382 41 (S.length : Int) = M4 at p1 p2 e41 e408 e409
    refine Ret.letM ?_
    rw [e41, Int.toNat_natCast, e408, p1.2.2.2.2]
    refine Ret.t (by omega) ?_
    refine Ret.bind (R := fun t => MX W n rb bs s S cm' (a + nots L.reverse) t ∧ t 409 S.length = x.2 ∧ t 382 41 = (S.length : Int) ∧ Fp (pExm rb bs) M t) (Ret.br (fun h3 => Ret.letM (Ret.pure ?_)) fun h3 => Ret.pure ?_) ?_
    · rw [if_pos h3, w32e (by omega) (by omega)]
      have := MX_w p1 (a + nots L.reverse)
      rw [show ((a + (nots L.reverse + 1) : Nat) : Int) - 1 = ((a + nots L.reverse : Nat) : Int) by omega]
      exact ⟨this.1, by rw [mupd_ne _ _ (by omega)]; exact e409, by rw [mupd_ne2 _ _ (by omega)]; exact e41, (k6.tr p2).tr this.2⟩
    · rw [if_neg h3] at p1
      exact ⟨p1, e409, e41, k6.tr p2⟩
    rintro t ⟨t1, t2, t3, t4⟩
    rw [t3, Int.toNat_natCast, t2]
    refine Ret.t (by omega) ?_
    refine Ret.bind (MX_emit t1 hrb hcl x.2 0) ?_
    rintro q7 ⟨q1, q2⟩
    refine Ret.pure ⟨cm' ++ [(x.2, 0)], by first | exact q1 | (rw [hS]; exact q1), ek, by first | omega | (rw [hS]; omega), fun y hy => k4 y (List.mem_cons_of_mem _ hy), by omega, t4.tr q2⟩
  · rintro q ⟨cm', k1, k2, k3, k4, k5, k6⟩
    have k1 : MX W n rb bs s (tp ++ [e] ++ []) cm' (a + 0) q := k1
    have k2 : cm' ++ [] = cm ++ emd pend := k2
    have k3 : (tp ++ [e] ++ []).length ≤ 90 := k3
    rw [List.append_nil] at k1 k2 k3
    obtain ⟨_, p3, p4, p5⟩ := MX_pop k1
    rw [List.length_append] at k3
    have k3 : tp.length + 1 ≤ 90 := k3
    subst k2
    unfold redB
    rw [p3, w32e (n := (tp.length : Int) + 1 - 1) (by omega) (by omega), show (tp.length : Int) + 1 - 1 = (tp.length : Int) by omega, Int.toNat_natCast, p4]
    refine Ret.t (by omega) (Ret.br (fun h6 => Ret.t (by omega) (Ret.t (by omega) (Ret.pure ⟨k1, k6⟩))) fun h6 => Ret.pure ⟨k1, k6⟩)
