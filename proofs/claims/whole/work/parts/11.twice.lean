/-! WHAT LIES THERE; RIGHTS USED TWICE -/
def LC (l : List Int) (M : KM) : Prop := l.length ≤ 8 ∧ M 0 16 = (l.length : Int) ∧ ∀ (i : Nat) (x : Int), l[i]? = some x → M 360 i = x
def LM (l : List Int) (M : KM) : Prop := l.length ≤ 8 ∧ M 382 63 = (l.length : Int) ∧ ∀ (i : Nat) (x : Int), l[i]? = some x → M 424 i = x
def pL (k j : Nat) : Prop := k = 360 ∨ (k = 0 ∧ j = 16)
def pVL (k j : Nat) : Prop := pV k j ∨ pL k j
def pWL (k j : Nat) : Prop := pW k j ∨ k = 424 ∨ k = 425 ∨ (k = 382 ∧ j = 63)
theorem LC.congr {l : List Int} {M M' : KM} (h : LC l M) (h1 : M' 0 16 = M 0 16) (h2 : M' 360 = M 360) : LC l M' := by
  unfold LC at h ⊢; rw [h1, h2]; exact h
theorem LM.congr {l : List Int} {M M' : KM} (h : LM l M) (h1 : M' 382 63 = M 382 63) (h2 : M' 424 = M 424) : LM l M' := by
  unfold LM at h ⊢; rw [h1, h2]; exact h
theorem LC.v {l : List Int} {M M' : KM} (h : LC l M) (hf : Fp pV M M') : LC l M' := h.congr (hf _ _ (by unfold pV; omega)) (hf.row (fun j => by unfold pV; omega))
theorem LM.w {l : List Int} {M M' : KM} (h : LM l M) (hf : Fp pW M M') : LM l M' := h.congr (hf _ _ (by unfold pW; omega)) (hf.row (fun j => by unfold pW; omega))
theorem pN_pVL {k j : Nat} (h : pN k j) : ¬ pVL k j := by unfold pN at h; unfold pVL pV pL; omega
theorem pR_pWL {k j : Nat} (h : pR k j) : ¬ pWL k j := by unfold pR at h; unfold pWL pW; omega
theorem WC.vl {T : TW} {R : Nat → RL} {v : Nat → Int} {M M' : KM} (h : WC T R v M) (hf : Fp pVL M M') : WC T R v M' := h.congr fun k j hk => hf k j (pN_pVL hk)
theorem WM.wl {b : Nat} {T : TW} {R : Nat → RL} {v : Nat → Int} {M M' : KM} (h : WM b T R v M) (hf : Fp pWL M M') : WM b T R v M' := h.congr fun k j hk => hf k j (pR_pWL hk)
theorem Fp.vl {M M' : KM} (h : Fp pV M M') : Fp pVL M M' := h.mono fun _ _ => Or.inl
theorem Fp.wl {M M' : KM} (h : Fp pW M M') : Fp pWL M M' := h.mono fun _ _ => Or.inl
theorem LC_nil (M : KM) : LC [] (mupd M 0 16 0) := ⟨by decide, mupd_same _ _ _ _, fun i x h => by cases h⟩
theorem LM_nil (M : KM) : LM [] (mupd M 382 63 0) := ⟨by decide, mupd_same _ _ _ _, fun i x h => by cases h⟩
theorem X_lay {l : List Int} {M : KM} (h : LC l M) (hl : l.length < 8) (x : Int) : Ret (f_X_lay x M) (fun M' => LC (l ++ [x]) M' ∧ Fp pL M M') := by
  unfold f_X_lay
  refine Ret.bind (R := fun M' => LC (l ++ [x]) M' ∧ Fp pL M M') ?_ (fun q hq => Ret.pure hq)
  rw [h.2.1]
  refine Ret.t (by omega) (Ret.letM (Ret.letM ?_))
  rw [putM_nat _ _ _ _ hl]
  have e : mupd M 360 l.length x 0 16 = (l.length : Int) := by rw [mupd_ne _ _ (by omega)]; exact h.2.1
  rw [e, w32e (by omega) (by omega)]
  refine Ret.pure ⟨⟨by simp; omega, by rw [mupd_same]; simp, fun i y hy => ?_⟩, (Fp.rf.upd (Or.inl rfl)).upd (Or.inr ⟨rfl, rfl⟩)⟩
  rw [mupd_ne _ _ (by omega)]
  rw [List.getElem?_append] at hy
  by_cases hi : i < l.length
  · rw [if_pos hi] at hy
    rw [mupd_ne2 _ _ (by omega)]
    exact h.2.2 i y hy
  · rw [if_neg hi] at hy
    have : i = l.length := by
      cases hq : i - l.length with
      | zero => omega
      | succ n => rw [hq] at hy; cases hy
    subst this
    rw [Nat.sub_self] at hy
    cases hy
    exact mupd_same _ _ _ _
/-- the second side lays one more -/
theorem LM_add {l : List Int} {M : KM} (h : LM l M) (hl : l.length < 8) (x : Int) : LM (l ++ [x]) (mupd (mupd M 424 l.length x) 382 63 (l.length + 1)) ∧ Fp pWL M (mupd (mupd M 424 l.length x) 382 63 (l.length + 1)) := by
  refine ⟨⟨by simp; omega, by rw [mupd_same]; simp, fun i y hy => ?_⟩, (Fp.rf.upd (Or.inr (Or.inl rfl))).upd (Or.inr (Or.inr (Or.inr ⟨rfl, rfl⟩)))⟩
  rw [mupd_ne _ _ (by omega)]
  rw [List.getElem?_append] at hy
  by_cases hi : i < l.length
  · rw [if_pos hi] at hy
    rw [mupd_ne2 _ _ (by omega)]
    exact h.2.2 i y hy
  · rw [if_neg hi] at hy
    have : i = l.length := by
      cases hq : i - l.length with
      | zero => omega
      | succ n => rw [hq] at hy; cases hy
    subst this
    rw [Nat.sub_self] at hy
    cases hy
    exact mupd_same _ _ _ _
def twF (T : TW) (R : Nat → RL) (v : Nat → Int) (r : Int) (f : Nat) : Nat := if hasV T R v (T 5 f) r (v (T 5 f).toNat) = 0 then 0 else fewA T R v (T 6 f) r (min 99 (v (T 5 f).toNat - T 0 3))
def twS (T : TW) (R : Nat → RL) (v : Nat → Int) (r : Int) : Nat → Int × List Int := itF (fun f s => if twF T R v r f = 0 then s else (w32 (s.1 + 1), if s.1 = 0 then [T 5 f, T 6 f, (twF T R v r f : Int)] else s.2)) (0, [])
theorem twS_ok (T : TW) (R : Nat → RL) (v : Nat → Int) (r : Int) : ∀ f : Nat, f ≤ 20 → 0 ≤ (twS T R v r f).1 ∧ (twS T R v r f).1 ≤ f ∧ ((twS T R v r f).1 = 0 → (twS T R v r f).2 = []) ∧ (twS T R v r f).2.length ≤ 3 := by
  intro f
  induction f with
  | zero => intro _; exact ⟨Int.le_refl 0, Int.le_refl 0, fun _ => rfl, Nat.zero_le 3⟩
  | succ f ih =>
    intro hf
    obtain ⟨h1, h2, h3, h4⟩ := ih (by omega)
    have e : twS T R v r (f + 1) = if twF T R v r f = 0 then twS T R v r f else (w32 ((twS T R v r f).1 + 1), if (twS T R v r f).1 = 0 then [T 5 f, T 6 f, (twF T R v r f : Int)] else (twS T R v r f).2) := rfl
    rw [e]
    by_cases hz : twF T R v r f = 0
    · rw [if_pos hz]; exact ⟨h1, by omega, h3, h4⟩
    · rw [if_neg hz, w32e (by omega) (by omega)]
      refine ⟨by dsimp only; omega, by dsimp only; omega, fun q => by dsimp only at q; omega, ?_⟩
      dsimp only
      split
      · simp
      · exact h4
def twiceA (T : TW) (R : Nat → RL) (v : Nat → Int) (r : Int) : Int × List Int := if 0 ≤ r ∧ r < T 0 2 then twS T R v r (T 0 1).toNat else (-1, [])
theorem X_twice {T : TW} {R : Nat → RL} {v : Nat → Int} {M : KM} (h : WC T R v M) (ho : WO T R v) (r : Int) : Ret (f_X_twice r M) (fun q => q.1 = (twiceA T R v r).1 ∧ LC (twiceA T R v r).2 q.2 ∧ Fp pVL M q.2) := by
  have o := ho.1.1
  unfold f_X_twice
  rw [letM_e]
  have f0 : Fp pVL M (mupd M 0 16 0) := Fp.rf.upd (Or.inr (Or.inr ⟨rfl, rfl⟩))
  have w0 := h.vl f0
  rw [e_X_isRight, ob_some, w0.rights]
  by_cases hr : 0 ≤ r ∧ r < T 0 2
  · unfold twiceA
    rw [if_pos hr, if_pos hr]
    refine Ret.f (by omega) (Ret.bind (R := fun q => q.1 = (twS T R v r (T 0 1).toNat).1 ∧ LC (twS T R v r (T 0 1).toNat).2 q.2 ∧ Fp pVL M q.2) (Ret.loop (T 0 1).toNat (fun f s => s.1 = (twS T R v r f).1 ∧ s.2.1 = (f : Int) ∧ LC (twS T R v r f).2 s.2.2 ∧ Fp pVL M s.2.2) ⟨rfl, rfl, LC_nil M, f0⟩ ?_ ?_) (fun q hq => Ret.pure hq))
    · rintro f s hf ⟨h1, h2, h3, h4⟩
      have hf' : (f : Int) < T 0 1 := by omega
      have w1 := h.vl h4
      obtain ⟨a1, a2, a3, a4, -⟩ := ho.1.2.2.1 f hf'
      have ag := ho.2.2.2.1 (T 5 f).toNat (by omega)
      obtain ⟨k1, k2, k3, k4⟩ := twS_ok T R v r f (by omega)
      have es : twS T R v r (f + 1) = if twF T R v r f = 0 then twS T R v r f else (w32 ((twS T R v r f).1 + 1), if (twS T R v r f).1 = 0 then [T 5 f, T 6 f, (twF T R v r f : Int)] else (twS T R v r f).2) := rfl
      rw [h2]
      refine Ret.t (by rw [w1.friends]; omega) ?_
      rw [w1.from_ ho (by omega) hf', w1.to ho (by omega) hf', Int.toNat_natCast, letI_e, letI_e, w1.age ho a1 a2, w1.least, w32e (n := v (T 5 f).toNat - T 0 3) (by omega) (by omega), letI_e]
      refine Ret.bind (X_hasNow w1 ho a1 a2 r) ?_
      rintro q1 ⟨g1, g2⟩
      refine Ret.bind (R := fun q => q.1 = (twF T R v r f : Int) ∧ Fp pV s.2.2 q.2) ?_ ?_
      · unfold twF
        by_cases hz : hasV T R v (T 5 f) r (v (T 5 f).toNat) = 0
        · rw [if_pos hz]
          exact Ret.t (by omega) (Ret.pure ⟨rfl, g2⟩)
        · rw [if_neg hz]
          refine Ret.f (by omega) (Ret.bind (X_fewest (w1.v g2) ho _ _ (by omega)) ?_)
          rintro q2 ⟨g3, g4⟩
          exact Ret.pure ⟨g3, g2.tr g4⟩
      · rintro q2 ⟨g3, g4⟩
        have w2 := w1.v g4
        have l2 := h3.v g4
        have f2 : Fp pVL M q2.2 := h4.tr g4.vl
        by_cases hz : twF T R v r f = 0
        · rw [if_pos hz] at es
          refine Ret.bind (Ret.t (by rw [g3, hz]; decide) (Ret.pure (P := fun q => q = (s.1, q2.2)) rfl)) ?_
          rintro q3 rfl
          refine Ret.pure ⟨?_, ?_, ?_, f2⟩
          · rw [es]; exact h1
          · show w32 ((f : Int) + 1) = _
            rw [w32e (by omega) (by omega)]; omega
          · rw [es]; exact l2
        · rw [if_neg hz] at es
          refine Ret.bind (R := fun q => q.1 = (twS T R v r (f + 1)).1 ∧ LC (twS T R v r (f + 1)).2 q.2 ∧ Fp pVL M q.2) (Ret.f (by rw [g3]; omega) ?_) ?_
          · rw [es]
            by_cases h0 : (twS T R v r f).1 = 0
            · rw [if_pos h0]
              rw [k3 h0] at l2
              refine Ret.bind (R := fun M' => LC [T 5 f, T 6 f, (twF T R v r f : Int)] M' ∧ Fp pVL M M') (Ret.t (by omega) ?_) ?_
              · refine Ret.bind (X_lay l2 (by decide) _) ?_
                rintro M1 ⟨x1, y1⟩
                refine Ret.bind (X_lay x1 (by simp) _) ?_
                rintro M2 ⟨x2, y2⟩
                refine Ret.bind (X_lay x2 (by simp) _) ?_
                rintro M3 ⟨x3, y3⟩
                rw [g3] at x3
                exact Ret.pure ⟨x3, f2.tr (((y1.tr y2).tr y3).mono fun _ _ => Or.inr)⟩
              · rintro M1 ⟨x1, y1⟩
                exact Ret.pure ⟨by dsimp only; rw [h1], x1, y1⟩
            · rw [if_neg h0]
              refine Ret.bind (R := fun M' => M' = q2.2) (Ret.f (by omega) (Ret.pure rfl)) ?_
              rintro M1 rfl
              exact Ret.pure ⟨by dsimp only; rw [h1], l2, f2⟩
          · rintro q3 ⟨y1, y2, y3⟩
            refine Ret.pure ⟨y1, ?_, y2, y3⟩
            show w32 ((f : Int) + 1) = _
            rw [w32e (by omega) (by omega)]; omega
    · rintro s ⟨h1, h2, h3, h4⟩
      have w1 := h.vl h4
      exact Ret.f (by rw [h2, w1.friends]; omega) (Ret.pure ⟨h1, h3, h4⟩)
  · unfold twiceA
    rw [if_neg hr, if_neg hr]
    exact Ret.t rfl (Ret.pure ⟨rfl, LC_nil M, f0⟩)
set_option maxRecDepth 20000 in
theorem M_twice {b : Nat} {T : TW} {R : Nat → RL} {v : Nat → Int} {M : KM} (h : WM b T R v M) (ho : WO T R v) (r : Int) : Ret (f_M_twice r M) (fun q => q.1 = (twiceA T R v r).1 ∧ LM (twiceA T R v r).2 q.2 ∧ Fp pWL M q.2) := by
  have o := ho.1.1
  have hb := h.1.1
  unfold f_M_twice
  rw [letM_e]
  have f0 : Fp pWL M (mupd M 382 63 0) := Fp.rf.upd (Or.inr (Or.inr (Or.inr ⟨rfl, rfl⟩)))
  have w0 := h.wl f0
  rw [M_isRight w0 ho, ob_some]
  by_cases hr : 0 ≤ r ∧ r < T 0 2
  · unfold twiceA
    rw [if_pos hr, if_pos hr, (w0.bf ho).1, letI_e]
    refine Ret.f (by omega) (Ret.bind (R := fun q => q.1 = (twS T R v r (T 0 1).toNat).1 ∧ LM (twS T R v r (T 0 1).toNat).2 q.2 ∧ Fp pWL M q.2) (Ret.loop (T 0 1).toNat (fun f s => s.1 = (twS T R v r f).1 ∧ s.2.1 = ((20 * b + f : Nat) : Int) ∧ LM (twS T R v r f).2 s.2.2 ∧ Fp pWL M s.2.2) ⟨rfl, rfl, LM_nil M, f0⟩ ?_ ?_) (fun q hq => Ret.pure hq))
    · rintro f s hf ⟨h1, h2, h3, h4⟩
      have hf' : (f : Int) < T 0 1 := by omega
      have w1 := h.wl h4
      obtain ⟨a1, a2, a3, a4, -⟩ := ho.1.2.2.1 f hf'
      have ag := ho.2.2.2.1 (T 5 f).toNat (by omega)
      obtain ⟨k1, k2, k3, k4⟩ := twS_ok T R v r f (by omega)
      have es : twS T R v r (f + 1) = if twF T R v r f = 0 then twS T R v r f else (w32 ((twS T R v r f).1 + 1), if (twS T R v r f).1 = 0 then [T 5 f, T 6 f, (twF T R v r f : Int)] else (twS T R v r f).2) := rfl
      have hfr := w1.2.1.2.2.1 f hf'
      have hbf := w1.bf ho
      rw [h2]
      refine Ret.t (by rw [w1.1.2]; omega) (Ret.t (by rw [hbf.2]; omega) (Ret.t (by omega) ?_))
      rw [Int.toNat_natCast, hfr.1, hfr.2.1, letI_e]
      refine Ret.t (by omega) ?_
      rw [letI_e]
      refine Ret.bind (M_doesHave w1 ho a1 a2 hr) ?_
      rintro q1 ⟨g1, g2⟩
      refine Ret.bind (R := fun q => q.1 = (twS T R v r (f + 1)).1 ∧ LM (twS T R v r (f + 1)).2 q.2 ∧ Fp pWL M q.2) ?_ ?_
      · have l1 := h3.w g2
        have f1 : Fp pWL M q1.2 := h4.tr g2.wl
        have w2 := w1.w g2
        by_cases hz : hasV T R v (T 5 f) r (v (T 5 f).toNat) = 0
        · have ez : twF T R v r f = 0 := by unfold twF; rw [if_pos hz]
          rw [if_pos ez] at es
          rw [es]
          exact Ret.t (by omega) (Ret.pure ⟨h1, l1, f1⟩)
        · have ez : twF T R v r f = fewA T R v (T 6 f) r (min 99 (v (T 5 f).toNat - T 0 3)) := by unfold twF; rw [if_neg hz]
          unfold fewA at ez
          refine Ret.f (by omega) ?_
          rw [e_M_isAlive (w2.all (by omega)) ho.2 a3 (by omega), ob_some]
          by_cases ha : alv v (T 6 f) = true
          · rw [if_pos ha]
            refine Ret.f (by omega) (Ret.bind (M_doesHave w2 ho a3 a4 hr) ?_)
            rintro q2 ⟨g3, g4⟩
            have w3 := w2.w g4
            have l3 := l1.w g4
            have f3 : Fp pWL M q2.2 := f1.tr g4.wl
            by_cases hz2 : hasV T R v (T 6 f) r (v (T 6 f).toNat) = 0
            · rw [if_pos (And.intro ha hz2)] at ez
              have b1 := w3.age ho a1 a2
              have e3 : q2.2 390 b = T 0 3 := w3.2.1.1.2.2.2.1
              rw [b1.1]
              refine Ret.t (by omega) (Ret.t b1.2.1 (Ret.t (by rw [w3.1.2]; omega) ?_))
              rw [b1.2.2, w3.1.2, Int.toNat_natCast, e3, w32e (n := v (T 5 f).toNat - T 0 3) (by omega) (by omega), letI_e]
              have e5 : (if v (T 5 f).toNat - T 0 3 < 99 then some (v (T 5 f).toNat - T 0 3) else some (99 : Int)) = some (min 99 (v (T 5 f).toNat - T 0 3)) := by
                by_cases hq : v (T 5 f).toNat - T 0 3 < 99
                · rw [if_pos hq]; congr 1; omega
                · rw [if_neg hq]; congr 1; omega
              rw [e5, ob_some]
              refine Ret.bind (M_fewest w3 ho a3 a4 hr (by omega)) ?_
              rintro q3 ⟨g5, g6⟩
              have w4 := w3.w g6
              have l4 := l3.w g6
              have f4 : Fp pWL M q3.2 := f3.tr g6.wl
              by_cases hz3 : twF T R v r f = 0
              · rw [if_pos hz3] at es
                rw [es]
                rw [← ez, if_pos hz3] at g5
                exact Ret.t (by omega) (Ret.pure ⟨h1, l4, f4⟩)
              · rw [if_neg hz3] at es
                rw [es]
                rw [← ez, if_neg hz3] at g5
                refine Ret.f (by omega) ?_
                rw [h1]
                by_cases h0 : (twS T R v r f).1 = 0
                · rw [if_pos h0]
                  refine Ret.t (by rw [h0]; decide) (Ret.t (by omega) (Ret.letM (Ret.t (by omega) (Ret.letM (Ret.t (by omega) (Ret.letM (Ret.letM (Ret.pure ⟨rfl, ?_, ?_⟩))))))))
                  · dsimp only
                    refine ⟨by simp, by rw [mupd_same]; rfl, fun i x hi => ?_⟩
                    rw [mupd_ne _ _ (by omega)]
                    match i, hi with
                    | 0, hi => cases hi; rw [mupd_ne2 _ _ (by decide), mupd_ne2 _ _ (by decide)]; exact mupd_same _ _ _ _
                    | 1, hi => cases hi; rw [mupd_ne2 _ _ (by decide)]; exact mupd_same _ _ _ _
                    | 2, hi => cases hi; rw [← g5]; exact mupd_same _ _ _ _
                    | n + 3, hi => cases hi
                  · exact (((f4.upd (Or.inr (Or.inl rfl))).upd (Or.inr (Or.inl rfl))).upd (Or.inr (Or.inl rfl))).upd (Or.inr (Or.inr (Or.inr ⟨rfl, rfl⟩)))
                · rw [if_neg h0]
                  exact Ret.f (by rw [w32e (by omega) (by omega)]; omega) (Ret.pure ⟨rfl, l4, f4⟩)
            · rw [if_neg (fun q => hz2 q.2)] at ez
              rw [if_pos ez] at es
              rw [es]
              exact Ret.f (by omega) (Ret.pure ⟨h1, l3, f3⟩)
          · rw [if_neg (fun q => ha q.1)] at ez
            rw [if_pos ez] at es
            rw [es, if_neg ha]
            exact Ret.t rfl (Ret.pure ⟨h1, l1, f1⟩)
      · rintro q3 ⟨y1, y2, y3⟩
        refine Ret.pure ⟨y1, ?_, y2, y3⟩
        show w32 (((20 * b + f : Nat) : Int) + 1) = _
        rw [w32e (by omega) (by omega)]; omega
    · rintro s ⟨h1, h2, h3, h4⟩
      have w1 := h.wl h4
      have hbf := w1.bf ho
      exact Ret.t (by rw [w1.1.2]; omega) (Ret.f (by rw [h2, hbf.2]; omega) (Ret.pure ⟨h1, h3, h4⟩))
  · unfold twiceA
    rw [if_neg hr, if_neg hr]
    exact Ret.t rfl (Ret.pure ⟨rfl, LM_nil M, f0⟩)
