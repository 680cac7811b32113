/-! ONE GIVES ALL: the second side -/
def LKr (L : Nat → Nat) (n : Nat) (M : KM) : Prop := ∀ p : Nat, p < n → M 425 p = if L p = 0 then -1 else (L p : Int)
theorem LKr.congr {L : Nat → Nat} {n : Nat} {M M' : KM} (h : LKr L n M) (h1 : M' 425 = M 425) : LKr L n M' := by
  unfold LKr at h ⊢; rw [h1]; exact h
theorem frd_self {T : TW} {R : Nat → RL} (ho : okT T R) (p : Int) : frdV T p p = none := by
  cases hf : frdV T p p with
  | none => rfl
  | some f =>
    obtain ⟨h1, h2, h3⟩ := frdV_some hf
    have := (ho.2.2.1 f h1).2.2.2.2.1
    omega
def pA (k j : Nat) : Prop := k = 424 ∨ k = 425 ∨ (k = 382 ∧ j = 63)
theorem M_allBest {M : KM} {L : Nat → Nat} (h : LKr L 8 M) : whileO (σ := Int × Int) (ε := Int) (fun s16 => (if s16.2 < (8 : Int) then (if 0 ≤ s16.2 ∧ s16.2 < 8 then Option.bind ((if M 425 (s16.2).toNat < (0 : Int) then some s16.1 else (if s16.1 < (0 : Int) then some s16.2 else (if 0 ≤ s16.2 ∧ s16.2 < 8 then (if 0 ≤ s16.1 ∧ s16.1 < 8 then (if M 425 (s16.2).toNat < M 425 (s16.1).toNat then some s16.2 else some s16.1) else none) else none))) : Option (Int)) (fun t17 => some (Sum.inl (t17, w32 (s16.2 + (1 : Int))))) else none) else some (Sum.inr s16.1))) ((-1 : Int), (0 : Int)) = some (match bst L 8 with | none => (-1 : Int) | some q => (q : Int)) := by
  rw [wh_for (fun i => ((match bst L i with | none => (-1 : Int) | some q => (q : Int)), (i : Int))) 8 (match bst L 8 with | none => (-1 : Int) | some q => (q : Int)) (by rfl) ?_ ?_]
  · intro i hi
    dsimp only
    rw [if_pos (by omega), if_pos (by omega), Int.toNat_natCast, h i hi, w32e (by omega) (by omega), bst_s]
    by_cases hz : L i = 0
    · rw [if_pos hz, if_pos (by omega), if_pos hz]; rfl
    · rw [if_neg hz, if_neg (by omega), if_neg hz]
      cases hb : bst L i with
      | none => rfl
      | some q =>
        obtain ⟨b1, b2, b3⟩ := bst_some hb
        dsimp only
        rw [if_neg (by omega), if_pos (by omega), if_pos (by omega), Int.toNat_natCast, h q (by omega), if_neg b2]
        by_cases hlt : L i < L q
        · rw [if_pos (by omega), if_pos hlt]; rfl
        · rw [if_neg (by omega), if_neg hlt]; rfl
  · dsimp only
    rw [if_neg (by omega)]
theorem M_all {b : Nat} {T : TW} {R : Nat → RL} {v : Nat → Int} {M : KM} (h : WM b T R v M) (ho : WO T R v) (p r : Int) : Ret (f_M_all p r M) (fun q => q.1 = (allA T R v p r).1 ∧ LM (allA T R v p r).2 q.2 ∧ Fp pWL M q.2) := by
  have o := ho.1.1
  unfold f_M_all
  rw [letM_e]
  have f0 : Fp pWL M (mupd M 382 63 0) := Fp.rf.upd (Or.inr (Or.inr (Or.inr ⟨rfl, rfl⟩)))
  have w0 := h.wl f0
  rw [M_isPerson w0 ho, ob_some]
  unfold allA
  by_cases hp : 0 ≤ p ∧ p < T 0 0
  · rw [if_pos hp]
    refine Ret.f (by omega) ?_
    rw [M_isRight w0 ho, ob_some]
    by_cases hr : 0 ≤ r ∧ r < T 0 2
    · rw [if_pos hr]
      refine Ret.f (by omega) ?_
      rw [e_M_isAlive (w0.all (by omega)) ho.2 hp.1 (by omega), ob_some]
      by_cases ha : alv v p = true
      · have ag := ho.2.2.2.1 p.toNat (by omega)
        rw [if_pos ha, if_pos (And.intro ha hr)]
        refine Ret.f (by omega) ?_
        refine Ret.bind (R := fun M1 => LKr (lack0 T R v p r) 8 M1 ∧ LM [] M1 ∧ Fp pWL M M1) (Ret.loop 8 (fun i s => s.1 = (i : Int) ∧ LKr (lack0 T R v p r) i s.2 ∧ LM [] s.2 ∧ Fp pWL M s.2) ⟨rfl, fun q hq => absurd hq (Nat.not_lt_zero _), LM_nil M, f0⟩ ?_ ?_) ?_
        · rintro i s hi ⟨h1, h2, h3, h4⟩
          have w1 := h.wl h4
          rw [h1]
          refine Ret.t (by omega) ?_
          rw [e_M_many w1.1, ob_some, w1.n]
          refine Ret.bind (R := fun q => q.1 = (if lack0 T R v p r i = 0 then -1 else (lack0 T R v p r i : Int)) ∧ Fp pW s.2 q.2) ?_ ?_
          · unfold lack0
            by_cases hin : (i : Int) < T 0 0
            · refine Ret.t hin ?_
              by_cases hip : (i : Int) = p
              · rw [hip, frd_self ho.1, if_neg (fun q : (p < T 0 0) ∧ (none : Option Nat).isSome = true => by cases q.2)]
                exact Ret.t rfl (Ret.pure ⟨rfl, Fp.rf⟩)
              · refine Ret.f hip ?_
                rw [e_M_isAlive (w1.all (by omega)) ho.2 (by omega) (by omega), ob_some, M_friendsOf w1 ho, ob_some]
                by_cases hai : alv v i = true
                · rw [if_pos hai]
                  refine Ret.f (by omega) ?_
                  cases hf : frdV T p i with
                  | none =>
                    rw [if_neg (fun q : ((i : Int) < T 0 0) ∧ (none : Option Nat).isSome = true => by cases q.2)]
                    exact Ret.t (by dsimp only; omega) (Ret.pure ⟨rfl, Fp.rf⟩)
                  | some f =>
                    rw [if_pos (show ((i : Int) < T 0 0) ∧ (some f).isSome = true from ⟨hin, rfl⟩)]
                    refine Ret.f (Int.not_lt.mpr (Int.natCast_nonneg _)) (Ret.bind (M_doesHave w1 ho (by omega) hin hr) ?_)
                    rintro q ⟨g1, g2⟩
                    have w2 := w1.w g2
                    unfold fewA
                    by_cases hz : hasV T R v i r (v (i : Int).toNat) = 0
                    · rw [if_pos (And.intro hai hz)]
                      refine Ret.t (by omega) (Ret.bind (M_fewest w2 ho (by omega) hin hr (by omega)) ?_)
                      rintro q2 ⟨g3, g4⟩
                      exact Ret.pure ⟨g3, g2.tr g4⟩
                    · rw [if_neg (fun q : alv v i = true ∧ hasV T R v i r (v (i : Int).toNat) = 0 => hz q.2)]
                      exact Ret.f (by omega) (Ret.pure ⟨rfl, g2⟩)
                · rw [if_neg hai]
                  have e : fewA T R v i r 150 = 0 := by unfold fewA; rw [if_neg (fun q => hai q.1)]
                  rw [e]
                  refine Ret.t rfl (Ret.pure ⟨?_, Fp.rf⟩)
                  split <;> rfl
            · have hc2 : ¬ ((i : Int) < T 0 0 ∧ (frdV T p i).isSome = true) := fun q => hin q.1
              rw [if_neg hc2]
              exact Ret.f hin (Ret.pure ⟨rfl, Fp.rf⟩)
          · rintro q ⟨g1, g2⟩
            refine Ret.t (by omega) (Ret.letM (Ret.pure ⟨?_, ?_, ?_, ?_⟩))
            · dsimp only; rw [w32e (by omega) (by omega)]; omega
            · intro j hj
              dsimp only
              rw [Int.toNat_natCast]
              by_cases hji : j = i
              · subst hji; rw [mupd_same]; exact g1
              · rw [mupd_ne2 _ _ hji, (g2.row (k := 425) (fun j => by unfold pW; omega) : q.2 425 = s.2 425)]
                exact h2 j (by omega)
            · dsimp only
              exact LM.congr (h3.w g2) (mupd_ne _ _ (by omega)) (by funext j; exact mupd_ne _ _ (by omega))
            · exact (h4.tr g2.wl).upd (Or.inr (Or.inr (Or.inl rfl)))
        · rintro s ⟨h1, h2, h3, h4⟩
          exact Ret.f (by omega) (Ret.pure ⟨h2, h3, h4⟩)
        · rintro M1 ⟨h2, h3, h4⟩
          have w1 := h.wl h4
          have a1 := w1.age ho hp.1 hp.2
          have e3 : M1 390 b = T 0 3 := w1.2.1.1.2.2.2.1
          rw [a1.1, a1.2.2, w1.1.2, Int.toNat_natCast, e3, w32e (by omega) (by omega), letI_e]
          have hb := w1.1.1
          refine Ret.t a1.2.1 (Ret.t (by omega) ?_)
          have hok : ∀ k, aok (T 0 0).toNat (lack0 T R v p r) (v p.toNat - T 0 3) k (allV T R v p r k) := ait_ok (n := (T 0 0).toNat) (L0 := lack0 T R v p r) (left := v p.toNat - T 0 3) (by omega) (fun q hq => lack0_hi hq) (by omega)
          have h8 : astop (allV T R v p r 8) := by
            rcases (hok 8).2.2.2.2.2 with hq | hq
            · exact hq
            · omega
          refine Ret.bind (R := fun M2 => LM (allV T R v p r 8).2.2 M2 ∧ Fp pWL M M2) (Ret.meas (I := fun m (s : Int × KM) => ∃ k, m = acnt (allV T R v p r k).1 ∧ s.1 = (allV T R v p r k).2.1 ∧ LKr (allV T R v p r k).1 8 s.2 ∧ LM (allV T R v p r k).2.2 s.2 ∧ Fp pWL M s.2) ?_ (acnt (allV T R v p r 0).1) _ ⟨0, rfl, rfl, h2, h3, h4⟩) ?_
          · rintro m s ⟨k, rfl, g1, g2, g3, g4⟩
            obtain ⟨k1, k2, k3, k4, k5, k6⟩ := hok k
            rw [M_allBest g2, ob_some]
            cases hbk : bst (allV T R v p r k).1 8 with
            | none =>
              have hs : astop (allV T R v p r k) := fun q hq => by rw [hbk] at hq; cases hq
              refine Ret.t (by dsimp only; omega) (Ret.pure ?_)
              show LM _ _ ∧ _
              have e8 : allV T R v p r k = allV T R v p r 8 := ait_same hs h8
              rw [← e8]
              exact ⟨g3, g4⟩
            | some q =>
              obtain ⟨b1, b2, b3⟩ := bst_some hbk
              dsimp only
              refine Ret.f (by omega) (Ret.t (by omega) ?_)
              rw [Int.toNat_natCast, g2 q b1, if_neg b2, g1]
              by_cases hle : ((allV T R v p r k).1 q : Int) ≤ (allV T R v p r k).2.1
              · have hns : ¬ astop (allV T R v p r k) := fun hs => by have := hs q hbk; omega
                have hlen := (k6.resolve_left hns).2
                have eS : allV T R v p r (k + 1) = (fun x => if x = q then 0 else (allV T R v p r k).1 x, (allV T R v p r k).2.1 - (allV T R v p r k).1 q, (allV T R v p r k).2.2 ++ [(q : Int)]) := astp_go hbk hle
                have e63 : mupd s.2 425 q (-1) 382 63 = ((allV T R v p r k).2.2.length : Int) := by rw [mupd_ne _ _ (by omega)]; exact g3.2.1
                refine Ret.t hle (Ret.t (by omega) (Ret.letI (Ret.t (by omega) (Ret.letM (Ret.t (by rw [e63]; omega) (Ret.letM (Ret.letM (Ret.pure ?_))))))))
                have e63' : ∀ x y, mupd (mupd s.2 425 q (-1)) 424 x y 382 63 = ((allV T R v p r k).2.2.length : Int) := fun x y => by rw [mupd_ne _ _ (by omega)]; exact e63
                have l3 : LM (allV T R v p r k).2.2 (mupd s.2 425 q (-1)) := g3.congr (by rw [mupd_ne _ _ (by omega)]) (by funext j; exact mupd_ne _ _ (by omega))
                obtain ⟨x1, y1⟩ := LM_add l3 (by omega) (q : Int)
                refine ⟨acnt (allV T R v p r (k + 1)).1, ?_, k + 1, rfl, ?_, ?_, ?_, ?_⟩
                · have hd := cnt_drop b2 8
                  rw [if_pos b1] at hd
                  rw [eS]
                  unfold acnt
                  dsimp only
                  omega
                · rw [eS]
                  dsimp only
                  rw [w32e (by omega) (by omega)]
                · intro j hj
                  rw [eS]
                  dsimp only
                  rw [mupd_ne _ _ (by omega), mupd_ne _ _ (by omega)]
                  by_cases hjq : j = q
                  · subst hjq; rw [mupd_same]; simp
                  · rw [mupd_ne2 _ _ hjq]; simp only [hjq, if_false]; exact g2 j hj
                · rw [eS]
                  dsimp only
                  rw [e63', e63, Int.toNat_natCast, w32e (by omega) (by omega)]
                  exact x1
                · dsimp only
                  rw [e63', e63, Int.toNat_natCast, w32e (by omega) (by omega)]
                  exact (g4.upd (Or.inr (Or.inr (Or.inl rfl)))).tr y1
              · have hs : astop (allV T R v p r k) := fun x hx => by rw [hbk] at hx; cases hx; omega
                refine Ret.f hle (Ret.pure ?_)
                show LM _ _ ∧ _
                have e8 : allV T R v p r k = allV T R v p r 8 := ait_same hs h8
                rw [← e8]
                exact ⟨g3, g4⟩
          · rintro M2 ⟨g1, g2⟩
            exact Ret.pure ⟨g1.2.1, g1, g2⟩
      · rw [if_neg ha, if_neg (fun q : alv v p = true ∧ (0 ≤ r ∧ r < T 0 2) => ha q.1)]
        exact Ret.t rfl (Ret.pure ⟨rfl, LM_nil M, f0⟩)
    · rw [if_neg hr, if_neg (fun q : alv v p = true ∧ (0 ≤ r ∧ r < T 0 2) => hr q.2)]
      exact Ret.t rfl (Ret.pure ⟨rfl, LM_nil M, f0⟩)
  · rw [if_neg hp, if_neg (fun q : alv v p = true ∧ (0 ≤ r ∧ r < T 0 2) => hp (alv_R ho.2 q.1))]
    exact Ret.t rfl (Ret.pure ⟨rfl, LM_nil M, f0⟩)
