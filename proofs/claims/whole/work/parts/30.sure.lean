/-! EXPLAINED, SURE, FORGED: their answers on the second side -/
theorem mst_ind {good : IT → Bool} {a1 a2 : IT → Int} : ∀ {L : List IT} {s1 s2 : NS}, s1.1 = s2.1 → s1.2.1 = s2.2.1 → (L.foldl (mst good a1) s1).1 = (L.foldl (mst good a2) s2).1 ∧ (L.foldl (mst good a1) s1).2.1 = (L.foldl (mst good a2) s2).2.1 := by
  intro L
  induction L with
  | nil => intro s1 s2 h1 h2; exact ⟨h1, h2⟩
  | cons x L ih =>
    intro s1 s2 h1 h2
    rw [List.foldl_cons, List.foldl_cons]
    refine ih ?_ ?_
    · unfold mst
      split
      · dsimp only; rw [h1]
      · exact h1
    · unfold mst
      split
      · dsimp only; rw [h1, h2]
      · exact h2
theorem pR_pMS {k j : Nat} (h : pR k j) : ¬ pMS k j := by unfold pR at h; unfold pMS pMN; omega
theorem M_explained {b : Nat} {T F : TW} {R : Nat → RL} {v : Nat → Int} {c : Nat} {t : Int} {M : KM} (hwm : WM b T R v M) (ho : WO T R v) (hF : FM c t F M) (hok : okF T c t F) (k : Int) : Ret (f_M_explained k M) (fun q => q.1 = (exA T F c k).1 ∧ LM (exA T F c k).2 q.2 ∧ Fp pMS M q.2) := by
  unfold f_M_explained
  refine Ret.letM ?_
  have f0 : Fp pMS M (mupd M 382 63 0) := Fp.rf.upd (Or.inr (Or.inr (Or.inr ⟨rfl, by omega⟩)))
  have e63 : mupd M 382 63 0 382 63 = 0 := mupd_same _ _ _ _
  have w0 := hwm.ms f0
  have F0 := hF.ms f0
  generalize mupd M 382 63 0 = M0 at f0 e63 w0 F0 ⊢
  refine Ret.bind (M_explain (w := 0) (k := k) w0 ho F0 hok (by omega)) ?_
  rintro M1 ⟨n1, f1⟩
  rw [e63] at n1
  have h1 := ends_same T (T 0 1).toNat (goodF F k c) (ageG T (-1))
  have h2 := mst_ind (good := goodF F k c) (a1 := ageM T (fun p => M0 393 (8 * b + p)) 0) (a2 := ageG T (-1)) (L := itM T (T 0 1).toNat) (s1 := ns0) (s2 := ns0) rfl rfl
  have e1 : (endM T (T 0 1).toNat (goodF F k c) (ageM T (fun p => M0 393 (8 * b + p)) 0)).1 = (endC T (T 0 1).toNat (goodF F k c) (ageG T (-1))).1 := h2.1.trans h1.1.symm
  have e2 : (endM T (T 0 1).toNat (goodF F k c) (ageM T (fun p => M0 393 (8 * b + p)) 0)).2.1 = (endC T (T 0 1).toNat (goodF F k c) (ageG T (-1))).2.1 := h2.2.trans h1.2.1.symm
  have hl4 : (exA T F c k).2.length ≤ 4 := nst_len (fun x hx => it_len4 hx) (Nat.zero_le _)
  refine Ret.pure ⟨?_, ?_, f0.tr f1⟩
  · dsimp only
    rw [n1.1, e1]; rfl
  · show LM (endC T (T 0 1).toNat (goodF F k c) (ageG T (-1))).2.1 M1
    rw [← e2]
    by_cases h0 : (endM T (T 0 1).toNat (goodF F k c) (ageM T (fun p => M0 393 (8 * b + p)) 0)).1 = 0
    · have := n1.2.2.1 h0
      rw [this.2.2]
      exact ⟨by decide, this.1, fun i x hx => by cases hx⟩
    · have := n1.2.2.2 h0
      refine ⟨?_, this.1, this.2.1⟩
      rw [e2]
      have : (endC T (T 0 1).toNat (goodF F k c) (ageG T (-1))).2.1.length ≤ 4 := hl4
      omega
def pMSk (k j : Nat) : Prop := pMS k j ∨ k = 432
theorem M_sure {b : Nat} {T F : TW} {R : Nat → RL} {v : Nat → Int} {c : Nat} {t : Int} {M : KM} {l : List Int} (hwm : WM b T R v M) (ho : WO T R v) (hF : FM c t F M) (hok : okF T c t F) (hL : LM l M) (p k : Int) : Ret (f_M_sure p k M) (fun q => q.1 = sureA T F c p k ∧ LM l q.2 ∧ Fp pMSk M q.2) := by
  have o := ho.1.1
  unfold f_M_sure sureA
  rw [M_isPerson hwm ho, ob_some]
  by_cases hp : 0 ≤ p ∧ p < T 0 0
  · rw [if_pos hp, if_pos hp]
    refine Ret.f (by omega) (Ret.letI ?_)
    refine Ret.bind (R := fun M1 => (∀ i, i < 8 → M1 432 i = M 424 i) ∧ ∀ c, c ≠ 432 → M1 c = M c) (Ret.loop 8 (fun i s => s.1 = (i : Int) ∧ (∀ j, j < i → s.2 432 j = M 424 j) ∧ ∀ c, c ≠ 432 → s.2 c = M c) ⟨rfl, fun j hj => absurd hj (Nat.not_lt_zero _), fun c _ => rfl⟩ ?_ ?_) ?_
    · rintro i s hi ⟨k1, k2, k3⟩
      rw [k1, w32e (n := (i : Int) + 1) (by omega) (by omega), k3 424 (by omega)]
      refine Ret.t (by omega) (Ret.t (by omega) (Ret.t (by omega) (Ret.letM (Ret.pure ⟨rfl, fun j hj => ?_, fun c hc => by funext z; dsimp only; rw [mupd_ne _ _ hc, k3 c hc]⟩))))
      dsimp only
      rw [Int.toNat_natCast]
      by_cases hji : j = i
      · subst hji; rw [mupd_same]
      · rw [mupd_ne2 _ _ hji]; exact k2 j (by omega)
    · rintro s ⟨k1, k2, k3⟩
      exact Ret.f (by omega) (Ret.pure ⟨k2, k3⟩)
    · rintro M1 ⟨y1, y2⟩
      have f1 : Fp pMSk M M1 := fun k j hk => by rw [y2 k (fun q => hk (Or.inr q))]
      have w1 : WM b T R v M1 := hwm.congr (fun k j hk => by rw [y2 k (by unfold pR at hk; omega)])
      have F1 : FM c t F M1 := hF.congr (fun k j hk => by rw [y2 k (by unfold pFM at hk; omega)])
      refine Ret.bind (M_explain (w := p) (k := k) w1 ho F1 hok (by omega)) ?_
      rintro M2 ⟨n2, f2⟩
      have h1 := ends_same T (T 0 1).toNat (goodF F k c) (ageG T p)
      have ea : ageM T (fun q => M1 393 (8 * b + q)) p = ageG T p := by
        funext x
        unfold ageM ageG
        rw [if_pos hp.2, if_pos hp]
      rw [ea] at n2
      refine Ret.letM ?_
      refine Ret.bind (R := fun M3 => (∀ i, i < 8 → M3 424 i = M 424 i) ∧ M3 382 63 = M 382 63 ∧ (∀ k j, ¬ (k = 424 ∨ (k = 382 ∧ j = 63)) → M3 k j = M2 k j)) (Ret.loop 8 (fun i s => s.1 = (i : Int) ∧ (∀ j, j < i → s.2 424 j = M 424 j) ∧ s.2 382 63 = M 382 63 ∧ (∀ k j, ¬ (k = 424 ∨ (k = 382 ∧ j = 63)) → s.2 k j = M2 k j)) ⟨rfl, fun j hj => absurd hj (Nat.not_lt_zero _), by dsimp only; exact mupd_same _ _ _ _, fun k j hk => by dsimp only; rw [mupd_at, if_neg (by omega)]⟩ ?_ ?_) ?_
      · rintro i s hi ⟨k1, k2, k3, k4⟩
        have e432 : s.2 432 i = M 424 i := by rw [k4 432 i (by omega), f2 432 i (by unfold pMS pMN; omega)]; exact y1 i hi
        rw [k1, w32e (n := (i : Int) + 1) (by omega) (by omega), Int.toNat_natCast, e432]
        refine Ret.t (by omega) (Ret.t (by omega) (Ret.t (by omega) (Ret.letM (Ret.pure ⟨rfl, fun j hj => ?_, by dsimp only; rw [mupd_ne _ _ (by omega)]; exact k3, fun k j hk => by dsimp only; rw [mupd_at, if_neg (by omega)]; exact k4 k j hk⟩))))
        dsimp only
        by_cases hji : j = i
        · subst hji; rw [mupd_same]
        · rw [mupd_ne2 _ _ hji]; exact k2 j (by omega)
      · rintro s ⟨k1, k2, k3, k4⟩
        exact Ret.f (by omega) (Ret.pure ⟨k2, k3, k4⟩)
      · rintro M3 ⟨z1, z2, z3⟩
        have hL3 : LM l M3 := ⟨hL.1, by rw [z2]; exact hL.2.1, fun i x hx => by
          have hi : i < l.length := (List.getElem?_eq_some_iff.mp hx).1
          have := hL.1
          rw [z1 i (by omega)]; exact hL.2.2 i x hx⟩
        have f3 : Fp pMSk M M3 := fun k j hk => by
          rw [z3 k j (fun q => hk (Or.inl (by unfold pMS pMN; omega))), f2 k j (fun q => hk (Or.inl q))]
          exact f1 k j hk
        have e73 : M3 382 73 = M2 382 73 := z3 382 73 (by omega)
        have e74 : M3 382 74 = M2 382 74 := z3 382 74 (by omega)
        have e31 : M3 431 0 = M2 431 0 := z3 431 0 (by omega)
        have i0 : (0 : Int).toNat = 0 := rfl
        rw [e73, e74, i0, e31, n2.1, n2.2.1, h1.1]
        by_cases h0 : (endM T (T 0 1).toNat (goodF F k c) (ageG T p)).1 = 0
        · rw [if_pos h0]
          exact Ret.bind (Ret.t (by omega) (Ret.pure (P := fun z => z = -1) rfl)) (fun z hz => Ret.pure ⟨hz, hL3, f3⟩)
        · rw [if_neg h0]
          have h2 := h1.2.2 (by rw [h1.1]; exact h0)
          have n3 := (n2.2.2.2 h0).2.2
          by_cases hu : (endC T (T 0 1).toNat (goodF F k c) (ageG T p)).2.2.2 = true
          · rw [if_pos hu]
            rw [← h2.1, hu]
            exact Ret.bind (Ret.f (by omega) (Ret.f (by simp) (Ret.pure (P := fun z => z = -2) rfl))) (fun z hz => Ret.pure ⟨hz, hL3, f3⟩)
          · rw [if_neg hu]
            simp only [Bool.not_eq_true] at hu
            rw [← h2.1, hu, n3]
            exact Ret.bind (Ret.f (by omega) (Ret.t (by simp) (Ret.t (by omega) (Ret.pure (P := fun z => z = (endM T (T 0 1).toNat (goodF F k c) (ageG T p)).2.2.1) rfl)))) (fun z hz => Ret.pure ⟨by dsimp only; rw [hz, h2.2 hu], hL3, f3⟩)
  · rw [if_neg hp, if_neg hp]
    exact Ret.t rfl (Ret.pure ⟨rfl, hL, Fp.rf⟩)
theorem M_forged {b : Nat} {T F : TW} {R : Nat → RL} {v : Nat → Int} {c : Nat} {t : Int} {M : KM} (hwm : WM b T R v M) (ho : WO T R v) (hF : FM c t F M) (hok : okF T c t F) (k : Int) : Ret (f_M_forged k M) (fun q => forgA T F c k q.1 ∧ ∀ c, c ≠ 430 → q.2 c = M c) := by
  have o := ho.1.1
  have hb1 := hwm.1.1
  have hGB : ∀ M' : KM, (∀ p, p < 8 → M' 430 p = M 393 (8 * b + p)) → GBq T (fun p => M 393 (8 * b + p)) (T 1) M' := fun M' h p hp => by
    rw [h p hp]
    by_cases hq : (p : Int) < T 0 0
    · rw [if_pos hq]; exact (hwm.2.1.2.1 p hq).1
    · rw [if_neg hq]
  have wms : ∀ M' : KM, (∀ c, c ≠ 430 → M' c = M c) → WM b T R v M' := fun M' h => hwm.congr (fun k j hk => by rw [h k (by unfold pR at hk; omega)])
  have fms : ∀ M' : KM, (∀ c, c ≠ 430 → M' c = M c) → FM c t F M' := fun M' h => hF.congr (fun k j hk => by rw [h k (by unfold pFM at hk; omega)])
  unfold f_M_forged
  refine Ret.bind (M_guessAsTold hwm) ?_
  rintro M1 ⟨y1, y2⟩
  have G1 := hGB M1 y1
  rw [M_areSo (fms M1 y2) hok o.2.1, ob_some, soF_GB hok o.2.1 G1]
  unfold forgA
  by_cases hs : soF F k (T 1) c = true
  · rw [if_pos hs]
    exact Ret.f (by omega) (Ret.pure ⟨by dsimp only; rw [if_pos hs], y2⟩)
  · rw [if_neg hs]
    refine Ret.t rfl ?_
    refine Ret.bind (R := fun q => (0 ≤ q.1 ∧ q.1 < 256 ∧ ∀ p, bt q.1 p = (decide (p < (T 0 0).toNat) && forgP T F c k p)) ∧ ∀ c, c ≠ 430 → q.2 c = M c) (Ret.loop (T 0 0).toNat (fun i s => s.2.1 = (i : Int) ∧ (0 ≤ s.1 ∧ s.1 < 256 ∧ ∀ p, bt s.1 p = (decide (p < i) && forgP T F c k p)) ∧ ∀ c, c ≠ 430 → s.2.2 c = M c) ⟨rfl, ⟨Int.le_refl 0, by dsimp only; omega, fun p => by simp [bt]⟩, y2⟩ ?_ ?_) (fun q hq => Ret.pure ⟨by dsimp only; rw [if_neg hs]; exact hq.1, hq.2⟩)
    · rintro i s hi ⟨k1, ⟨k2, k3, k4⟩, k5⟩
      have hi' : (i : Int) < T 0 0 := by omega
      have w1 := wms _ k5
      rw [k1, e_M_many w1.1, ob_some, w1.n]
      refine Ret.t hi' (Ret.bind (M_guessAsTold w1) ?_)
      rintro M2 ⟨z1, z2⟩
      have z2' : ∀ c, c ≠ 430 → M2 c = M c := fun c hc => by rw [z2 c hc, k5 c hc]
      have G2 := hGB M2 (fun p hp => by rw [z1 p hp, k5 393 (by omega)])
      refine Ret.bind (R := fun M3 => GBq T (fun p => M 393 (8 * b + p)) (vset (T 1) i (lastF F k i (T 1 i) c)) M3 ∧ ∀ c, c ≠ 430 → M3 c = M c) (Ret.loop c (fun j s => s.1 = (j : Int) ∧ GBq T (fun p => M 393 (8 * b + p)) (vset (T 1) i (lastF F k i (T 1 i) j)) s.2 ∧ ∀ c, c ≠ 430 → s.2 c = M c) ⟨rfl, ?_, z2'⟩ ?_ ?_) ?_
      · have : vset (T 1) i (lastF F k i (T 1 i) 0) = T 1 := by
          funext q
          by_cases hq : q = i
          · subst hq; rw [vset_same]; rfl
          · rw [vset_ne _ _ hq]
        rw [this]; exact G2
      · rintro j s2 hj ⟨q1, q2, q3⟩
        have F2 := fms _ q3
        have hfi := F2.2 j hj
        have oj := hok.2 j hj
        have hc30 := hok.1.1
        rw [q1]
        refine Ret.t (by rw [F2.1.1]; omega) ?_
        rw [M_counts F2 hok hj, ob_some, Int.toNat_natCast, hfi.1, hfi.2.1, Int.toNat_natCast, w32e (n := (j : Int) + 1) (by omega) (by omega)]
        refine Ret.bind (R := fun M3 => GBq T (fun p => M 393 (8 * b + p)) (vset (T 1) i (lastF F k i (T 1 i) (j + 1))) M3 ∧ ∀ c, c ≠ 430 → M3 c = M c) ?_ ?_
        · rw [lastF_s]
          by_cases hcb : cB F k j = true
          · rw [if_pos hcb]
            refine Ret.f (by omega) (Ret.t (by omega) ?_)
            by_cases hw : F 0 j = (i : Int)
            · rw [if_pos (show cB F k j = true ∧ (F 0 j).toNat = i from ⟨hcb, by omega⟩)]
              refine Ret.t hw (Ret.t (by omega) (Ret.t (by omega) (Ret.letM (Ret.pure ⟨fun p hp => ?_, fun c hc => by rw [← q3 c hc]; funext z; exact mupd_ne _ _ hc⟩))))
              by_cases hpi : p = i
              · subst hpi; rw [mupd_same, if_pos hi', vset_same]
              · rw [mupd_ne2 _ _ hpi, q2 p hp, vset_ne _ _ hpi, vset_ne _ _ hpi]
            · rw [if_neg (show ¬ (cB F k j = true ∧ (F 0 j).toNat = i) from fun z => hw (by have := z.2; omega))]
              exact Ret.f hw (Ret.pure ⟨q2, q3⟩)
          · rw [if_neg hcb, if_neg (show ¬ (cB F k j = true ∧ (F 0 j).toNat = i) from fun z => hcb z.1)]
            exact Ret.t rfl (Ret.pure ⟨q2, q3⟩)
        · rintro M3 ⟨g1, g2⟩
          exact Ret.pure ⟨by dsimp only; omega, g1, g2⟩
      · rintro s2 ⟨q1, q2, q3⟩
        exact Ret.f (by rw [q1, (fms _ q3).1.1]; omega) (Ret.pure ⟨q2, q3⟩)
      · rintro M3 ⟨g1, g2⟩
        rw [M_areSo (fms M3 g2) hok o.2.1, ob_some, soF_GB hok o.2.1 g1, w32e (n := (i : Int) + 1) (by omega) (by omega)]
        refine Ret.bind (R := fun z => 0 ≤ z ∧ z < 256 ∧ ∀ p, bt z p = (decide (p < i + 1) && forgP T F c k p)) ?_ (fun z hz => Ret.pure ⟨by dsimp only; omega, hz, g2⟩)
        by_cases hf : forgP T F c k i = true
        · have hf' : soF F k (vset (T 1) i (lastF F k i (T 1 i) c)) c = true := hf
          rw [if_pos hf']
          refine Ret.f (by omega) (Ret.letI (Ret.pure ?_))
          obtain ⟨x1, x2, x3⟩ := kior_bit (p := i) k2 (by omega) (by omega)
          have x4 : ∀ p, bt (kior s.1 (kishl 1 i)) p = (decide (p < i + 1) && forgP T F c k p) := by
            intro p
            rw [x3, k4]
            by_cases hp : p = i
            · subst hp; simp [hf]
            · have : decide (p < i + 1) = decide (p < i) := decide_eq_decide.mpr (by omega)
              rw [this]; simp [hp]
          exact ⟨x1, bt_lt8 x1 (n := 8) (fun p hp => by rw [x4]; simp; intro; omega), x4⟩
        · have hf' : ¬ soF F k (vset (T 1) i (lastF F k i (T 1 i) c)) c = true := hf
          rw [if_neg hf']
          refine Ret.t rfl (Ret.pure ⟨k2, k3, fun p => ?_⟩)
          rw [k4]
          by_cases hp : p = i
          · subst hp; simp [hf]
          · have : decide (p < i + 1) = decide (p < i) := decide_eq_decide.mpr (by omega)
            rw [this]
    · rintro s ⟨k1, k2, k5⟩
      have w1 := wms _ k5
      rw [k1, e_M_many w1.1, ob_some, w1.n]
      exact Ret.f (by omega) (Ret.pure ⟨k2, k5⟩)
