/-! WHAT IS KEPT OF ACTS -/
abbrev HS : Type := Nat → Nat → Int
def HC (a u : Nat) (hs : HS) (n : Int) (M : KM) : Prop := ∃ o : Nat, o ≤ 40 ∧ (M 41 1 = (o : Int) ∧ M 41 2 = (a : Int) ∧ M 41 3 = (u : Int)) ∧ a + u ≤ 40 ∧ ∀ i, i ≤ a + u → SC (43 + 7 * ((o + i) % 41)) n (hs i) M
def HM (a u : Nat) (hs : HS) (M : KM) : Prop := (M 382 48 = (a : Int) ∧ M 382 49 = (u : Int)) ∧ a + u ≤ 40 ∧ (∀ i, i < a → SM 412 (171 * i) (hs i) M) ∧ ∀ j, j < u → SM 412 (171 * (a + j)) (hs (a + j + 1)) M
def okH (T : TW) (a u : Nat) (hs : HS) : Prop := ∀ i, i ≤ a + u → okS T (hs i)
def hA (a : Nat) : Nat := if a < 40 then a + 1 else 40
def hH (a : Nat) (hs : HS) (v : Nat → Int) : HS := fun i => if a < 40 then (if i = a + 1 then v else hs i) else (if i = 40 then v else hs (i + 1))
def pHC (k _ : Nat) : Prop := k = 41 ∨ (43 ≤ k ∧ k < 330)
def pHM (k j : Nat) : Prop := k = 412 ∨ (k = 382 ∧ (j = 48 ∨ j = 49))
theorem X_stateAfter {M : KM} {o i : Nat} (ho : M 41 1 = (o : Int)) (h : o ≤ 40) (hi : i ≤ 40) : f_History_stateAfter i M = some (43 + 7 * ((o + i) % 41)) := by
  unfold f_History_stateAfter
  rw [if_neg (by omega), ho, w32e (by omega) (by omega), krem_nn (by omega) (by omega) (by omega) (by omega), letI_e]
  rw [if_neg (by omega), if_pos (by omega), if_pos (by omega)]
  have e : (((o : Int) + i) % 41).toNat = (o + i) % 41 := by omega
  rw [e]
theorem kStB_h {i : Nat} (h : i < 41) : kStB (43 + 7 * i) = true := by
  unfold kStB
  have h1 : (43 + 7 * i - 43) % 7 = 0 := by omega
  have h2 : 43 ≤ 43 + 7 * i := by omega
  have h3 : 43 + 7 * i < 330 := by omega
  rw [decide_eq_true h1, decide_eq_true h2, decide_eq_true h3]
  simp
theorem HC.congr {a u : Nat} {hs : HS} {n : Int} {M M' : KM} (h : HC a u hs n M) (he : ∀ k j, pHC k j → M' k j = M k j) : HC a u hs n M' := by
  obtain ⟨o, h1, h2, h3, h4⟩ := h
  have g : ∀ c, c = 41 ∨ (43 ≤ c ∧ c < 330) → M' c = M c := fun c hc => by funext j; exact he c j hc
  refine ⟨o, h1, by rw [g 41 (by omega)]; exact h2, h3, fun i hi => (h4 i hi).congr (fun c h5 h6 => g c (by omega))⟩
theorem HM.congr {a u : Nat} {hs : HS} {M M' : KM} (h : HM a u hs M) (he : ∀ k j, pHM k j → M' k j = M k j) : HM a u hs M' := by
  obtain ⟨h1, h2, h3, h4⟩ := h
  have g : ∀ j, M' 412 j = M 412 j := fun j => he 412 j (Or.inl rfl)
  refine ⟨by rw [he 382 48 (by unfold pHM; omega), he 382 49 (by unfold pHM; omega)]; exact h1, h2, fun i hi => (h3 i hi).congr (fun j _ => g _), fun j hj => (h4 j hj).congr (fun j _ => g _)⟩
theorem X_add {a u : Nat} {hs : HS} {n : Int} {M : KM} {v : Nat → Int} (h : HC a u hs n M) (hv : SC 34 n v M) (h17 : v 17 ≤ 30) (hn : n ≤ 8) : Ret (f_History_add M) (fun M' => HC (hA a) 0 (hH a hs v) n M' ∧ Fp pHC M M') := by
  obtain ⟨o, h1, ⟨h2, h3, h4⟩, h5, h6⟩ := h
  unfold f_History_add
  have fin : ∀ (M2 : KM) (o' : Nat), o' ≤ 40 → M2 41 1 = (o' : Int) → M2 41 2 = (hA a : Int) → M2 41 3 = 0 → (∀ c, c ≠ 41 → M2 c = M c) → (∀ i, i < hA a → SC (43 + 7 * ((o' + i) % 41)) n (hH a hs v i) M2) → hH a hs v (hA a) = v → Ret (Option.bind (f_History_stateAfter (M2 41 2) M2) (fun q5 => (if kStB q5 = true then Option.bind (f_State_copy 34 q5 M2) (fun q7 => some q7) else none))) (fun M' => HC (hA a) 0 (hH a hs v) n M' ∧ Fp pHC M M') := by
    intro M2 o' g1 g2 g3 g4 g5 g6 g7
    have ha : hA a ≤ 40 := by unfold hA; split <;> omega
    rw [g3, X_stateAfter g2 g1 ha, ob_some]
    refine Ret.t (kStB_h (by omega)) ?_
    obtain ⟨M', e1, e2, e3⟩ := State_copy (k0 := 34) (k1 := 43 + 7 * ((o' + hA a) % 41)) (M := M2) (by omega)
    rw [e1, ob_some]
    have hs34 : SC 34 n v M2 := hv.congr (fun c c1 c2 => g5 c (by omega))
    refine Ret.pure ⟨⟨o', g1, ?_, by omega, fun i hi => ?_⟩, fun k j hk => ?_⟩
    · rw [e2 41 (by omega)]; exact ⟨g2, g3, g4⟩
    · by_cases hia : i = hA a
      · subst hia; rw [g7]; exact e3 n v hs34 h17 hn
      · refine (g6 i (by omega)).congr (fun c c1 c2 => e2 c ?_)
        omega
    · unfold pHC at hk
      rw [e2 k (by omega), g5 k (by omega)]
  by_cases ha : a < 40
  · have e : hA a = a + 1 := by unfold hA; rw [if_pos ha]
    rw [h3, w32e (n := (a : Int) + 1) (by omega) (by omega)]
    refine Ret.bind (Ret.t (by omega) (Ret.letM (Ret.pure (P := fun M' => M' = mupd M 41 2 ((a : Int) + 1)) rfl))) ?_
    rintro M1 rfl
    refine Ret.letM (fin _ o h1 ?_ ?_ (mupd_same _ _ _ _) (fun c hc => by funext j; rw [mupd_ne _ _ hc, mupd_ne _ _ hc]) (fun i hi => ?_) ?_)
    · rw [mupd_ne2 _ _ (by omega), mupd_ne2 _ _ (by omega)]; exact h2
    · rw [mupd_ne2 _ _ (by omega), mupd_same, e]; rfl
    · have e2 : hH a hs v i = hs i := by unfold hH; rw [if_pos ha, if_neg (by omega)]
      rw [e2]
      exact (h6 i (by omega)).congr (fun c c1 c2 => by funext j; rw [mupd_ne _ _ (by omega), mupd_ne _ _ (by omega)])
    · unfold hH; rw [if_pos ha, if_pos e]
  · have ha4 : a = 40 := by omega
    subst ha4
    have e : hA 40 = 40 := rfl
    rw [h3, h2, w32e (n := (o : Int) + 1) (by omega) (by omega), krem_nn (by omega) (by omega) (by omega) (by omega)]
    refine Ret.bind (Ret.f (by omega) (Ret.f (by omega) (Ret.letM (Ret.pure (P := fun M' => M' = mupd M 41 1 (((o : Int) + 1) % 41)) rfl)))) ?_
    rintro M1 rfl
    refine Ret.letM (fin _ ((o + 1) % 41) (by omega) ?_ ?_ (mupd_same _ _ _ _) (fun c hc => by funext j; rw [mupd_ne _ _ hc, mupd_ne _ _ hc]) (fun i hi => ?_) ?_)
    · rw [mupd_ne2 _ _ (by omega), mupd_same]; omega
    · rw [mupd_ne2 _ _ (by omega), mupd_ne2 _ _ (by omega), e]; exact h3
    · have e2 : hH 40 hs v i = hs (i + 1) := by unfold hH; rw [if_neg (by omega), if_neg (by omega)]
      rw [e2]
      have e3 : ((o + 1) % 41 + i) % 41 = (o + (i + 1)) % 41 := by omega
      rw [e3]
      exact (h6 (i + 1) (by omega)).congr (fun c c1 c2 => by funext j; rw [mupd_ne _ _ (by omega), mupd_ne _ _ (by omega)])
    · rfl
def pU (k j : Nat) : Prop := (k = 41 ∧ (j = 2 ∨ j = 3)) ∨ (34 ≤ k ∧ k ≤ 40)
theorem X_goBack {a u : Nat} {hs : HS} {n : Int} {M : KM} (h : HC a u hs n M) (h17 : ∀ i, i ≤ a + u → hs i 17 ≤ 30) (hn : n ≤ 8) : Ret (f_History_goBack M) (fun q => if a = 0 then q = (0, M) else q.1 = 1 ∧ HC (a - 1) (u + 1) hs n q.2 ∧ SC 34 n (hs (a - 1)) q.2 ∧ Fp pU M q.2) := by
  obtain ⟨o, h1, ⟨h2, h3, h4⟩, h5, h6⟩ := h
  unfold f_History_goBack
  rw [h3]
  by_cases ha : a = 0
  · rw [if_pos (by omega)]
    exact Ret.pure (by rw [if_pos ha])
  · rw [if_neg (by omega)]
    refine Ret.letM (Ret.letM ?_)
    rw [mupd_ne2 M _ (show 3 ≠ 2 by omega), h4, w32e (n := (u : Int) + 1) (by omega) (by omega), w32e (n := (a : Int) - 1) (by omega) (by omega)]
    generalize hM2 : mupd (mupd M 41 2 ((a : Int) - 1)) 41 3 ((u : Int) + 1) = M2
    have k1 : M2 41 1 = (o : Int) := by rw [← hM2, mupd_ne2 _ _ (by omega), mupd_ne2 _ _ (by omega)]; exact h2
    have k2 : M2 41 2 = ((a - 1 : Nat) : Int) := by rw [← hM2, mupd_ne2 _ _ (by omega), mupd_same]; omega
    have k3 : M2 41 3 = ((u + 1 : Nat) : Int) := by rw [← hM2, mupd_same]; omega
    have k4 : ∀ c, c ≠ 41 → M2 c = M c := fun c hc => by rw [← hM2]; funext j; rw [mupd_ne _ _ hc, mupd_ne _ _ hc]
    rw [k2, X_stateAfter k1 h1 (by omega), ob_some]
    refine Ret.t (kStB_h (by omega)) ?_
    obtain ⟨M', e1, e2, e3⟩ := State_copy (k0 := 43 + 7 * ((o + (a - 1)) % 41)) (k1 := 34) (M := M2) (by omega)
    rw [e1, ob_some]
    have hsrc : SC (43 + 7 * ((o + (a - 1)) % 41)) n (hs (a - 1)) M2 := (h6 (a - 1) (by omega)).congr (fun c c1 c2 => k4 c (by omega))
    refine Ret.pure ?_
    rw [if_neg ha]
    refine ⟨rfl, ⟨o, h1, ?_, by omega, fun i hi => ?_⟩, e3 n _ hsrc (h17 _ (by omega)) hn, fun k j hk => ?_⟩
    · dsimp only; rw [e2 41 (by omega)]; exact ⟨k1, k2, k3⟩
    · exact (h6 i (by omega)).congr (fun c c1 c2 => by dsimp only; rw [e2 c (by omega), k4 c (by omega)])
    · unfold pU at hk
      dsimp only
      rw [e2 k (by omega), ← hM2, mupd_at, if_neg (by omega), mupd_at, if_neg (by omega)]
theorem X_goOn {a u : Nat} {hs : HS} {n : Int} {M : KM} (h : HC a u hs n M) (h17 : ∀ i, i ≤ a + u → hs i 17 ≤ 30) (hn : n ≤ 8) : Ret (f_History_goOn M) (fun q => if u = 0 then q = (0, M) else q.1 = 1 ∧ HC (a + 1) (u - 1) hs n q.2 ∧ SC 34 n (hs (a + 1)) q.2 ∧ Fp pU M q.2) := by
  obtain ⟨o, h1, ⟨h2, h3, h4⟩, h5, h6⟩ := h
  unfold f_History_goOn
  rw [h4]
  by_cases ha : u = 0
  · rw [if_pos (by omega)]
    exact Ret.pure (by rw [if_pos ha])
  · rw [if_neg (by omega)]
    refine Ret.letM (Ret.letM ?_)
    rw [mupd_ne2 M _ (show 2 ≠ 3 by omega), h3, w32e (n := (u : Int) - 1) (by omega) (by omega), w32e (n := (a : Int) + 1) (by omega) (by omega)]
    generalize hM2 : mupd (mupd M 41 3 ((u : Int) - 1)) 41 2 ((a : Int) + 1) = M2
    have k1 : M2 41 1 = (o : Int) := by rw [← hM2, mupd_ne2 _ _ (by omega), mupd_ne2 _ _ (by omega)]; exact h2
    have k2 : M2 41 2 = ((a + 1 : Nat) : Int) := by rw [← hM2, mupd_same]; omega
    have k3 : M2 41 3 = ((u - 1 : Nat) : Int) := by rw [← hM2, mupd_ne2 _ _ (by omega), mupd_same]; omega
    have k4 : ∀ c, c ≠ 41 → M2 c = M c := fun c hc => by rw [← hM2]; funext j; rw [mupd_ne _ _ hc, mupd_ne _ _ hc]
    rw [k2, X_stateAfter k1 h1 (by omega), ob_some]
    refine Ret.t (kStB_h (by omega)) ?_
    obtain ⟨M', e1, e2, e3⟩ := State_copy (k0 := 43 + 7 * ((o + (a + 1)) % 41)) (k1 := 34) (M := M2) (by omega)
    rw [e1, ob_some]
    have hsrc : SC (43 + 7 * ((o + (a + 1)) % 41)) n (hs (a + 1)) M2 := (h6 (a + 1) (by omega)).congr (fun c c1 c2 => k4 c (by omega))
    refine Ret.pure ?_
    rw [if_neg ha]
    refine ⟨rfl, ⟨o, h1, ?_, by omega, fun i hi => ?_⟩, e3 n _ hsrc (h17 _ (by omega)) hn, fun k j hk => ?_⟩
    · dsimp only; rw [e2 41 (by omega)]; exact ⟨k1, k2, k3⟩
    · exact (h6 i (by omega)).congr (fun c c1 c2 => by dsimp only; rw [e2 c (by omega), k4 c (by omega)])
    · unfold pU at hk
      dsimp only
      rw [e2 k (by omega), ← hM2, mupd_at, if_neg (by omega), mupd_at, if_neg (by omega)]
theorem X_begin {n : Int} {M : KM} {v : Nat → Int} (hv : SC 34 n v M) (h17 : v 17 ≤ 30) (hn : n ≤ 8) : Ret (f_History_begin M) (fun M' => HC 0 0 (fun _ => v) n M' ∧ Fp pHC M M') := by
  unfold f_History_begin
  refine Ret.letM (Ret.letM (Ret.letM ?_))
  generalize hM2 : mupd (mupd (mupd M 41 1 0) 41 2 0) 41 3 0 = M2
  have k1 : M2 41 1 = ((0 : Nat) : Int) := by rw [← hM2, mupd_ne2 _ _ (by omega), mupd_ne2 _ _ (by omega), mupd_same]; rfl
  have k2 : M2 41 2 = ((0 : Nat) : Int) := by rw [← hM2, mupd_ne2 _ _ (by omega), mupd_same]; rfl
  have k3 : M2 41 3 = ((0 : Nat) : Int) := by rw [← hM2, mupd_same]; rfl
  have k4 : ∀ c, c ≠ 41 → M2 c = M c := fun c hc => by rw [← hM2]; funext j; rw [mupd_ne _ _ hc, mupd_ne _ _ hc, mupd_ne _ _ hc]
  have es := X_stateAfter (i := 0) k1 (by omega) (by omega)
  have es : f_History_stateAfter 0 M2 = some 43 := es
  rw [es, ob_some]
  refine Ret.t rfl ?_
  obtain ⟨M', e1, e2, e3⟩ := State_copy (k0 := 34) (k1 := 43) (M := M2) (by omega)
  rw [e1, ob_some]
  have hsrc : SC 34 n v M2 := hv.congr (fun c c1 c2 => k4 c (by omega))
  refine Ret.pure ⟨⟨0, by omega, ?_, by omega, fun i hi => ?_⟩, fun k j hk => ?_⟩
  · rw [e2 41 (by omega)]; exact ⟨k1, k2, k3⟩
  · have : i = 0 := by omega
    subst this
    exact e3 n v hsrc h17 hn
  · unfold pHC at hk
    rw [e2 k (by omega), k4 k (by omega)]
/-! THE SECOND SIDE -/
theorem M_keepAct {a u : Nat} {hs : HS} {M : KM} {v v' : Nat → Int} (h : HM a u hs M) (hv : SM 411 0 v M) (hva : ∀ j, j < 171 → hs a j = v j) : Ret (f_M_keepAct M) (fun M' => M' 382 48 = (hA a : Int) ∧ M' 382 49 = 0 ∧ (∀ i, i < hA a → SM 412 (171 * i) (hH a hs v' i) M') ∧ Fp pHM M M') := by
  obtain ⟨⟨h1, h2⟩, h3, h4, h5⟩ := h
  unfold f_M_keepAct
  refine Ret.bind (R := fun M1 => M1 382 48 = ((hA a - 1 : Nat) : Int) ∧ (∀ i, i < hA a - 1 → SM 412 (171 * i) (hH a hs v' i) M1) ∧ Fp pHM M M1) ?_ ?_
  · rw [h1]
    by_cases ha : a = 40
    · subst ha
      refine Ret.t (by omega) ?_
      refine Ret.bind (R := fun M1 => (∀ j, M1 412 j = if j < 6840 then M 412 (j + 171) else M 412 j) ∧ ∀ c, c ≠ 412 → M1 c = M c) (Ret.loop 6840 (fun k s => s.1 = (k : Int) ∧ (∀ j, s.2 412 j = if j < k then M 412 (j + 171) else M 412 j) ∧ ∀ c, c ≠ 412 → s.2 c = M c) ⟨rfl, fun j => by rw [if_neg (by omega)], fun c _ => rfl⟩ ?_ ?_) ?_
      · rintro k s hk ⟨g1, g2, g3⟩
        rw [g1, w32e (n := (k : Int) + 171) (by omega) (by omega), w32e (n := (k : Int) + 1) (by omega) (by omega)]
        refine Ret.t (by omega) (Ret.t (by omega) (Ret.t (by omega) (Ret.letM (Ret.pure ⟨rfl, fun j => ?_, fun c hc => ?_⟩))))
        · dsimp only
          rw [Int.toNat_natCast, show ((k : Int) + 171).toNat = k + 171 by omega]
          by_cases hj : j = k
          · subst hj; rw [mupd_same, if_pos (by omega), g2, if_neg (by omega)]
          · rw [mupd_ne2 _ _ hj, g2]
            exact ifc (by omega)
        · funext j; dsimp only; rw [mupd_ne _ _ hc, g3 c hc]
      · rintro s ⟨g1, g2, g3⟩
        exact Ret.f (by omega) (Ret.pure ⟨g2, g3⟩)
      · rintro M1 ⟨g1, g2⟩
        have e48 : M1 382 48 = 40 := by rw [g2 382 (by omega)]; exact h1
        rw [e48]
        refine Ret.letM (Ret.pure ⟨by rw [mupd_same]; rfl, fun i hi => ?_, fun k j hk => ?_⟩)
        · have hi' : i < 39 := hi
          have e2 : hH 40 hs v' i = hs (i + 1) := by unfold hH; rw [if_neg (by omega), if_neg (by omega)]
          rw [e2]
          intro j hj
          rw [mupd_ne _ _ (by omega), g1, if_pos (by omega), show 171 * i + j + 171 = 171 * (i + 1) + j by omega]
          exact h4 (i + 1) (by omega) j hj
        · unfold pHM at hk
          rw [mupd_at, if_neg (by omega), g2 k (by omega)]
    · have ha4 : a < 40 := by omega
      have e : hA a = a + 1 := by unfold hA; rw [if_pos ha4]
      refine Ret.f (by omega) (Ret.pure ⟨by rw [e]; exact h1, fun i hi => ?_, Fp.rf⟩)
      have e2 : hH a hs v' i = hs i := by unfold hH; rw [if_pos ha4, if_neg (by omega)]
      rw [e2]
      exact h4 i (by omega)
  · rintro M1 ⟨g1, g2, g3⟩
    have hA1 : 1 ≤ hA a ∧ hA a ≤ 40 := by unfold hA; split <;> omega
    have hk : ∀ c, c ≠ 412 → c ≠ 382 → M1 c = M c := fun c c1 c2 => by funext j; exact g3 c j (by unfold pHM; omega)
    refine Ret.bind (R := fun M2 => (∀ j, M2 412 j = if 171 * (hA a - 1) ≤ j ∧ j < 171 * (hA a - 1) + 171 then M 411 (j - 171 * (hA a - 1)) else M1 412 j) ∧ ∀ c, c ≠ 412 → M2 c = M1 c) (Ret.loop 171 (fun k s => s.1 = (k : Int) ∧ (∀ j, s.2 412 j = if 171 * (hA a - 1) ≤ j ∧ j < 171 * (hA a - 1) + k then M 411 (j - 171 * (hA a - 1)) else M1 412 j) ∧ ∀ c, c ≠ 412 → s.2 c = M1 c) ⟨rfl, fun j => by rw [if_neg (by omega)], fun c _ => rfl⟩ ?_ ?_) ?_
    · rintro k s hk1 ⟨y1, y2, y3⟩
      have e48 : s.2 382 48 = ((hA a - 1 : Nat) : Int) := by rw [y3 382 (by omega)]; exact g1
      rw [y1, e48, w32e (n := 171 * ((hA a - 1 : Nat) : Int)) (by omega) (by omega), w32e (n := 171 * ((hA a - 1 : Nat) : Int) + k) (by omega) (by omega), w32e (n := (k : Int) + 1) (by omega) (by omega)]
      refine Ret.t (by omega) (Ret.t (by omega) (Ret.t (by omega) (Ret.letM (Ret.pure ⟨rfl, fun j => ?_, fun c hc => ?_⟩))))
      · dsimp only
        rw [Int.toNat_natCast, show (171 * ((hA a - 1 : Nat) : Int) + k).toNat = 171 * (hA a - 1) + k by omega]
        by_cases hj : j = 171 * (hA a - 1) + k
        · rw [hj, mupd_same, if_pos (by omega), y3 411 (by omega), hk 411 (by omega) (by omega)]
          congr 1
          omega
        · rw [mupd_ne2 _ _ hj, y2]
          exact ifc (by omega)
      · funext j; dsimp only; rw [mupd_ne _ _ hc, y3 c hc]
    · rintro s ⟨y1, y2, y3⟩
      exact Ret.f (by omega) (Ret.pure ⟨y2, y3⟩)
    · rintro M2 ⟨y1, y2⟩
      have e48 : M2 382 48 = ((hA a - 1 : Nat) : Int) := by rw [y2 382 (by omega)]; exact g1
      rw [e48, w32e (by omega) (by omega)]
      refine Ret.letM (Ret.letM (Ret.pure ⟨?_, mupd_same _ _ _ _, fun i hi => ?_, fun k j hk2 => ?_⟩))
      · rw [mupd_ne2 _ _ (by omega), mupd_same]; omega
      · intro j hj
        rw [mupd_ne _ _ (by omega), mupd_ne _ _ (by omega), y1]
        by_cases hil : i = hA a - 1
        · subst hil
          rw [if_pos (by omega), show 171 * (hA a - 1) + j - 171 * (hA a - 1) = j by omega]
          have := hv j hj
          rw [Nat.zero_add] at this
          rw [this, ← hva j hj]
          unfold hH hA
          by_cases ha4 : a < 40
          · simp only [ha4, if_true]; rw [if_neg (by omega)]; rfl
          · have : a = 40 := by omega
            subst this; rfl
        · rw [if_neg (by omega)]
          exact g2 i (by omega) j hj
      · unfold pHM at hk2
        rw [mupd_at, if_neg (by omega), mupd_at, if_neg (by omega), y2 k (by omega)]
        exact g3 k j (by unfold pHM; omega)
def pX (k _ : Nat) : Prop := k = 412 ∨ k = 411
theorem M_exchange {c : Nat} {M : KM} (hc : M 382 48 = (c : Int)) (hc2 : c ≤ 40) : Ret (f_M_exchange M) (fun M' => (∀ j, M' 412 j = if 171 * c ≤ j ∧ j < 171 * c + 171 then M 411 (j - 171 * c) else M 412 j) ∧ (∀ j, M' 411 j = if j < 171 then M 412 (171 * c + j) else M 411 j) ∧ Fp pX M M') := by
  unfold f_M_exchange
  refine Ret.bind (R := fun M' => (∀ j, M' 412 j = if 171 * c ≤ j ∧ j < 171 * c + 171 then M 411 (j - 171 * c) else M 412 j) ∧ (∀ j, M' 411 j = if j < 171 then M 412 (171 * c + j) else M 411 j) ∧ Fp pX M M') (Ret.loop 171 (fun k s => s.1 = (k : Int) ∧ (∀ j, s.2 412 j = if 171 * c ≤ j ∧ j < 171 * c + k then M 411 (j - 171 * c) else M 412 j) ∧ (∀ j, s.2 411 j = if j < k then M 412 (171 * c + j) else M 411 j) ∧ Fp pX M s.2) ⟨rfl, fun j => by rw [if_neg (by omega)], fun j => by rw [if_neg (by omega)], Fp.rf⟩ ?_ ?_) (fun q hq => Ret.pure hq)
  · rintro k s hk ⟨y1, y2, y3, y4⟩
    have e48 : s.2 382 48 = (c : Int) := by rw [y4 382 48 (by unfold pX; omega)]; exact hc
    rw [y1, e48, w32e (n := 171 * (c : Int)) (by omega) (by omega), w32e (n := 171 * (c : Int) + k) (by omega) (by omega), w32e (n := (k : Int) + 1) (by omega) (by omega)]
    have e1 : (171 * (c : Int) + k).toNat = 171 * c + k := by omega
    refine Ret.t (by omega) (Ret.t (by omega) (Ret.letI (Ret.t (by omega) (Ret.t (by omega) (Ret.letM (Ret.t (by omega) (Ret.letM (Ret.pure ⟨rfl, fun j => ?_, fun j => ?_, ?_⟩))))))))
    · dsimp only
      rw [mupd_ne _ _ (by omega), e1, Int.toNat_natCast]
      by_cases hj : j = 171 * c + k
      · rw [hj, mupd_same, if_pos (by omega), y3, if_neg (by omega)]
        congr 1; omega
      · rw [mupd_ne2 _ _ hj, y2]
        exact ifc (by omega)
    · dsimp only
      rw [e1, Int.toNat_natCast]
      by_cases hj : j = k
      · rw [hj, mupd_same, if_pos (by omega), y2, if_neg (by omega)]
      · rw [mupd_ne2 _ _ hj, mupd_ne _ _ (by omega), y3]
        exact ifc (by omega)
    · exact (y4.upd (Or.inl rfl)).upd (Or.inr rfl)
  · rintro s ⟨y1, y2, y3, y4⟩
    exact Ret.f (by omega) (Ret.pure ⟨y2, y3, y4⟩)
def pUM (k j : Nat) : Prop := k = 411 ∨ k = 412 ∨ (k = 382 ∧ (j = 48 ∨ j = 49))
theorem M_undo {a u : Nat} {hs : HS} {M : KM} {v : Nat → Int} (h : HM a u hs M) (hv : SM 411 0 v M) (hva : ∀ j, j < 171 → hs a j = v j) : Ret (f_M_undo M) (fun q => if a = 0 then q = (0, M) else q.1 = 1 ∧ HM (a - 1) (u + 1) hs q.2 ∧ SM 411 0 (hs (a - 1)) q.2 ∧ Fp pUM M q.2) := by
  obtain ⟨⟨h1, h2⟩, h3, h4, h5⟩ := h
  unfold f_M_undo
  rw [h1]
  by_cases ha : a = 0
  · rw [if_pos (by omega)]
    exact Ret.pure (by rw [if_pos ha])
  · rw [if_neg (by omega)]
    refine Ret.letM (Ret.letM ?_)
    rw [mupd_ne2 M _ (show 49 ≠ 48 by omega), h2, w32e (n := (u : Int) + 1) (by omega) (by omega), w32e (n := (a : Int) - 1) (by omega) (by omega)]
    generalize hM2 : mupd (mupd M 382 48 ((a : Int) - 1)) 382 49 ((u : Int) + 1) = M2
    have k2 : M2 382 48 = ((a - 1 : Nat) : Int) := by rw [← hM2, mupd_ne2 _ _ (by omega), mupd_same]; omega
    have k3 : M2 382 49 = ((u + 1 : Nat) : Int) := by rw [← hM2, mupd_same]; omega
    have k4 : ∀ c, c ≠ 382 → M2 c = M c := fun c hc => by rw [← hM2]; funext j; rw [mupd_ne _ _ hc, mupd_ne _ _ hc]
    refine Ret.bind (M_exchange k2 (by omega)) ?_
    rintro M3 ⟨y1, y2, y3⟩
    rw [k4 411 (by omega), k4 412 (by omega)] at y1 y2
    refine Ret.pure ?_
    rw [if_neg ha]
    refine ⟨rfl, ⟨?_, by omega, fun i hi j hj => ?_, fun i hi j hj => ?_⟩, fun j hj => ?_, fun k j hk => ?_⟩
    · dsimp only
      rw [y3 382 48 (by unfold pX; omega), y3 382 49 (by unfold pX; omega)]; exact ⟨k2, k3⟩
    · dsimp only
      rw [y1, if_neg (by omega)]
      exact h4 i (by omega) j hj
    · dsimp only
      rw [y1]
      by_cases hi0 : i = 0
      · subst hi0
        rw [if_pos (by omega), show 171 * (a - 1 + 0) + j - 171 * (a - 1) = 0 + j by omega, hv j hj, show a - 1 + 0 + 1 = a by omega]
        exact (hva j hj).symm
      · rw [if_neg (by omega)]
        have := h5 (i - 1) (by omega) j hj
        rw [show a + (i - 1) = a - 1 + i by omega] at this
        exact this
    · dsimp only
      rw [Nat.zero_add, y2, if_pos hj]
      exact h4 (a - 1) (by omega) j hj
    · unfold pUM at hk
      dsimp only
      rw [y3 k j (by unfold pX; omega), ← hM2, mupd_at, if_neg (by omega), mupd_at, if_neg (by omega)]
theorem M_redo {a u : Nat} {hs : HS} {M : KM} {v : Nat → Int} (h : HM a u hs M) (hv : SM 411 0 v M) (hva : ∀ j, j < 171 → hs a j = v j) : Ret (f_M_redo M) (fun q => if u = 0 then q = (0, M) else q.1 = 1 ∧ HM (a + 1) (u - 1) hs q.2 ∧ SM 411 0 (hs (a + 1)) q.2 ∧ Fp pUM M q.2) := by
  obtain ⟨⟨h1, h2⟩, h3, h4, h5⟩ := h
  unfold f_M_redo
  rw [h2]
  by_cases ha : u = 0
  · rw [if_pos (by omega)]
    exact Ret.pure (by rw [if_pos ha])
  · rw [if_neg (by omega)]
    refine Ret.bind (M_exchange h1 (by omega)) ?_
    rintro M3 ⟨y1, y2, y3⟩
    have e48 : M3 382 48 = (a : Int) := by rw [y3 382 48 (by unfold pX; omega)]; exact h1
    have e49 : M3 382 49 = (u : Int) := by rw [y3 382 49 (by unfold pX; omega)]; exact h2
    refine Ret.letM (Ret.letM ?_)
    rw [mupd_ne2 M3 _ (show 49 ≠ 48 by omega), e48, e49, w32e (n := (u : Int) - 1) (by omega) (by omega), w32e (n := (a : Int) + 1) (by omega) (by omega)]
    refine Ret.pure ?_
    rw [if_neg ha]
    refine ⟨rfl, ⟨?_, by omega, fun i hi j hj => ?_, fun i hi j hj => ?_⟩, fun j hj => ?_, fun k j hk => ?_⟩
    · dsimp only
      rw [mupd_ne2 _ _ (by omega), mupd_same, mupd_same]; omega
    · dsimp only
      rw [mupd_ne _ _ (by omega), mupd_ne _ _ (by omega), y1]
      by_cases hia : i = a
      · subst hia
        rw [if_pos (by omega), show 171 * i + j - 171 * i = 0 + j by omega, hv j hj]
        exact (hva j hj).symm
      · rw [if_neg (by omega)]
        exact h4 i (by omega) j hj
    · dsimp only
      rw [mupd_ne _ _ (by omega), mupd_ne _ _ (by omega), y1, if_neg (by omega)]
      have := h5 (i + 1) (by omega) j hj
      rw [show a + (i + 1) = a + 1 + i by omega] at this
      exact this
    · dsimp only
      rw [mupd_ne _ _ (by omega), mupd_ne _ _ (by omega), Nat.zero_add, y2, if_pos hj]
      have := h5 0 (by omega) j hj
      rwa [Nat.add_zero] at this
    · unfold pUM at hk
      dsimp only
      rw [mupd_at, if_neg (by omega), mupd_at, if_neg (by omega)]
      exact y3 k j (by unfold pX; omega)
