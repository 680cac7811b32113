/-! SAFEST -/
def pSX (k j : Nat) : Prop := pV k j ∨ pSf k j ∨ pL k j
theorem pN_pSX {k j : Nat} (h : pN k j) : ¬ pSX k j := by unfold pN at h; unfold pSX pV pSf pL; omega
theorem X_safest {T : TW} {R : Nat → RL} {v : Nat → Int} {M : KM} (h : WC T R v M) (ho : WO T R v) : Ret (f_X_safest M) (fun q => q.1 = (safeA T R v).1 ∧ LC (safeA T R v).2 q.2 ∧ Fp pSX M q.2) := by
  have o := ho.1.1
  have hs := sfS_R ho
  obtain ⟨L, hL⟩ := Int.eq_ofNat_of_zero_le o.2.2.2.2.2.2.1
  unfold f_X_safest
  rw [h.least, letI_e, hL]
  refine Ret.bind (R := fun M1 => Fp pSX M M1 ∧ ∀ a : Nat, T 0 3 ≤ (a : Int) → (a : Int) ≤ T 0 4 → M1 346 a = oddV T R v a) (Ret.loop (sfS T + 1) (fun i s => s.1 = ((L + i : Nat) : Int) ∧ Fp pSX M s.2 ∧ ∀ a : Nat, L ≤ a → a < L + i → s.2 346 a = oddV T R v a) ⟨rfl, Fp.rf, fun a h1 h2 => by omega⟩ ?_ ?_) ?_
  · rintro i s hi ⟨k1, k2, k3⟩
    have hw : WC T R v s.2 := h.congr fun k j hk => k2 k j (pN_pSX hk)
    rw [k1, hw.most]
    generalize hx : L + i = x at k1 k3 ⊢
    rw [w32e (n := (x : Int) + 1) (by omega) (by omega)]
    refine Ret.t (by omega) (Ret.bind (X_oddsAt hw ho _) ?_)
    rintro q ⟨q1, q2⟩
    rw [putM_nat _ _ _ _ (by omega : x < 151), q1]
    refine Ret.letM (Ret.pure ⟨by dsimp only; omega, ?_, fun a h1 h2 => ?_⟩)
    · exact (k2.tr (q2.mono fun _ _ => Or.inl)).upd (Or.inr (Or.inl (by unfold pSf; omega)))
    · dsimp only
      by_cases hax : a = x
      · subst hax; exact mupd_same _ _ _ _
      · rw [mupd_ne2 _ _ hax, q2 346 a (by unfold pV; omega)]
        exact k3 a h1 (by omega)
  · rintro s ⟨k1, k2, k3⟩
    have hw : WC T R v s.2 := h.congr fun k j hk => k2 k j (pN_pSX hk)
    rw [k1, hw.most]
    exact Ret.f (by omega) (Ret.pure ⟨k2, fun a h1 h2 => k3 a (by omega) (by omega)⟩)
  rintro M1 ⟨f1, h6⟩
  have hw1 : WC T R v M1 := h.congr fun k j hk => f1 k j (pN_pSX hk)
  refine Ret.bind (X_spread hw1 ho h6) ?_
  rintro q ⟨q1, q2, q3⟩
  have f2 := f1.tr (q3.mono fun _ _ hk => Or.inr (Or.inl hk))
  refine Ret.letM ?_
  have l0 := LC_nil q.2
  have f3 : Fp pSX M (mupd q.2 0 16 0) := f2.upd (Or.inr (Or.inr (Or.inr ⟨rfl, rfl⟩)))
  have a0 : ∀ p : Nat, (p : Int) < T 0 0 → sfA v p = true → mupd q.2 0 16 0 347 p = layV T R v p := fun p hp ha => by rw [mupd_ne _ _ (by omega)]; exact q2 p hp ha
  generalize mupd q.2 0 16 0 = M2 at l0 f3 a0 ⊢
  refine Ret.bind (R := fun M3 => LC (safeA T R v).2 M3 ∧ Fp pSX M M3) (Ret.loop (T 0 0).toNat (fun i s => s.1 = (i : Int) ∧ LC ((List.range i).map (layV T R v)) s.2 ∧ Fp pSX M s.2 ∧ ∀ p : Nat, (p : Int) < T 0 0 → sfA v p = true → s.2 347 p = layV T R v p) ⟨rfl, l0, f3, a0⟩ ?_ ?_) ?_
  · rintro i s hi ⟨k1, k2, k3, k4⟩
    have hw : WC T R v s.2 := h.congr fun k j hk => k3 k j (pN_pSX hk)
    have hi' : (i : Int) < T 0 0 := by omega
    rw [k1, hw.n, e_X_isAlive hw.n hw.alive ho.2, ob_some, w32e (n := (i : Int) + 1) (by omega) (by omega), atM_nat _ _ _ (by omega : i < 8)]
    refine Ret.t hi' ?_
    refine Ret.bind (R := fun x => x = layV T R v i) ?_ ?_
    · by_cases ha : sfA v i = true
      · refine Ret.f (by rw [if_pos (show alv v i = true from ha)]; omega) (Ret.pure (k4 i hi' ha))
      · refine Ret.t (by rw [if_neg (show ¬ alv v i = true from ha)]) (Ret.pure ?_)
        unfold layV
        rw [if_neg ha]
    · rintro x rfl
      refine Ret.bind (X_lay k2 (by rw [List.length_map, List.length_range]; omega) _) ?_
      rintro M3 ⟨m1, m2⟩
      refine Ret.pure ⟨rfl, ?_, k3.tr (m2.mono fun _ _ hk => Or.inr (Or.inr hk)), fun p hp ha => ?_⟩
      · rw [List.range_succ (n := i), List.map_append]; exact m1
      · dsimp only
        rw [m2 347 p (by unfold pL; omega)]; exact k4 p hp ha
  · rintro s ⟨k1, k2, k3, k4⟩
    have hw : WC T R v s.2 := h.congr fun k j hk => k3 k j (pN_pSX hk)
    rw [k1, hw.n]
    exact Ret.f (by omega) (Ret.pure ⟨k2, k3⟩)
  rintro M3 ⟨m1, m2⟩
  exact Ret.pure ⟨q1, m1, m2⟩
/-! the second side -/
def pSM (k j : Nat) : Prop := pW k j ∨ k = 422 ∨ k = 423 ∨ k = 424 ∨ (k = 382 ∧ j = 63)
theorem pR_pSM {k j : Nat} (h : pR k j) : ¬ pSM k j := by unfold pR at h; unfold pSM pW; omega
theorem WM.bl {b : Nat} {T : TW} {R : Nat → RL} {v : Nat → Int} {M : KM} (h : WM b T R v M) : (0 ≤ M 382 37 ∧ M 382 37 < 2) ∧ M 390 (M 382 37).toNat = T 0 3 ∧ M 391 (M 382 37).toNat = T 0 4 := by
  have hb := h.1.1
  rw [h.1.2, Int.toNat_natCast]
  exact ⟨by omega, h.2.1.1.2.2.2.1, h.2.1.1.2.2.2.2.1⟩
def baI (g : Nat → Int) (s n k i : Nat) (x : Int) : Prop := (i ≤ k - n * s ∧ x = -1) ∨ (k - n * s < i ∧ ∃ j, j < i - (k - n * s) ∧ x = ((k - n * s + j : Nat) : Int) ∧ hV g s n k (k - n * s + j) = mnV (hV g s n k) (k - n * s) (i - (k - n * s)) ∧ ∀ q, q < j → hV g s n k (k - n * s + q) ≠ mnV (hV g s n k) (k - n * s) (i - (k - n * s)))
theorem M_bestAge {b : Nat} {T : TW} {R : Nat → RL} {v : Nat → Int} {M : KM} (h : WM b T R v M) (ho : WO T R v) {p n k : Nat} (hp : p < 8) (hn : n < 8) (hk : k ≤ 1200) (h3 : ∀ a, a ≤ sfS T → M 423 a = sfG T R v a) (h2 : ∀ j, j ≤ k → M 422 ((p + 1) * 1201 + j) = Vs (sfG T R v) (sfS T) n j) :
    f_M_bestAge (p : Int) (k : Int) M = some (if k ≤ (n + 1) * sfS T then (argA (sfG T R v) (sfS T) n k : Int) else -1) := by
  have o := ho.1.1
  have hs := sfS_R ho
  obtain ⟨bl1, bl2, bl3⟩ := h.bl
  have hg : ∀ a, a ≤ sfS T → 0 ≤ sfG T R v a ∧ sfG T R v a ≤ 100 := fun a _ => sfG_R T R v a
  have e3 : (n + 1) * sfS T = n * sfS T + sfS T := Nat.succ_mul _ _
  refine Ret.some_of ?_
  unfold f_M_bestAge
  rw [bl2, bl3, w32e (n := (p : Int) + 1) (by omega) (by omega), show (p : Int) + 1 = ((p + 1 : Nat) : Int) by omega, (mul_1201 (x := p + 1) (by omega)).2, w32e (n := (((p + 1) * 1201 : Nat) : Int) + (k : Int)) (by omega) (by omega), w32e (n := T 0 4 - T 0 3) (by omega) (by omega)]
  refine Ret.bind (R := fun x => x = if k ≤ (n + 1) * sfS T then (argA (sfG T R v) (sfS T) n k : Int) else -1) (Ret.loop (min (sfS T) k + 1) (fun i t => t.2 = (i : Int) ∧ baI (sfG T R v) (sfS T) n k i t.1) ⟨rfl, Or.inl ⟨Nat.zero_le _, rfl⟩⟩ ?_ ?_) (fun x hx => Ret.pure hx)
  · rintro i t hi ⟨t1, t2⟩
    have hcell := h2 (k - i) (by omega)
    have e5 : ((((p + 1) * 1201 : Nat) : Int) + (k : Int) - (i : Int)).toNat = (p + 1) * 1201 + (k - i) := by omega
    rw [t1, w32e (n := (i : Int) + 1) (by omega) (by omega), w32e (n := (((p + 1) * 1201 : Nat) : Int) + (k : Int) - (i : Int)) (by omega) (by omega), e5, hcell, Int.toNat_natCast, h3 i (by omega)]
    refine Ret.t bl1 (Ret.t bl1 (Ret.t (by omega) (Ret.t (by omega) (Ret.t (by omega) (Ret.letI ?_)))))
    refine Ret.bind (R := fun x => baI (sfG T R v) (sfS T) n k (i + 1) x) ?_ (fun x hx => Ret.pure ⟨rfl, hx⟩)
    by_cases hlo : k - n * sfS T ≤ i
    · have hv := Vs_r hg (n := n) (k := k - i) (by omega) (by omega)
      have hga := hg i (by omega)
      have hh : sfG T R v i + Vs (sfG T R v) (sfS T) n (k - i) = hV (sfG T R v) (sfS T) n k i := rfl
      have hhv : 0 ≤ hV (sfG T R v) (sfS T) n k i ∧ hV (sfG T R v) (sfS T) n k i ≤ 900 := by rw [← hh]; omega
      have em : i + 1 - (k - n * sfS T) = (i - (k - n * sfS T)) + 1 := by omega
      have ei : k - n * sfS T + (i - (k - n * sfS T)) = i := by omega
      refine Ret.t (by omega) ?_
      rcases t2 with ⟨t2, t3⟩ | ⟨t2, j, j1, j2, j3, j4⟩
      · rw [t3]
        refine Ret.t (by omega) (Ret.pure (Or.inr ⟨by omega, i - (k - n * sfS T), by omega, by omega, ?_, fun q hq => by omega⟩))
        have e0 : i - (k - n * sfS T) = 0 := by omega
        rw [em, mnV_s, ei, e0]
        have : mnV (hV (sfG T R v) (sfS T) n k) (k - n * sfS T) 0 = 100000000 := rfl
        rw [this]; omega
      · have hj := h2 (k - (k - n * sfS T + j)) (by omega)
        have e6 : ((((p + 1) * 1201 : Nat) : Int) + (k : Int) - ((k - n * sfS T + j : Nat) : Int)).toNat = (p + 1) * 1201 + (k - (k - n * sfS T + j)) := by omega
        have hvj := Vs_r hg (n := n) (k := k - (k - n * sfS T + j)) (by omega) (by omega)
        have hgj := hg (k - n * sfS T + j) (by omega)
        have hhj : sfG T R v (k - n * sfS T + j) + Vs (sfG T R v) (sfS T) n (k - (k - n * sfS T + j)) = hV (sfG T R v) (sfS T) n k (k - n * sfS T + j) := rfl
        rw [j2, w32e (n := (((p + 1) * 1201 : Nat) : Int) + (k : Int) - ((k - n * sfS T + j : Nat) : Int)) (by omega) (by omega), e6, hj, Int.toNat_natCast, h3 (k - n * sfS T + j) (by omega), w32e (n := sfG T R v i + Vs (sfG T R v) (sfS T) n (k - i)) (by omega) (by omega), w32e (n := sfG T R v (k - n * sfS T + j) + Vs (sfG T R v) (sfS T) n (k - (k - n * sfS T + j))) (by omega) (by omega), hh, hhj]
        unfold baI
        rw [em, mnV_s, ei]
        refine Ret.f (by omega) (Ret.t (by omega) (Ret.t (by omega) (Ret.t (by omega) (Ret.br (fun hc => Ret.pure (Or.inr ⟨by omega, i - (k - n * sfS T), by omega, by omega, ?_, fun q hq => ?_⟩)) (fun hc => Ret.pure (Or.inr ⟨by omega, j, by omega, rfl, ?_, fun q hq => ?_⟩))))))
        · rw [ei]; omega
        · have := (mnV_le (hV (sfG T R v) (sfS T) n k) (k - n * sfS T) (i - (k - n * sfS T))).2 q hq
          omega
        · omega
        · have := j4 q hq
          omega
    · have hno := Vs_no (sfG T R v) (sfS T) (n := n) (k := k - i) (by omega)
      rcases t2 with ⟨t2, t3⟩ | ⟨t2, j, j1, j2, j3, j4⟩
      · rw [hno, t3]
        exact Ret.f (by omega) (Ret.pure (Or.inl ⟨by omega, rfl⟩))
      · omega
  · rintro t ⟨t1, t2⟩
    rw [t1]
    have done : Ret (some (Sum.inr t.1) : Option ((Int × Int) ⊕ Int)) (Sum.elim (fun _ => False) fun x => x = if k ≤ (n + 1) * sfS T then (argA (sfG T R v) (sfS T) n k : Int) else -1) := by
      refine Ret.pure ?_
      show t.1 = _
      rcases t2 with ⟨t2, t3⟩ | ⟨t2, j, j1, j2, j3, j4⟩
      · rw [if_neg (by omega)]; exact t3
      · rw [if_pos (by omega), j2]
        rw [← Vs_s] at j3 j4
        unfold argA
        rw [argI_of j1 j3 j4]
    refine Ret.t bl1 (Ret.t bl1 ?_)
    exact Ret.br (fun hc => Ret.f (by omega) done) (fun _ => done)
