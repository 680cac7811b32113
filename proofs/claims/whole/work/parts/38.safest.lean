/-! SAFEST: the first side -/
def pSf (k _ : Nat) : Prop := 345 ≤ k ∧ k ≤ 348
def rowsOK (g : Nat → Int) (s P Y : Nat) (r : Nat) (M : KM) : Prop := ∀ k, Y - (P - r) * s ≤ k → k ≤ Y → k ≤ r * s → M 348 (r * 1201 + k) = Vs g s r k
theorem rs_range {r s k : Nat} (hr : r ≤ 8) (hs : s ≤ 150) (hk : k ≤ r * s) : r * 1201 + k < 10809 := by
  have : r * s ≤ 8 * 150 := Nat.mul_le_mul hr hs
  omega
theorem X_fewestBy {g : Nat → Int} {s P Y r k L : Nat} {M : KM} (hg : ∀ a, a ≤ s → 0 ≤ g a ∧ g a ≤ 100) (hs : L + s ≤ 150) (hP : P ≤ 8) (hr : r < P) (h3 : M 345 3 = (L : Int)) (h4 : M 345 4 = (s : Int)) (h6 : ∀ a, a ≤ s → M 346 (L + a) = g a) (hrow : rowsOK g s P Y r M)
    (k1 : Y - (P - (r + 1)) * s ≤ k) (k2 : k ≤ Y) (k3 : k ≤ (r + 1) * s) : f_Safety_fewestBy ((r + 1 : Nat) : Int) (k : Int) M = some (Vs g s (r + 1) k) := by
  have e1 : P - r = (P - (r + 1)) + 1 := by omega
  have e2 : (P - r) * s = (P - (r + 1)) * s + s := by rw [e1, Nat.succ_mul]
  have e3 : (r + 1) * s = r * s + s := Nat.succ_mul _ _
  have m1 := mul_w (x := r) (y := s) (by omega) (by omega)
  have m2 := mul_1201 (x := r) (by omega)
  have hrs : r * s ≤ 8 * 150 := Nat.mul_le_mul (by omega) (by omega)
  have hB : ∀ a, k - r * s ≤ a → a ≤ s → a ≤ k → 0 ≤ hV g s r k a ∧ hV g s r k a ≤ 900 := fun a a1 a2 a3 => by
    have b1 := hg a a2
    have b2 := Vs_r hg (n := r) (k := k - a) (by omega) (by omega)
    unfold hV; omega
  refine Ret.some_of ?_
  unfold f_Safety_fewestBy
  rw [w32e (n := ((r + 1 : Nat) : Int) - 1) (by omega) (by omega), show ((r + 1 : Nat) : Int) - 1 = (r : Int) by omega, h3, h4, m1.1, m2.1, w32e (n := ((r * 1201 : Nat) : Int) + (k : Int)) (by omega) (by omega), w32e (n := (k : Int) - ((r * s : Nat) : Int)) (by omega) (by omega)]
  refine Ret.letI (Ret.letI (Ret.letI ?_))
  have el : max (0 : Int) ((k : Int) - ((r * s : Nat) : Int)) = ((k - r * s : Nat) : Int) := by omega
  have eh : min (s : Int) (k : Int) = ((min s k : Nat) : Int) := by omega
  rw [el, eh]
  refine Ret.bind (R := fun x => x = Vs g s (r + 1) k) (Ret.loop (min s k + 1 - (k - r * s)) (fun i t => t.2 = ((k - r * s + i : Nat) : Int) ∧ t.1 = mnV (hV g s r k) (k - r * s) i) ⟨rfl, rfl⟩ ?_ ?_) (fun x hx => Ret.pure hx)
  · rintro i t hi ⟨t1, t2⟩
    rw [t1, t2, w32e (n := ((k - r * s + i : Nat) : Int) + 1) (by omega) (by omega)]
    refine Ret.t (by omega) (Ret.br (fun hz => Ret.pure ?_) (fun hz => ?_))
    · show mnV (hV g s r k) (k - r * s) i = Vs g s (r + 1) k
      rw [Vs_s]
      have q1 := (mnV_at (hV g s r k) (k - r * s) (min s k + 1 - (k - r * s)))
      have q2 : mnV (hV g s r k) (k - r * s) (min s k + 1 - (k - r * s)) ≤ mnV (hV g s r k) (k - r * s) i := by
        rcases mnV_at (hV g s r k) (k - r * s) i with q | ⟨j, j1, j2⟩
        · omega
        · rw [j2]; exact (mnV_le _ _ _).2 j (by omega)
      have q3 : 0 ≤ mnV (hV g s r k) (k - r * s) (min s k + 1 - (k - r * s)) := by
        rcases q1 with q | ⟨j, j1, j2⟩
        · omega
        · rw [j2]; exact (hB _ (by omega) (by omega) (by omega)).1
      omega
    · have ha := h6 (k - r * s + i) (by omega)
      have hb := hrow (k - (k - r * s + i)) (by omega) (by omega) (by omega)
      have hv := hB (k - r * s + i) (by omega) (by omega) (by omega)
      have ex : M 348 (r * 1201 + (k - (k - r * s + i))) = Vs g s r (k - (k - r * s + i)) := hb
      rw [w32e (n := (L : Int) + ((k - r * s + i : Nat) : Int)) (by omega) (by omega), w32e (n := ((r * 1201 : Nat) : Int) + (k : Int) - ((k - r * s + i : Nat) : Int)) (by omega) (by omega)]
      refine Ret.letI (Ret.letI (Ret.bind (R := fun x => x = mnV (hV g s r k) (k - r * s) (i + 1)) (Ret.f (by omega) (Ret.t (by omega) (Ret.f (by omega) (Ret.t (by omega) (Ret.t (by omega) (Ret.t (by omega) (Ret.letI (Ret.pure ?_)))))))) (fun x hx => Ret.pure ⟨rfl, hx⟩)))
      rw [mnV_s]
      have e4 : ((L : Int) + ((k - r * s + i : Nat) : Int)).toNat = L + (k - r * s + i) := by omega
      have e5 : (((r * 1201 : Nat) : Int) + (k : Int) - ((k - r * s + i : Nat) : Int)).toNat = r * 1201 + (k - (k - r * s + i)) := by omega
      rw [e4, e5, ha, ex]
      have e6 : w32 (g (k - r * s + i) + Vs g s r (k - (k - r * s + i))) = hV g s r k (k - r * s + i) := by
        unfold hV at hv ⊢
        exact w32e (by omega) (by omega)
      rw [e6]
  · rintro t ⟨t1, t2⟩
    rw [t1]
    exact Ret.f (by omega) (Ret.pure t2)
theorem X_fillRows {g : Nat → Int} {s P Y L : Nat} {M : KM} (hg : ∀ a, a ≤ s → 0 ≤ g a ∧ g a ≤ 100) (hs : L + s ≤ 150) (hP : P ≤ 8) (hY : Y ≤ P * s) (h3 : M 345 3 = (L : Int)) (h4 : M 345 4 = (s : Int)) (h6 : ∀ a, a ≤ s → M 346 (L + a) = g a) :
    Ret (f_Safety_fillRows (P : Int) (Y : Int) M) (fun M' => (∀ r, r ≤ P → rowsOK g s P Y r M') ∧ ∀ c, c ≠ 348 → M' c = M c) := by
  have hPs : P * s ≤ 8 * 150 := Nat.mul_le_mul hP (by omega)
  unfold f_Safety_fillRows
  refine Ret.letM ?_
  have e0 : putM M 348 10809 0 0 = mupd M 348 0 0 := putM_nat (i := 0) _ _ _ _ (by omega)
  rw [e0]
  refine Ret.bind (R := fun M' => (∀ r, r ≤ P → rowsOK g s P Y r M') ∧ ∀ c, c ≠ 348 → M' c = M c) (Ret.loop P (fun i t => t.1 = ((i + 1 : Nat) : Int) ∧ (∀ r, r ≤ i → rowsOK g s P Y r t.2) ∧ ∀ c, c ≠ 348 → t.2 c = M c) ⟨rfl, fun r hr k _ _ hk => ?_, fun c hc => by funext z; dsimp only; rw [mupd_ne _ _ hc]⟩ ?_ ?_) (fun x hx => Ret.pure hx)
  · have hr0 : r = 0 := by omega
    subst hr0
    rw [Nat.zero_mul] at hk
    have hk0 : k = 0 := by omega
    subst hk0
    exact mupd_same M 348 0 0
  · rintro i t hi ⟨t1, t2, t3⟩
    have m1 := mul_w (x := P - (i + 1)) (y := s) (by omega) (by omega)
    have m2 := mul_w (x := i + 1) (y := s) (by omega) (by omega)
    have m3 := mul_1201 (x := i + 1) (by omega)
    have hadd : (P - (i + 1)) * s + (i + 1) * s = P * s := by rw [← Nat.add_mul, show P - (i + 1) + (i + 1) = P by omega]
    have e45 : t.2 345 4 = (s : Int) := by rw [t3 345 (by omega)]; exact h4
    rw [t1, w32e (n := ((i + 1 : Nat) : Int) + 1) (by omega) (by omega), w32e (n := (P : Int) - ((i + 1 : Nat) : Int)) (by omega) (by omega), show (P : Int) - ((i + 1 : Nat) : Int) = ((P - (i + 1) : Nat) : Int) by omega, e45, m1.1, m2.1, w32e (n := (Y : Int) - (((P - (i + 1)) * s : Nat) : Int)) (by omega) (by omega)]
    have el : max (0 : Int) ((Y : Int) - (((P - (i + 1)) * s : Nat) : Int)) = ((Y - (P - (i + 1)) * s : Nat) : Int) := by omega
    have eh : min (Y : Int) (((i + 1) * s : Nat) : Int) = ((min Y ((i + 1) * s) : Nat) : Int) := by omega
    refine Ret.t (by omega) (Ret.letI (Ret.letI ?_))
    rw [el, eh]
    refine Ret.bind (R := fun M' => (∀ r, r ≤ i + 1 → rowsOK g s P Y r M') ∧ ∀ c, c ≠ 348 → M' c = M c) (Ret.loop (min Y ((i + 1) * s) + 1 - (Y - (P - (i + 1)) * s)) (fun j u => u.1 = ((Y - (P - (i + 1)) * s + j : Nat) : Int) ∧ (∀ r, r ≤ i → rowsOK g s P Y r u.2) ∧ (∀ k, Y - (P - (i + 1)) * s ≤ k → k < Y - (P - (i + 1)) * s + j → u.2 348 ((i + 1) * 1201 + k) = Vs g s (i + 1) k) ∧ ∀ c, c ≠ 348 → u.2 c = M c) ⟨rfl, t2, fun k k1 k2 => by omega, t3⟩ ?_ ?_) ?_
    · rintro j u hj ⟨u1, u2, u3, u4⟩
      rw [u1]
      generalize hk : Y - (P - (i + 1)) * s + j = k at hj u3 ⊢
      rw [w32e (n := (k : Int) + 1) (by omega) (by omega)]
      refine Ret.t (by omega) ?_
      rw [X_fewestBy hg hs hP hi (by rw [u4 345 (by omega)]; exact h3) (by rw [u4 345 (by omega)]; exact h4) (fun a ha => by rw [u4 346 (by omega)]; exact h6 a ha) (u2 i (Nat.le_refl _)) (by omega) (by omega) (by omega), ob_some]
      have hrng := rs_range (r := i + 1) (s := s) (k := k) (by omega) (by omega) (by omega)
      refine Ret.letM (Ret.pure ⟨by dsimp only; omega, fun r hr q q1 q2 q3 => ?_, fun q q1 q2 => ?_, fun c hc => ?_⟩)
      · dsimp only
        rw [m3.1, w32e (n := (((i + 1) * 1201 : Nat) : Int) + (k : Int)) (by omega) (by omega), show (((i + 1) * 1201 : Nat) : Int) + (k : Int) = (((i + 1) * 1201 + k : Nat) : Int) by omega, putM_nat _ _ _ _ hrng]
        have hq : r * s ≤ 8 * 150 := Nat.mul_le_mul (by omega) (by omega)
        rw [mupd_ne2 _ _ (by omega)]
        exact u2 r hr q q1 q2 q3
      · dsimp only
        rw [m3.1, w32e (n := (((i + 1) * 1201 : Nat) : Int) + (k : Int)) (by omega) (by omega), show (((i + 1) * 1201 : Nat) : Int) + (k : Int) = (((i + 1) * 1201 + k : Nat) : Int) by omega, putM_nat _ _ _ _ hrng]
        by_cases hqk : q = k
        · subst hqk; exact mupd_same _ _ _ _
        · rw [mupd_ne2 _ _ (by omega)]
          exact u3 q q1 (by omega)
      · dsimp only
        rw [m3.1, w32e (n := (((i + 1) * 1201 : Nat) : Int) + (k : Int)) (by omega) (by omega), show (((i + 1) * 1201 : Nat) : Int) + (k : Int) = (((i + 1) * 1201 + k : Nat) : Int) by omega, putM_nat _ _ _ _ hrng]
        funext z
        rw [mupd_ne _ _ hc, u4 c hc]
    · rintro u ⟨u1, u2, u3, u4⟩
      rw [u1]
      refine Ret.f (by omega) (Ret.pure ⟨fun r hr => ?_, u4⟩)
      by_cases hri : r = i + 1
      · subst hri
        intro k k1 k2 k3
        exact u3 k k1 (by omega)
      · exact u2 r (by omega)
    · rintro M' ⟨a1, a2⟩
      exact Ret.pure ⟨rfl, a1, a2⟩
  · rintro t ⟨t1, t2, t3⟩
    rw [t1]
    exact Ret.f (by omega) (Ret.pure ⟨t2, t3⟩)
theorem X_fewestOf {g : Nat → Int} {s P Y r k : Nat} {M : KM} (hr : r ≤ 8) (hs : s ≤ 150) (hrow : rowsOK g s P Y r M) (k1 : Y - (P - r) * s ≤ k) (k2 : k ≤ Y) (k3 : k ≤ r * s) : f_Safety_fewestOf (r : Int) (k : Int) M = some (Vs g s r k) := by
  unfold f_Safety_fewestOf
  have hrng := rs_range hr hs k3
  rw [(mul_1201 hr).1, w32e (n := ((r * 1201 : Nat) : Int) + (k : Int)) (by omega) (by omega), show ((r * 1201 : Nat) : Int) + (k : Int) = ((r * 1201 + k : Nat) : Int) by omega, atM_nat _ _ _ hrng, hrow k k1 k2 k3]
theorem X_firstBest {g : Nat → Int} {s P Y r k L : Nat} {M : KM} (hg : ∀ a, a ≤ s → 0 ≤ g a ∧ g a ≤ 100) (hs : L + s ≤ 150) (hP : P ≤ 8) (hr : r < P) (h3 : M 345 3 = (L : Int)) (h4 : M 345 4 = (s : Int)) (h6 : ∀ a, a ≤ s → M 346 (L + a) = g a) (hrow : ∀ r, r ≤ P → rowsOK g s P Y r M)
    (k1 : Y - (P - (r + 1)) * s ≤ k) (k2 : k ≤ Y) (k3 : k ≤ (r + 1) * s) : f_Safety_firstBest (r : Int) (k : Int) M = some (argA g s r k : Int) := by
  have e1 : P - r = (P - (r + 1)) + 1 := by omega
  have e2 : (P - r) * s = (P - (r + 1)) * s + s := by rw [e1, Nat.succ_mul]
  have e3 : (r + 1) * s = r * s + s := Nat.succ_mul _ _
  have m1 := mul_w (x := r) (y := s) (by omega) (by omega)
  obtain ⟨b1, b2, b3⟩ := argI_ok hg (n := r) (k := k) (by omega) k3
  refine Ret.some_of ?_
  unfold f_Safety_firstBest
  rw [w32e (n := (r : Int) + 1) (by omega) (by omega), show (r : Int) + 1 = ((r + 1 : Nat) : Int) by omega, X_fewestOf (by omega) (by omega) (hrow (r + 1) (by omega)) k1 k2 k3, ob_some, h3, h4, m1.1, w32e (n := (k : Int) - ((r * s : Nat) : Int)) (by omega) (by omega)]
  refine Ret.letI (Ret.letI ?_)
  have el : max (0 : Int) ((k : Int) - ((r * s : Nat) : Int)) = ((k - r * s : Nat) : Int) := by omega
  have eh : min (s : Int) (k : Int) = ((min s k : Nat) : Int) := by omega
  rw [el, eh]
  refine Ret.bind (R := Sum.elim (fun x => x = (argA g s r k : Int)) (fun _ => False)) (Ret.loop (argI g s r k + 1) (fun i t => t = ((k - r * s + i : Nat) : Int) ∧ i ≤ argI g s r k) ⟨rfl, Nat.zero_le _⟩ ?_ ?_) ?_
  · rintro i t hi ⟨t1, t2⟩
    subst t1
    have ha := h6 (k - r * s + i) (by omega)
    have hv := Vs_r hg (n := r) (k := k - (k - r * s + i)) (by omega) (by omega)
    have hga := hg (k - r * s + i) (by omega)
    refine Ret.t (by omega) ?_
    rw [w32e (n := (k : Int) - ((k - r * s + i : Nat) : Int)) (by omega) (by omega), show (k : Int) - ((k - r * s + i : Nat) : Int) = ((k - (k - r * s + i) : Nat) : Int) by omega, X_fewestOf (by omega) (by omega) (hrow r (by omega)) (by omega) (by omega) (by omega), ob_some, w32e (n := (L : Int) + ((k - r * s + i : Nat) : Int)) (by omega) (by omega), show (L : Int) + ((k - r * s + i : Nat) : Int) = ((L + (k - r * s + i) : Nat) : Int) by omega, atM_nat _ _ _ (by omega), ha, w32e (n := g (k - r * s + i) + Vs g s r (k - (k - r * s + i))) (by omega) (by omega), w32e (n := ((k - r * s + i : Nat) : Int) + 1) (by omega) (by omega)]
    have hh : g (k - r * s + i) + Vs g s r (k - (k - r * s + i)) = hV g s r k (k - r * s + i) := rfl
    rw [hh]
    by_cases hia : i = argI g s r k
    · have hA : k - r * s + i = argA g s r k := by rw [hia]; rfl
      rw [hA]
      exact Ret.t b2 (Ret.pure rfl)
    · exact Ret.f (b3 i (by omega)) (Ret.pure ⟨by omega, by omega⟩)
  · rintro t ⟨t1, t2⟩
    omega
  · rintro (x | x) hx
    · exact Ret.pure hx
    · exact hx.elim
theorem alv_in {T : TW} {v : Nat → Int} (hS : okS T v) (p : Nat) : isInV (v 16) (p : Int) = if sfA v p = true then 1 else 0 := by
  rw [isInV_bt hS.1.1 (by have := hS.1.2.1; omega), Int.toNat_natCast]
  unfold sfA alv
  simp
theorem sfY_1200 {T : TW} {R : Nat → RL} {v : Nat → Int} (ho : WO T R v) : ∀ p, p ≤ (T 0 0).toNat → sfY T v p ≤ 150 * p := by
  intro p
  induction p with
  | zero => intro _; exact Nat.zero_le _
  | succ p ih =>
    intro hp
    have h1 := ih (by omega)
    have h2 := ho.2.2.2.1 p (by omega)
    have o := ho.1.1
    rw [sfY_s]
    split <;> omega
theorem X_spread {T : TW} {R : Nat → RL} {v : Nat → Int} {M : KM} (h : WC T R v M) (ho : WO T R v) (h6 : ∀ a : Nat, T 0 3 ≤ (a : Int) → (a : Int) ≤ T 0 4 → M 346 a = oddV T R v a) :
    Ret (f_Safety_spread M) (fun q => q.1 = (safeA T R v).1 ∧ (∀ p : Nat, (p : Int) < T 0 0 → sfA v p = true → q.2 347 p = layV T R v p) ∧ Fp pSf M q.2) := by
  have o := ho.1.1
  obtain ⟨L, hL⟩ := Int.eq_ofNat_of_zero_le o.2.2.2.2.2.2.1
  obtain ⟨n, hn⟩ := Int.eq_ofNat_of_zero_le o.1
  have hs := sfS_R ho
  have hY8 := sfY_1200 ho
  have hYC := sfY_le ho
  have hnn : (T 0 0).toNat = n := by omega
  rw [hnn] at hY8 hYC
  unfold f_Safety_spread
  rw [h.least, hL]
  refine Ret.letM ?_
  have f1 : Fp pSf M (mupd M 345 3 (L : Int)) := Fp.rf.upd (by unfold pSf; omega)
  have e1 : mupd M 345 3 (L : Int) 345 3 = (L : Int) := mupd_same _ _ _ _
  have g1 : ∀ c, c ≠ 345 → mupd M 345 3 (L : Int) c = M c := fun c hc => by funext z; rw [mupd_ne _ _ hc]
  generalize mupd M 345 3 (L : Int) = M1 at f1 e1 g1 ⊢
  refine Ret.letM ?_
  rw [g1 2 (by omega), h.least, h.most, w32e (n := T 0 4 - T 0 3) (by omega) (by omega), show T 0 4 - T 0 3 = (sfS T : Int) by omega]
  have f2 : Fp pSf M (mupd M1 345 4 (sfS T : Int)) := f1.upd (by unfold pSf; omega)
  have e3 : mupd M1 345 4 (sfS T : Int) 345 3 = (L : Int) := by rw [mupd_ne2 _ _ (by omega)]; exact e1
  have e4 : mupd M1 345 4 (sfS T : Int) 345 4 = (sfS T : Int) := mupd_same _ _ _ _
  have g2 : ∀ c, c ≠ 345 → mupd M1 345 4 (sfS T : Int) c = M c := fun c hc => by funext z; rw [mupd_ne _ _ hc, g1 c hc]
  generalize mupd M1 345 4 (sfS T : Int) = M2 at f2 e3 e4 g2 ⊢
  have hw2 : WC T R v M2 := h.congr fun k j hk => by rw [g2 k (by unfold pN at hk; omega)]
  refine Ret.bind (R := fun e => e = ((sfC T v : Int), (sfY T v n : Int))) (Ret.loop n (fun p t => t.2.2 = (p : Int) ∧ t.1 = (cntN (sfA v) p : Int) ∧ t.2.1 = (sfY T v p : Int)) ⟨rfl, rfl, rfl⟩ ?_ ?_) ?_
  · rintro p t hp ⟨t1, t2, t3⟩
    have hcl := cntN_le (sfA v) p
    have hyl := hY8 p (by omega)
    have hp' : (p : Int) < T 0 0 := by omega
    have hv := ho.2.2.2.1 p hp'
    rw [t1, t2, t3, hw2.2.1.1, hw2.alive, hn, w32e (n := (p : Int) + 1) (by omega) (by omega), alv_in ho.2, hw2.age ho (by omega) hp', Int.toNat_natCast, e3, w32e (n := v p - (L : Int)) (by omega) (by omega), w32e (n := (sfY T v p : Int) + (v p - (L : Int))) (by omega) (by omega), w32e (n := (cntN (sfA v) p : Int) + 1) (by omega) (by omega)]
    refine Ret.t (by omega) ?_
    refine Ret.bind (R := fun e => e = ((cntN (sfA v) (p + 1) : Int), (sfY T v (p + 1) : Int))) ?_ (fun e he => Ret.pure ⟨rfl, by rw [he], by rw [he]⟩)
    rw [cntN_s, sfY_s]
    by_cases ha : sfA v p = true
    · refine Ret.f (by rw [if_pos ha]; omega) (Ret.letI (Ret.pure ?_))
      rw [if_pos ha, if_pos ha]
      refine Prod.ext (by dsimp only; omega) (by dsimp only; omega)
    · refine Ret.t (by rw [if_neg ha]) (Ret.pure ?_)
      rw [if_neg ha, if_neg ha]
      rfl
  · rintro t ⟨t1, t2, t3⟩
    rw [t1, t2, t3, hw2.2.1.1, hn]
    refine Ret.f (by omega) (Ret.pure ?_)
    show _ = _
    unfold sfC
    rw [hnn]
  rintro e rfl
  dsimp only
  have hC8 : sfC T v ≤ 8 := by have := cntN_le (sfA v) (T 0 0).toNat; unfold sfC; omega
  have hYC' : sfY T v n ≤ sfC T v * sfS T := by unfold sfC; rw [hnn]; exact hYC n (Nat.le_refl _)
  have hg : ∀ a, a ≤ sfS T → 0 ≤ sfG T R v a ∧ sfG T R v a ≤ 100 := fun a _ => sfG_R T R v a
  have h6' : ∀ a, a ≤ sfS T → M2 346 (L + a) = sfG T R v a := fun a ha => by
    rw [g2 346 (by omega), h6 (L + a) (by omega) (by omega)]
    unfold sfG
    rw [hL]; congr 1
  refine Ret.bind (X_fillRows hg (by omega) hC8 hYC' e3 e4 h6') ?_
  rintro M3 ⟨r1, r2⟩
  rw [X_fewestOf hC8 (by omega) (r1 _ (Nat.le_refl _)) (by omega) (Nat.le_refl _) hYC', ob_some]
  refine Ret.bind (R := fun M4 => (∀ p : Nat, (p : Int) < T 0 0 → sfA v p = true → M4 347 p = layV T R v p) ∧ ∀ c, c ≠ 347 → M4 c = M3 c) (Ret.loop n (fun p t => t.2.2.1 = (p : Int) ∧ t.1 = ((sfC T v - cntN (sfA v) p : Nat) : Int) ∧ t.2.1 = (sfL T R v p : Int) ∧ (∀ q : Nat, q < p → sfA v q = true → t.2.2.2 347 q = layV T R v q) ∧ ∀ c, c ≠ 347 → t.2.2.2 c = M3 c) ⟨rfl, by rw [cntN_0]; rfl, by rw [← hnn]; rfl, fun q hq => absurd hq (Nat.not_lt_zero _), fun c _ => rfl⟩ ?_ ?_) ?_
  · rintro p t hp ⟨t1, t2, t3, t4, t5⟩
    have hp' : (p : Int) < T 0 0 := by omega
    have q345 : t.2.2.2 345 = M2 345 := by rw [t5 345 (by omega), r2 345 (by omega)]
    have hw4 : WC T R v t.2.2.2 := hw2.congr fun k j hk => by rw [t5 k (by unfold pN at hk; omega), r2 k (by unfold pN at hk; omega)]
    rw [t1, t2, t3, hw4.2.1.1, hw4.alive, hn, w32e (n := (p : Int) + 1) (by omega) (by omega), alv_in ho.2]
    refine Ret.t (by omega) ?_
    have ok := sfL_ok ho p (by omega)
    rw [hnn] at ok
    have ok2 := sfL_ok ho (p + 1) (by omega)
    have cn := cnt8 v (n := (T 0 0).toNat) (p := p + 1) (by omega)
    have hC : cntN (sfA v) (T 0 0).toNat = sfC T v := rfl
    rw [hC, cntN_s] at cn
    refine Ret.bind (R := fun e => e.1 = ((sfC T v - cntN (sfA v) (p + 1) : Nat) : Int) ∧ e.2.1 = (sfL T R v (p + 1) : Int) ∧ (∀ q : Nat, q < p + 1 → sfA v q = true → e.2.2 347 q = layV T R v q) ∧ ∀ c, c ≠ 347 → e.2.2 c = M3 c) ?_ (fun e he => Ret.pure ⟨rfl, he.1, he.2.1, he.2.2.1, he.2.2.2⟩)
    rw [cntN_s, sfL_s]
    by_cases ha : sfA v p = true
    · rw [if_pos ha] at cn
      refine Ret.f (by rw [if_pos ha]; omega) ?_
      rw [if_pos ha, if_pos ha]
      have e5 : ((sfC T v - cntN (sfA v) p : Nat) : Int) + -1 = ((sfC T v - cntN (sfA v) p - 1 : Nat) : Int) := by omega
      rw [w32e (n := ((sfC T v - cntN (sfA v) p : Nat) : Int) + -1) (by omega) (by omega), e5]
      have hk3 : sfL T R v p ≤ (sfC T v - cntN (sfA v) p - 1 + 1) * sfS T := by rw [show sfC T v - cntN (sfA v) p - 1 + 1 = sfC T v - cntN (sfA v) p by omega]; exact ok.1
      have hk1 : sfY T v n - (sfC T v - (sfC T v - cntN (sfA v) p - 1 + 1)) * sfS T ≤ sfL T R v p := by
        rw [show sfC T v - (sfC T v - cntN (sfA v) p - 1 + 1) = cntN (sfA v) p by omega]; omega
      have hfb := X_firstBest (g := sfG T R v) (s := sfS T) (P := sfC T v) (Y := sfY T v n) (r := sfC T v - cntN (sfA v) p - 1) (k := sfL T R v p) (L := L) (M := t.2.2.2) hg (by omega) hC8 (by omega) (by rw [q345]; exact e3) (by rw [q345]; exact e4) (fun a hq => by rw [t5 346 (by omega), r2 346 (by omega)]; exact h6' a hq) (fun r hr => by have := r1 r hr; unfold rowsOK at this ⊢; rw [t5 348 (by omega)]; exact this) hk1 ok.2.1 hk3
      rw [hfb, ob_some]
      have hyn := hY8 n (Nat.le_refl _)
      have okY := ok.2.1
      have hle := argA_le hg (n := sfC T v - cntN (sfA v) p - 1) (k := sfL T R v p) (by omega) hk3
      rw [q345, e3, w32e (n := (L : Int) + (argA (sfG T R v) (sfS T) (sfC T v - cntN (sfA v) p - 1) (sfL T R v p) : Int)) (by omega) (by omega), w32e (n := (sfL T R v p : Int) - (argA (sfG T R v) (sfS T) (sfC T v - cntN (sfA v) p - 1) (sfL T R v p) : Int)) (by omega) (by omega), putM_nat _ _ _ _ (by omega : p < 8)]
      refine Ret.letM (Ret.letI (Ret.pure ⟨by dsimp only; omega, by dsimp only; omega, fun q hq hqa => ?_, fun c hc => ?_⟩))
      · dsimp only
        by_cases hqp : q = p
        · subst hqp
          rw [mupd_same]
          unfold layV
          rw [if_pos ha, hL]
        · rw [mupd_ne2 _ _ hqp]
          exact t4 q (by omega) hqa
      · dsimp only
        funext z
        rw [mupd_ne _ _ hc, t5 c hc]
    · refine Ret.t (by rw [if_neg ha]) (Ret.pure ?_)
      rw [if_neg ha, if_neg ha]
      refine ⟨rfl, rfl, fun q hq hqa => ?_, t5⟩
      dsimp only
      by_cases hqp : q = p
      · subst hqp; exact absurd hqa ha
      · exact t4 q (by omega) hqa
  · rintro t ⟨t1, t2, t3, t4, t5⟩
    have hw4 : WC T R v t.2.2.2 := hw2.congr fun k j hk => by rw [t5 k (by unfold pN at hk; omega), r2 k (by unfold pN at hk; omega)]
    rw [t1, hw4.2.1.1, hn]
    exact Ret.f (by omega) (Ret.pure ⟨fun p hp => t4 p (by omega), t5⟩)
  rintro M4 ⟨s1, s2⟩
  refine Ret.pure ⟨?_, s1, fun k j hk => ?_⟩
  · unfold safeA
    rw [hnn]
  · dsimp only
    rw [s2 k (by unfold pSf at hk; omega), r2 k (by unfold pSf at hk; omega), f2 k j hk]
