/-! THE FIRST OF SOME, WHAT LIES THERE -/
/-- the first of 1 .. N that is so; 0: none -/
def firstN (g : Nat → Bool) : Nat → Nat
  | 0 => 0
  | N + 1 => if firstN g N = 0 then (if g (N + 1) = true then N + 1 else 0) else firstN g N
theorem firstN_none {g : Nat → Bool} : ∀ {N : Nat}, (∀ m, 1 ≤ m → m ≤ N → g m = false) → firstN g N = 0 := by
  intro N
  induction N with
  | zero => intro _; rfl
  | succ N ih =>
    intro h
    unfold firstN
    rw [if_pos (ih (fun m h1 h2 => h m h1 (by omega))), h (N + 1) (by omega) (by omega)]
    rfl
theorem firstN_at {g : Nat → Bool} {n : Nat} (h1 : 1 ≤ n) (hg : g n = true) (hm : ∀ m, 1 ≤ m → m < n → g m = false) : ∀ {N : Nat}, n ≤ N → firstN g N = n := by
  intro N
  induction N with
  | zero => intro h; omega
  | succ N ih =>
    intro h
    unfold firstN
    by_cases hn : n = N + 1
    · subst hn
      rw [if_pos (firstN_none (fun m a b => hm m a (by omega))), if_pos hg]
    · rw [ih (by omega), if_neg (by omega)]
theorem firstN_spec {g : Nat → Bool} : ∀ {N : Nat}, firstN g N ≠ 0 → 1 ≤ firstN g N ∧ firstN g N ≤ N ∧ g (firstN g N) = true ∧ ∀ m, 1 ≤ m → m < firstN g N → g m = false := by
  intro N
  induction N with
  | zero => intro h; exact absurd rfl h
  | succ N ih =>
    intro h
    unfold firstN at h ⊢
    by_cases h0 : firstN g N = 0
    · rw [if_pos h0] at h ⊢
      by_cases hg : g (N + 1) = true
      · rw [if_pos hg]
        refine ⟨by omega, by omega, hg, fun m h1 h2 => ?_⟩
        cases hgm : g m with
        | false => rfl
        | true =>
          exfalso
          -- the least such m
          have : ∀ k, k ≤ N → (∀ j, 1 ≤ j → j ≤ k → g j = false) := by
            intro k
            induction k with
            | zero => intro _ j a b; omega
            | succ k ihk =>
              intro hk j a b
              by_cases hj : j = k + 1
              · subst hj
                cases hgk : g (k + 1) with
                | false => rfl
                | true => exact absurd h0 (by rw [firstN_at (n := k + 1) (by omega) hgk (fun m a b => ihk (by omega) m a (by omega)) (by omega)]; omega)
              · exact ihk (by omega) j a (by omega)
          rw [this N (Nat.le_refl _) m h1 (by omega)] at hgm
          cases hgm
      · rw [if_neg hg] at h; exact absurd rfl h
    · rw [if_neg h0]
      obtain ⟨a, b, c, d⟩ := ih h0
      exact ⟨a, by omega, c, d⟩
theorem firstN_zero {g : Nat → Bool} {N : Nat} (h : firstN g N = 0) : ∀ m, 1 ≤ m → m ≤ N → g m = false := by
  intro m
  induction m using Nat.strongRecOn with
  | ind m ih =>
    intro h1 h2
    cases hg : g m with
    | false => rfl
    | true => rw [firstN_at h1 hg (fun k a b => ih k b a (by omega)) h2] at h; omega
theorem firstN_le {g : Nat → Bool} {N B : Nat} (hB : B ≤ N) : firstN g B = if firstN g N ≤ B then firstN g N else 0 := by
  by_cases h0 : firstN g N = 0
  · rw [h0, if_pos (Nat.zero_le _)]
    exact firstN_none (fun m a b => firstN_zero h0 m a (by omega))
  · obtain ⟨a, b, c, d⟩ := firstN_spec h0
    by_cases hb : firstN g N ≤ B
    · rw [if_pos hb]
      exact firstN_at a c d hb
    · rw [if_neg hb]
      exact firstN_none (fun m h1 h2 => d m h1 (by omega))
/-- the first below N that is so -/
def fIdx (g : Nat → Bool) : Nat → Option Nat
  | 0 => none
  | N + 1 => match fIdx g N with
    | some i => some i
    | none => if g N = true then some N else none
theorem fIdx_none {g : Nat → Bool} : ∀ {N : Nat}, (∀ j, j < N → g j = false) → fIdx g N = none := by
  intro N
  induction N with
  | zero => intro _; rfl
  | succ N ih =>
    intro h
    unfold fIdx
    rw [ih (fun j hj => h j (by omega)), h N (by omega)]
    rfl
theorem fIdx_at {g : Nat → Bool} {i : Nat} (hg : g i = true) (hj : ∀ j, j < i → g j = false) : ∀ {N : Nat}, i < N → fIdx g N = some i := by
  intro N
  induction N with
  | zero => intro h; omega
  | succ N ih =>
    intro h
    unfold fIdx
    by_cases hi : i = N
    · subst hi
      rw [fIdx_none hj]; simp [hg]
    · rw [ih (by omega)]
theorem fIdx_some {g : Nat → Bool} : ∀ {N i : Nat}, fIdx g N = some i → i < N ∧ g i = true ∧ ∀ j, j < i → g j = false := by
  intro N
  induction N with
  | zero => intro i h; cases h
  | succ N ih =>
    intro i h
    unfold fIdx at h
    cases hq : fIdx g N with
    | some k =>
      rw [hq] at h
      cases h
      obtain ⟨a, b, c⟩ := ih hq
      exact ⟨by omega, b, c⟩
    | none =>
      rw [hq] at h
      dsimp only at h
      by_cases hg : g N = true
      · rw [if_pos hg] at h
        cases h
        refine ⟨by omega, hg, fun j hj => ?_⟩
        cases hgj : g j with
        | false => rfl
        | true =>
          exfalso
          have : ∀ k, k ≤ N → ∀ j, j < k → g j = false := by
            intro k
            induction k with
            | zero => intro _ j h; omega
            | succ k ihk =>
              intro hk j h
              by_cases hjk : j = k
              · subst hjk
                cases hgk : g j with
                | false => rfl
                | true => rw [fIdx_at hgk (ihk (by omega)) (by omega : j < N)] at hq; cases hq
              · exact ihk (by omega) j (by omega)
          rw [this N (Nat.le_refl _) j hj] at hgj
          cases hgj
      · rw [if_neg hg] at h; cases h
theorem fIdx_no {g : Nat → Bool} {N : Nat} (h : fIdx g N = none) : ∀ j, j < N → g j = false := by
  intro j
  induction j using Nat.strongRecOn with
  | ind j ih =>
    intro hj
    cases hg : g j with
    | false => rfl
    | true => rw [fIdx_at hg (fun k hk => ih k hk (by omega)) hj] at h; cases h
/-- a loop that looks for the first -/
theorem Ret.find {σ ε : Type} {body : σ → Option (σ ⊕ ε)} {s0 : σ} {Q : ε → Prop} (g : Nat → Bool) (N : Nat) (I : Nat → σ → Prop) (h0 : I 0 s0)
    (hno : ∀ i s, i < N → g i = false → I i s → Ret (body s) (Sum.elim (fun s' => I (i + 1) s') fun _ => False))
    (hyes : ∀ i s, i < N → g i = true → (∀ j, j < i → g j = false) → I i s → Ret (body s) (Sum.elim (fun _ => False) Q))
    (hend : ∀ s, (∀ j, j < N → g j = false) → I N s → Ret (body s) (Sum.elim (fun _ => False) Q)) : Ret (whileO body s0) Q := by
  refine Ret.loop N (fun i s => I i s ∧ ∀ j, j < i → g j = false) ⟨h0, fun j hj => absurd hj (Nat.not_lt_zero _)⟩ ?_ ?_
  · rintro i s hi ⟨h1, h2⟩
    cases hg : g i with
    | false =>
      refine (hno i s hi hg h1).mono ?_
      rintro (s' | e) h
      · refine ⟨h, fun j hj => ?_⟩
        by_cases hji : j = i
        · subst hji; exact hg
        · exact h2 j (by omega)
      · exact h.elim
    | true =>
      refine (hyes i s hi hg h2 h1).mono ?_
      rintro (s' | e) h
      · exact h.elim
      · exact h
  · rintro s ⟨h1, h2⟩
    exact hend s h2 h1
def frdV (T : TW) (a b : Int) : Option Nat := fIdx (fun f => decide (T 5 f = a) && decide (T 6 f = b)) (T 0 1).toNat
def frdI (T : TW) (a b : Int) : Int := match frdV T a b with
  | some f => f
  | none => -1
theorem X_friendsOf {T : TW} {R : Nat → RL} {v : Nat → Int} {M : KM} (h : WC T R v M) (ho : WO T R v) (a b : Int) : f_Town_friendsOfT a b M = some (frdI T a b) := by
  have o := ho.1.1
  refine Ret.some_of ?_
  unfold f_Town_friendsOfT frdI frdV
  refine Ret.bind (R := Sum.elim (fun i => ∃ f : Nat, i = f ∧ frdV T a b = some f) (fun _ => frdV T a b = none)) (Ret.find (fun f => decide (T 5 f = a) && decide (T 6 f = b)) (T 0 1).toNat (fun i s => s = (i : Int)) rfl ?_ ?_ ?_) ?_
  · rintro i s hi hg rfl
    have h2 := h.1.2.2.1 i (by omega)
    have h5 : M 7 i = T 5 i := h2.1
    have h6 : M 8 i = T 6 i := h2.2.1
    refine Ret.t (by rw [h.friends]; omega) (Ret.t (by omega) (Ret.t (by omega) (Ret.t (by omega) ?_)))
    rw [Int.toNat_natCast, h5, h6, w32e (by omega) (by omega)]
    rw [Bool.and_eq_false_iff, decide_eq_false_iff_not, decide_eq_false_iff_not] at hg
    refine Ret.br (fun hc => Ret.t (by omega) (Ret.f (by rcases hg with hg | hg; exact absurd hc hg; exact hg) (Ret.pure rfl))) (fun _ => Ret.pure rfl)
  · rintro i s hi hg hj rfl
    have h2 := h.1.2.2.1 i (by omega)
    have h5 : M 7 i = T 5 i := h2.1
    have h6 : M 8 i = T 6 i := h2.2.1
    have hg' := hg
    rw [Bool.and_eq_true, decide_eq_true_eq, decide_eq_true_eq] at hg
    refine Ret.t (by rw [h.friends]; omega) (Ret.t (by omega) (Ret.t (by omega) (Ret.t (by omega) ?_)))
    rw [Int.toNat_natCast, h5, h6]
    exact Ret.t hg.1 (Ret.t (by omega) (Ret.t hg.2 (Ret.pure ⟨i, rfl, fIdx_at hg' hj hi⟩)))
  · rintro s hj rfl
    exact Ret.f (by rw [h.friends]; omega) (Ret.pure (fIdx_none hj))
  · rintro (i | u) hq
    · obtain ⟨f, rfl, hf⟩ := hq
      unfold frdV at hf
      rw [hf]
      exact Ret.pure rfl
    · have hq : frdV T a b = none := hq
      unfold frdV at hq
      rw [hq]
      exact Ret.pure rfl
theorem WM.bf {b : Nat} {T : TW} {R : Nat → RL} {v : Nat → Int} {M : KM} (h : WM b T R v M) (ho : WO T R v) : w32 (20 * M 382 37) = ((20 * b : Nat) : Int) ∧ w32 (w32 (20 * M 382 37) + M 386 (M 382 37).toNat) = ((20 * b + (T 0 1).toNat : Nat) : Int) := by
  have o := ho.1.1
  have hb := h.1.1
  have e : M 386 b = T 0 1 := h.2.1.1.2.1
  rw [h.1.2, Int.toNat_natCast, e, w32e (n := 20 * (b : Int)) (by omega) (by omega), w32e (by omega) (by omega)]
  omega
theorem M_friendsOf {b : Nat} {T : TW} {R : Nat → RL} {v : Nat → Int} {M : KM} (h : WM b T R v M) (ho : WO T R v) (x y : Int) : f_M_friendsOf x y M = some (match frdV T x y with | some f => ((20 * b + f : Nat) : Int) | none => -1) := by
  have o := ho.1.1
  have hb := h.1.1
  have hf := h.bf ho
  refine Ret.some_of ?_
  unfold f_M_friendsOf
  rw [hf.1, letI_e]
  refine Ret.bind (R := Sum.elim (fun i => ∃ f : Nat, i = ((20 * b + f : Nat) : Int) ∧ frdV T x y = some f) (fun _ => frdV T x y = none)) (Ret.find (fun f => decide (T 5 f = x) && decide (T 6 f = y)) (T 0 1).toNat (fun i s => s = ((20 * b + i : Nat) : Int)) rfl ?_ ?_ ?_) ?_
  · rintro i s hi hg rfl
    have h2 := h.2.1.2.2.1 i (by omega)
    refine Ret.t (by rw [h.1.2]; omega) (Ret.t (by rw [← hf.1, hf.2]; omega) (Ret.t (by omega) ?_))
    rw [Int.toNat_natCast, h2.1, h2.2.1, w32e (by omega) (by omega)]
    rw [Bool.and_eq_false_iff, decide_eq_false_iff_not, decide_eq_false_iff_not] at hg
    refine Ret.br (fun hc => Ret.t (by omega) (Ret.f (by rcases hg with hg | hg; exact absurd hc hg; exact hg) (Ret.pure ?_))) (fun _ => Ret.pure ?_)
    · show _ = _; omega
    · show _ = _; omega
  · rintro i s hi hg hj rfl
    have h2 := h.2.1.2.2.1 i (by omega)
    have hg' := hg
    rw [Bool.and_eq_true, decide_eq_true_eq, decide_eq_true_eq] at hg
    refine Ret.t (by rw [h.1.2]; omega) (Ret.t (by rw [← hf.1, hf.2]; omega) (Ret.t (by omega) ?_))
    rw [Int.toNat_natCast, h2.1, h2.2.1]
    exact Ret.t hg.1 (Ret.t (by omega) (Ret.t hg.2 (Ret.pure ⟨i, rfl, fIdx_at hg' hj hi⟩)))
  · rintro s hj rfl
    exact Ret.t (by rw [h.1.2]; omega) (Ret.f (by rw [← hf.1, hf.2]; omega) (Ret.pure (fIdx_none hj)))
  · rintro (i | u) hq
    · obtain ⟨f, rfl, hf⟩ := hq
      rw [hf]
      exact Ret.pure rfl
    · have hq : frdV T x y = none := hq
      rw [hq]
      exact Ret.pure rfl
theorem frdV_some {T : TW} {a b : Int} {f : Nat} (h : frdV T a b = some f) : (f : Int) < T 0 1 ∧ T 5 f = a ∧ T 6 f = b := by
  obtain ⟨h1, h2, -⟩ := fIdx_some h
  rw [Bool.and_eq_true, decide_eq_true_eq, decide_eq_true_eq] at h2
  exact ⟨by omega, h2.1, h2.2⟩
/-! THE FEWEST YEARS TO A RIGHT -/
def hasB (T : TW) (R : Nat → RL) (v : Nat → Int) (p r : Int) (n : Nat) : Bool := decide (hasV T R v p r (v p.toNat + n) = 1)
def fewN (T : TW) (v : Nat → Int) (p most : Int) : Nat := (min most (T 0 4 - v p.toNat)).toNat
def fewV (T : TW) (R : Nat → RL) (v : Nat → Int) (p r most : Int) : Nat := firstN (hasB T R v p r) (fewN T v p most)
theorem hasV_dead {T : TW} {R : Nat → RL} {v : Nat → Int} {p r a : Int} (h : alv v p = false) : hasV T R v p r a = 0 := by
  unfold hasV
  rw [if_neg]
  rintro ⟨hq, -⟩
  rw [h] at hq; cases hq
def fewA (T : TW) (R : Nat → RL) (v : Nat → Int) (p r most : Int) : Nat := if alv v p = true ∧ hasV T R v p r (v p.toNat) = 0 then fewV T R v p r most else 0
theorem X_fewest {T : TW} {R : Nat → RL} {v : Nat → Int} {M : KM} (h : WC T R v M) (ho : WO T R v) (p r : Int) {most : Int} (hm : most < 1000000) : Ret (f_X_fewestToHave p r most M) (fun q => q.1 = (fewA T R v p r most : Int) ∧ Fp pV M q.2) := by
  have o := ho.1.1
  unfold f_X_fewestToHave fewA
  rw [e_X_isAlive h.n h.alive ho.2, ob_some]
  by_cases ha : alv v p = true
  · have hp := alv_R ho.2 ha
    have hage := ho.2.2.2.1 p.toNat (by omega)
    rw [if_pos ha]
    refine Ret.f (by omega) (Ret.bind (X_hasNow h ho hp.1 hp.2 r) ?_)
    rintro ⟨x, M1⟩ ⟨h1, h2⟩
    dsimp only at h1 h2 ⊢
    subst h1
    by_cases hz : hasV T R v p r (v p.toNat) = 0
    · rw [if_pos (And.intro ha hz)]
      refine Ret.t hz (Ret.letI ?_)
      rw [(h.v h2).age ho hp.1 hp.2]
      refine Ret.bind (R := Sum.elim (fun q => q.1 = (fewV T R v p r most : Int) ∧ Fp pV M q.2) (fun M' => fewV T R v p r most = 0 ∧ Fp pV M M')) (Ret.find (fun i => hasB T R v p r (i + 1)) (fewN T v p most) (fun i s => s.1 = (i : Int) + 1 ∧ Fp pV M s.2) ⟨rfl, h2⟩ ?_ ?_ ?_) ?_
      · rintro i ⟨n, M2⟩ hi hg ⟨h3, h4⟩
        dsimp only at h3 h4 ⊢
        subst h3
        unfold fewN at hi
        have hw := h.v h4
        have e : w32 (v p.toNat + ((i : Int) + 1)) = v p.toNat + ((i + 1 : Nat) : Int) := by rw [w32e (by omega) (by omega)]; omega
        refine Ret.t (by omega) (Ret.t (by rw [hw.most, e]; omega) ?_)
        rw [e]
        refine Ret.bind (X_wouldHave hw ho _ _ _) ?_
        rintro ⟨x, M3⟩ ⟨h5, h6⟩
        dsimp only at h5 h6 ⊢
        have h01 := hasV_01 T R v p r (v p.toNat + ((i + 1 : Nat) : Int))
        unfold hasB at hg
        rw [decide_eq_false_iff_not] at hg
        refine Ret.t (by omega) (Ret.pure ⟨?_, h4.tr h6⟩)
        show w32 ((i : Int) + 1 + 1) = _
        rw [w32e (by omega) (by omega)]; omega
      · rintro i ⟨n, M2⟩ hi hg hj ⟨h3, h4⟩
        dsimp only at h3 h4 ⊢
        subst h3
        have hi' := hi
        unfold fewN at hi
        have hw := h.v h4
        have e : w32 (v p.toNat + ((i : Int) + 1)) = v p.toNat + ((i + 1 : Nat) : Int) := by rw [w32e (by omega) (by omega)]; omega
        refine Ret.t (by omega) (Ret.t (by rw [hw.most, e]; omega) ?_)
        rw [e]
        refine Ret.bind (X_wouldHave hw ho _ _ _) ?_
        rintro ⟨x, M3⟩ ⟨h5, h6⟩
        dsimp only at h5 h6 ⊢
        have hg' := hg
        unfold hasB at hg
        rw [decide_eq_true_eq] at hg
        refine Ret.f (by omega) (Ret.pure ⟨?_, h4.tr h6⟩)
        unfold fewV
        rw [firstN_at (n := i + 1) (by omega) hg' (fun m h1 h2 => by have := hj (m - 1) (by omega); rwa [show m - 1 + 1 = m by omega] at this) (by omega)]
        rfl
      · rintro ⟨n, M2⟩ hj ⟨h3, h4⟩
        dsimp only at h3 h4 ⊢
        subst h3
        have hw := h.v h4
        have hz2 : fewV T R v p r most = 0 := firstN_none (fun m h1 h2 => by have := hj (m - 1) (by omega); rwa [show m - 1 + 1 = m by omega] at this)
        refine Ret.br (fun hc => Ret.f ?_ (Ret.pure ⟨hz2, h4⟩)) (fun hc => Ret.pure ⟨hz2, h4⟩)
        have hN : fewN T v p most ≤ 150 := by unfold fewN; omega
        rw [hw.most, w32e (by omega) (by omega)]
        unfold fewN at hc ⊢
        omega
      · rintro (⟨n, M2⟩ | M2) ⟨h3, h4⟩
        · exact Ret.pure ⟨h3, h4⟩
        · exact Ret.pure ⟨by dsimp only; rw [h3]; rfl, h4⟩
    · exact Ret.f hz (Ret.pure ⟨by dsimp only; rw [if_neg (fun q => hz q.2)]; rfl, h2⟩)
  · rw [if_neg ha]
    refine Ret.t rfl (Ret.pure ⟨?_, Fp.rf⟩)
    rw [if_neg (fun q => ha q.1)]; rfl
theorem M_fewest {b : Nat} {T : TW} {R : Nat → RL} {v : Nat → Int} {M : KM} (h : WM b T R v M) (ho : WO T R v) {p r : Int} (hp0 : 0 ≤ p) (hp1 : p < T 0 0) (hr : 0 ≤ r ∧ r < T 0 2) {most : Int} (hm : most < 1000000) : Ret (f_M_fewest p r most M) (fun q => q.1 = (if fewV T R v p r most = 0 then -1 else (fewV T R v p r most : Int)) ∧ Fp pW M q.2) := by
  have o := ho.1.1
  have hb := h.1.1
  have hage := ho.2.2.2.1 p.toNat (by omega)
  unfold f_M_fewest
  refine Ret.bind (R := Sum.elim (fun q => q.1 = (fewV T R v p r most : Int) ∧ fewV T R v p r most ≠ 0 ∧ Fp pW M q.2) (fun M' => fewV T R v p r most = 0 ∧ Fp pW M M')) (Ret.find (fun i => hasB T R v p r (i + 1)) (fewN T v p most) (fun i s => s.1 = (i : Int) + 1 ∧ Fp pW M s.2) ⟨rfl, Fp.rf⟩ ?_ ?_ ?_) ?_
  · rintro i s hi hg ⟨h3, h4⟩
    unfold fewN at hi
    have hw := h.w h4
    have a1 := hw.age ho hp0 hp1
    have e : w32 (v p.toNat + ((i : Int) + 1)) = v p.toNat + ((i + 1 : Nat) : Int) := by rw [w32e (by omega) (by omega)]; omega
    have e4 : s.2 391 b = T 0 4 := hw.2.1.1.2.2.2.2.1
    rw [h3, a1.1, a1.2.2, e]
    refine Ret.t (by omega) (Ret.t (by omega) (Ret.t (by rw [hw.1.2]; omega) (Ret.t (by rw [hw.1.2, Int.toNat_natCast, e4]; omega) (Ret.t (by omega) ?_))))
    refine Ret.bind (M_wouldHave hw ho hp0 hp1 hr _) ?_
    rintro q ⟨h5, h6⟩
    have h01 := hasV_01 T R v p r (v p.toNat + ((i + 1 : Nat) : Int))
    unfold hasB at hg
    rw [decide_eq_false_iff_not] at hg
    refine Ret.t (by omega) (Ret.pure ⟨?_, h4.tr h6⟩)
    show w32 ((i : Int) + 1 + 1) = _
    rw [w32e (by omega) (by omega)]; omega
  · rintro i s hi hg hj ⟨h3, h4⟩
    have hi' := hi
    unfold fewN at hi
    have hw := h.w h4
    have a1 := hw.age ho hp0 hp1
    have e : w32 (v p.toNat + ((i : Int) + 1)) = v p.toNat + ((i + 1 : Nat) : Int) := by rw [w32e (by omega) (by omega)]; omega
    have e4 : s.2 391 b = T 0 4 := hw.2.1.1.2.2.2.2.1
    rw [h3, a1.1, a1.2.2, e]
    refine Ret.t (by omega) (Ret.t (by omega) (Ret.t (by rw [hw.1.2]; omega) (Ret.t (by rw [hw.1.2, Int.toNat_natCast, e4]; omega) (Ret.t (by omega) ?_))))
    refine Ret.bind (M_wouldHave hw ho hp0 hp1 hr _) ?_
    rintro q ⟨h5, h6⟩
    have hg' := hg
    unfold hasB at hg
    rw [decide_eq_true_eq] at hg
    have hf : fewV T R v p r most = i + 1 := firstN_at (n := i + 1) (by omega) hg' (fun m h1 h2 => by have := hj (m - 1) (by omega); rwa [show m - 1 + 1 = m by omega] at this) (by omega)
    refine Ret.f (by omega) (Ret.pure ⟨?_, ?_, h4.tr h6⟩)
    · rw [hf]; rfl
    · rw [hf]; omega
  · rintro s hj ⟨h3, h4⟩
    have hw := h.w h4
    have a1 := hw.age ho hp0 hp1
    have e4 : s.2 391 b = T 0 4 := hw.2.1.1.2.2.2.2.1
    have hz2 : fewV T R v p r most = 0 := firstN_none (fun m h1 h2 => by have := hj (m - 1) (by omega); rwa [show m - 1 + 1 = m by omega] at this)
    rw [h3, a1.1, a1.2.2]
    refine Ret.br (fun hc => Ret.t (by omega) (Ret.t (by rw [hw.1.2]; omega) (Ret.f ?_ (Ret.pure ⟨hz2, h4⟩)))) (fun hc => Ret.pure ⟨hz2, h4⟩)
    have hN : fewN T v p most ≤ 150 := by unfold fewN; omega
    rw [hw.1.2, Int.toNat_natCast, e4, w32e (by omega) (by omega)]
    unfold fewN at hc ⊢
    omega
  · rintro (⟨n, M2⟩ | M2) h3
    · exact Ret.pure ⟨by dsimp only; rw [if_neg h3.2.1]; exact h3.1, h3.2.2⟩
    · exact Ret.pure ⟨by dsimp only; rw [if_pos h3.1], h3.2⟩
