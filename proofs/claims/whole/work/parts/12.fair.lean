/-! FAIR SHARES -/
theorem i32_div {a b : Int} (ha : 0 ≤ a) (ha2 : a < 2147483648) (hb : 0 < b) (hb2 : b < 2147483648) : Int32.ofInt a / Int32.ofInt b = Int32.ofInt (a / b) := by
  have ea : (Int32.ofInt a).toInt = a := R32_toInt ⟨by omega, ha2⟩
  have eb : (Int32.ofInt b).toInt = b := R32_toInt ⟨by omega, hb2⟩
  have hd0 : 0 ≤ a / b := Int.ediv_nonneg ha (by omega)
  have hd1 : a / b ≤ a := Int.ediv_le_self b ha
  apply Int32.toInt_inj.mp
  rw [Int32.toInt_div_of_ne_left, ea, eb, R32_toInt ⟨by omega, by omega⟩, Int.tdiv_eq_ediv_of_nonneg ha]
  intro hq
  have := congrArg Int32.toInt hq
  rw [ea] at this
  have e2 : (Int32.minValue).toInt = -2147483648 := by decide
  rw [e2] at this
  omega
theorem kdiv_nn {a b : Int} (ha : 0 ≤ a) (ha2 : a < 2147483648) (hb : 0 < b) (hb2 : b < 2147483648) : kdiv a b = a / b := by
  unfold kdiv
  rw [i32_div ha ha2 hb hb2]
  have hd0 : 0 ≤ a / b := Int.ediv_nonneg ha (by omega)
  have hd1 : a / b ≤ a := Int.ediv_le_self b ha
  exact R32_toInt ⟨by omega, by omega⟩
theorem krem_nn {a b : Int} (ha : 0 ≤ a) (ha2 : a < 2147483648) (hb : 0 < b) (hb2 : b < 2147483648) : krem a b = a % b := by
  unfold krem
  rw [i32_div ha ha2 hb hb2, ← Int32.ofInt_mul, ← Int32.ofInt_sub]
  have e : a - a / b * b = a % b := by rw [Int.emod_def, Int.mul_comm]
  rw [e]
  have := Int.emod_nonneg a (by omega : b ≠ 0)
  have := Int.emod_lt_of_pos a hb
  exact R32_toInt ⟨by omega, by omega⟩
def cntN (g : Nat → Bool) (n : Nat) : Nat := (List.range n).countP g
theorem cntN_0 (g : Nat → Bool) : cntN g 0 = 0 := rfl
theorem cntN_s (g : Nat → Bool) (n : Nat) : cntN g (n + 1) = cntN g n + if g n = true then 1 else 0 := by
  unfold cntN
  rw [List.range_succ, List.countP_append]
  simp [List.countP_cons]
theorem cntN_le (g : Nat → Bool) : ∀ n, cntN g n ≤ n := by
  intro n
  induction n with
  | zero => exact Nat.le_refl _
  | succ n ih => rw [cntN_s]; split <;> omega
theorem cntN_lt (g : Nat → Bool) (n : Nat) : ∀ k, cntN (fun p => decide (p < n) && g p) (n + k) = cntN g n := by
  intro k
  induction k with
  | zero =>
    rw [Nat.add_zero]
    unfold cntN
    apply List.countP_congr
    intro x hx
    have := List.mem_range.mp hx
    simp [this]
  | succ k ih =>
    rw [← Nat.add_assoc, cntN_s, ih, if_neg]
    · rfl
    · simp; intro; omega
theorem cntN_none {g : Nat → Bool} : ∀ {n : Nat}, cntN g n = 0 → ∀ p, p < n → g p = false := by
  intro n
  induction n with
  | zero => intro _ p h; omega
  | succ n ih =>
    intro h p hp
    rw [cntN_s] at h
    by_cases hpn : p = n
    · subst hpn
      cases hg : g p with
      | false => rfl
      | true => rw [hg] at h; simp at h
    · exact ih (by omega) p (by omega)
theorem cntN_pos {g : Nat → Bool} {n p : Nat} (hp : p < n) (hg : g p = true) : 0 < cntN g n := by
  cases hq : cntN g n with
  | zero => rw [cntN_none hq p hp] at hg; cases hg
  | succ k => omega
theorem sumS_ok {T : TW} {R : Nat → RL} {v : Nat → Int} (ho : WO T R v) (fam : Int) : 0 ≤ sumS T v fam ∧ sumS T v fam ≤ 1200 := by
  have o := ho.1.1
  have key : ∀ i : Nat, (i : Int) ≤ T 0 0 → 0 ≤ itF (fun (p : Nat) (a : Int) => if alv v p = true ∧ (fam = -1 ∨ T 4 p = fam) then w32 (a + v p) else a) 0 i ∧ itF (fun (p : Nat) (a : Int) => if alv v p = true ∧ (fam = -1 ∨ T 4 p = fam) then w32 (a + v p) else a) 0 i ≤ 150 * i := by
    intro i
    induction i with
    | zero => intro _; exact ⟨Int.le_refl 0, Int.le_refl 0⟩
    | succ i ih =>
      intro hi
      have ih := ih (by omega)
      have ag := ho.2.2.2.1 i (by omega)
      unfold itF
      generalize itF (fun (p : Nat) (a : Int) => if alv v p = true ∧ (fam = -1 ∨ T 4 p = fam) then w32 (a + v p) else a) 0 i = z at ih ⊢
      split
      · rw [w32e (by omega) (by omega)]; omega
      · omega
  have := key (T 0 0).toNat (by omega)
  unfold sumS
  omega
def famB (T : TW) (v : Nat → Int) (fam : Int) (p : Nat) : Bool := alv v p && decide (T 4 p = fam)
def cntF (T : TW) (v : Nat → Int) (fam : Int) : Nat := cntN (famB T v fam) (T 0 0).toNat
def ahB (T : TW) (v : Nat → Int) (fam : Int) (p o : Nat) : Bool := famB T v fam o && (decide (v p < v o) || (decide (v o = v p) && decide (o < p)))
def shareV (T : TW) (v : Nat → Int) (fam : Int) (p : Nat) : Int := w32 (kdiv (sumS T v fam) (cntF T v fam) + if (cntN (ahB T v fam p) (T 0 0).toNat : Int) < krem (sumS T v fam) (cntF T v fam) then 1 else 0)
def fairS (T : TW) (v : Nat → Int) (fam : Int) : Nat → Int × List Int := itF (fun p s => if famB T v fam p = true then (w32 (s.1 + max 0 (w32 (shareV T v fam p - v p))), s.2 ++ [shareV T v fam p]) else s) (0, [])
def fairA (T : TW) (v : Nat → Int) (fam : Int) : Int × List Int := if 0 ≤ fam ∧ fam < 4 then fairS T v fam (T 0 0).toNat else (-1, [])
theorem fairS_s (T : TW) (v : Nat → Int) (fam : Int) (p : Nat) : fairS T v fam (p + 1) = if famB T v fam p = true then (w32 ((fairS T v fam p).1 + max 0 (w32 (shareV T v fam p - v p))), (fairS T v fam p).2 ++ [shareV T v fam p]) else fairS T v fam p := rfl
theorem fairS_len (T : TW) (v : Nat → Int) (fam : Int) : ∀ p : Nat, (fairS T v fam p).2.length ≤ p := by
  intro p
  induction p with
  | zero => exact Nat.le_refl 0
  | succ p ih =>
    rw [fairS_s]
    split
    · simp; omega
    · omega
theorem fairS_none {T : TW} {v : Nat → Int} {fam : Int} (h : cntF T v fam = 0) : ∀ p : Nat, p ≤ (T 0 0).toNat → fairS T v fam p = (0, []) := by
  intro p
  induction p with
  | zero => intro _; rfl
  | succ p ih =>
    intro hp
    rw [fairS_s, cntN_none h p (by omega), if_neg (by simp)]
    exact ih (by omega)
theorem alv_nat (v : Nat → Int) (p : Nat) : alv v (p : Int) = bt (v 16) p := by
  unfold alv
  rw [Int.toNat_natCast, decide_eq_true (Int.natCast_nonneg p), Bool.true_and]
theorem X_familyAlive {T : TW} {R : Nat → RL} {v : Nat → Int} {M : KM} (h : WC T R v M) (ho : WO T R v) (fam : Int) : Ret (f_X_familyAlive fam M) (fun q => 0 ≤ q ∧ q < 256 ∧ ∀ p, bt q p = (decide (p < (T 0 0).toNat) && famB T v fam p)) := by
  have o := ho.1.1
  unfold f_X_familyAlive
  refine Ret.bind (R := fun q => 0 ≤ q ∧ q < 256 ∧ ∀ p, bt q p = (decide (p < (T 0 0).toNat) && famB T v fam p)) (Ret.loop (T 0 0).toNat (fun i s => s.2 = (i : Int) ∧ 0 ≤ s.1 ∧ s.1 < 256 ∧ ∀ p, bt s.1 p = (decide (p < i) && famB T v fam p)) ⟨rfl, by decide, by decide, fun p => by simp [bt]⟩ ?_ ?_) (fun q hq => Ret.pure hq)
  · rintro i s hi ⟨h1, h2, h3, h4⟩
    have hi' : (i : Int) < T 0 0 := by omega
    rw [h1]
    refine Ret.t (by rw [h.n]; exact hi') ?_
    rw [e_X_isAlive h.n h.alive ho.2, ob_some, h.family ho (by omega) hi', Int.toNat_natCast, w32e (n := (i : Int) + 1) (by omega) (by omega)]
    refine Ret.bind (R := fun q => 0 ≤ q ∧ q < 256 ∧ ∀ p, bt q p = (decide (p < i + 1) && famB T v fam p)) ?_ ?_
    · by_cases hf : famB T v fam i = true
      · have hf' := hf
        unfold famB at hf'
        rw [Bool.and_eq_true, decide_eq_true_eq] at hf'
        rw [if_pos hf'.1]
        refine Ret.f (by omega) (Ret.t hf'.2 (Ret.letI (Ret.pure ?_)))
        obtain ⟨k1, k2, k3⟩ := kior_bit (p := i) h2 (by omega) (by omega)
        have k4 : ∀ p, bt (kior s.1 (kishl 1 i)) p = (decide (p < i + 1) && famB T v fam p) := by
          intro p
          rw [k3, h4]
          by_cases hp : p = i
          · subst hp; simp [hf]
          · have : decide (p < i + 1) = decide (p < i) := decide_eq_decide.mpr (by omega)
            rw [this]; simp [hp]
        refine ⟨k1, ?_, k4⟩
        exact bt_lt8 k1 (n := 8) (fun p hp => by rw [k4]; simp; intro; omega)
      · have hq : ∀ p, bt s.1 p = (decide (p < i + 1) && famB T v fam p) := by
          intro p
          rw [h4]
          by_cases hp : p = i
          · subst hp; simp [hf]
          · have : decide (p < i + 1) = decide (p < i) := decide_eq_decide.mpr (by omega)
            rw [this]
        by_cases ha : alv v i = true
        · rw [if_pos ha]
          refine Ret.f (by omega) (Ret.f ?_ (Ret.pure ⟨h2, h3, hq⟩))
          intro he
          apply hf
          unfold famB
          rw [ha, he]; simp
        · rw [if_neg ha]
          exact Ret.t rfl (Ret.pure ⟨h2, h3, hq⟩)
    · rintro q ⟨g1, g2, g3⟩
      exact Ret.pure ⟨by dsimp only; omega, g1, g2, g3⟩
  · rintro s ⟨h1, h2, h3, h4⟩
    refine Ret.f (by rw [h1, h.n]; omega) (Ret.pure ⟨h2, h3, h4⟩)
theorem pop8_fam {T : TW} {R : Nat → RL} {v : Nat → Int} (ho : WO T R v) {fam q : Int} (h : ∀ p, bt q p = (decide (p < (T 0 0).toNat) && famB T v fam p)) : pop8 q = cntF T v fam := by
  have o := ho.1.1
  have e : (fun i => bt q i) = fun p => (decide (p < (T 0 0).toNat) && famB T v fam p) := funext h
  show cntN (fun i => bt q i) 8 = _
  rw [e, show 8 = (T 0 0).toNat + (8 - (T 0 0).toNat) by omega]
  exact cntN_lt _ _ _
theorem X_olderThan {T : TW} {R : Nat → RL} {v : Nat → Int} {M : KM} (h : WC T R v M) (ho : WO T R v) {fam q : Int} {p : Nat} (hp : (p : Int) < T 0 0) (hq0 : 0 ≤ q) (hq1 : q < 256) (hq : ∀ p, bt q p = (decide (p < (T 0 0).toNat) && famB T v fam p)) : f_X_olderThan p q M = some (cntN (ahB T v fam p) (T 0 0).toNat : Int) := by
  have o := ho.1.1
  unfold f_X_olderThan
  rw [wh_for (fun i => ((cntN (ahB T v fam p) i : Int), (i : Int))) (T 0 0).toNat (cntN (ahB T v fam p) (T 0 0).toNat : Int) (by rfl) ?_ ?_, ob_some]
  · intro i hi
    dsimp only
    have hi' : (i : Int) < T 0 0 := by omega
    have a1 := ho.2.2.2.1 i hi'
    have a2 := ho.2.2.2.1 p hp
    have a3 := cntN_le (ahB T v fam p) i
    rw [h.n, if_pos hi', h.age ho (by omega) hi', h.age ho (by omega) hp, Int.toNat_natCast, Int.toNat_natCast, isInV_bt hq0 (by omega), Int.toNat_natCast, hq, w32e (n := v i - v p) (by omega) (by omega), w32e (n := (cntN (ahB T v fam p) i : Int) + 1) (by omega) (by omega), w32e (n := (i : Int) + 1) (by omega) (by omega), cntN_s, letI_e]
    have hd : decide (i < (T 0 0).toNat) = true := decide_eq_true hi
    rw [hd, Bool.true_and]
    unfold ahB
    by_cases hf : famB T v fam i = true
    · have h0 : (0 : Int) ≤ i := by omega
      by_cases h1 : v i - v p ≤ 0
      · have n1 : ¬ v p < v i := by omega
        by_cases h2 : v i - v p = 0
        · have n2 : v i = v p := by omega
          by_cases h3 : i < p
          · simp [hf, n2, h3]
          · have : p ≤ i := by omega
            simp [hf, n2, h3]
        · have n2 : ¬ v i = v p := by omega
          simp [hf, h1, h2, n1, n2]
      · have n1 : v p < v i := by omega
        simp [hf, h1, n1]
    · simp [hf]
  · dsimp only
    rw [h.n, if_neg (by omega)]
theorem X_fair {T : TW} {R : Nat → RL} {v : Nat → Int} {M : KM} (h : WC T R v M) (ho : WO T R v) (fam : Int) : Ret (f_X_fair fam M) (fun q => q.1 = (fairA T v fam).1 ∧ LC (fairA T v fam).2 q.2 ∧ Fp pL M q.2) := by
  have o := ho.1.1
  unfold f_X_fair
  rw [letM_e]
  have f0 : Fp pL M (mupd M 0 16 0) := Fp.rf.upd (Or.inr ⟨rfl, rfl⟩)
  have wl : ∀ {M' : KM}, Fp pL M M' → WC T R v M' := fun hf => h.vl (hf.mono fun _ _ => Or.inr)
  have w0 := wl f0
  rw [e_X_isFamily, ob_some]
  unfold fairA
  by_cases hr : 0 ≤ fam ∧ fam < 4
  · rw [if_pos hr, if_pos hr]
    refine Ret.f (by omega) (Ret.bind (X_familyAlive w0 ho fam) ?_)
    rintro q ⟨q0, q1, q2⟩
    rw [e_bitCount _ q0 q1, ob_some, pop8_fam ho q2]
    by_cases hc : cntF T v fam = 0
    · rw [fairS_none hc _ (Nat.le_refl _)]
      exact Ret.t (by omega) (Ret.pure ⟨rfl, LC_nil M, f0⟩)
    · have hcl : cntF T v fam ≤ 8 := by have := cntN_le (famB T v fam) (T 0 0).toNat; unfold cntF; omega
      have hs := sumS_ok ho fam
      have e5 : f_X_sum fam (mupd M 0 16 0) = some (sumS T v fam) := by
        rw [X_sum w0 ho]; unfold sumA; rw [if_pos (by omega)]
      refine Ret.f (by omega) ?_
      rw [e5, ob_some]
      refine Ret.bind (R := fun q => q.1 = (fairS T v fam (T 0 0).toNat).1 ∧ LC (fairS T v fam (T 0 0).toNat).2 q.2 ∧ Fp pL M q.2) (Ret.loop (T 0 0).toNat (fun p s => s.1 = (fairS T v fam p).1 ∧ s.2.1 = (p : Int) ∧ LC (fairS T v fam p).2 s.2.2 ∧ Fp pL M s.2.2) ⟨rfl, rfl, LC_nil M, f0⟩ ?_ ?_) (fun q hq => Ret.pure hq)
      · rintro p s hp ⟨h1, h2, h3, h4⟩
        have hp' : (p : Int) < T 0 0 := by omega
        have w1 := wl h4
        rw [h2]
        refine Ret.t (by rw [w1.n]; exact hp') ?_
        rw [isInV_bt q0 (by omega), Int.toNat_natCast, q2, decide_eq_true hp, Bool.true_and, w32e (n := (p : Int) + 1) (by omega) (by omega)]
        refine Ret.bind (R := fun q => q.1 = (fairS T v fam (p + 1)).1 ∧ LC (fairS T v fam (p + 1)).2 q.2 ∧ Fp pL M q.2) ?_ ?_
        · rw [fairS_s]
          by_cases hf : famB T v fam p = true
          · have hc1 : 0 ≤ (p : Int) ∧ famB T v fam p = true := ⟨by omega, hf⟩
            rw [if_pos hf, if_pos hc1]
            refine Ret.f (by omega) (Ret.f (by omega) ?_)
            rw [X_olderThan w1 ho hp' q0 q1 q2, ob_some]
            refine Ret.f (by omega) ?_
            have e8 : (if (cntN (ahB T v fam p) (T 0 0).toNat : Int) < krem (sumS T v fam) (cntF T v fam) then some (1 : Int) else some 0) = some (if (cntN (ahB T v fam p) (T 0 0).toNat : Int) < krem (sumS T v fam) (cntF T v fam) then 1 else 0) := by split <;> rfl
            rw [e8, ob_some, letI_e]
            have hl := fairS_len T v fam p
            refine Ret.bind (X_lay h3 (by omega) _) ?_
            rintro M2 ⟨x1, y1⟩
            have f2 := h4.tr y1
            rw [letI_e, (wl f2).age ho (by omega) hp', Int.toNat_natCast]
            exact Ret.pure ⟨by dsimp only; rw [h1]; rfl, x1, f2⟩
          · have hc1 : ¬ (0 ≤ (p : Int) ∧ famB T v fam p = true) := fun q => hf q.2
            rw [if_neg hf, if_neg hc1]
            exact Ret.t rfl (Ret.pure ⟨h1, h3, h4⟩)
        · rintro q3 ⟨y1, y2, y3⟩
          exact Ret.pure ⟨y1, by dsimp only; omega, y2, y3⟩
      · rintro s ⟨h1, h2, h3, h4⟩
        exact Ret.f (by rw [h2, (wl h4).n]; omega) (Ret.pure ⟨h1, h3, h4⟩)
  · rw [if_neg hr, if_neg hr]
    exact Ret.t rfl (Ret.pure ⟨rfl, LC_nil M, f0⟩)
theorem M_isOf {b : Nat} {T : TW} {R : Nat → RL} {v : Nat → Int} {M : KM} (h : WM b T R v M) (ho : WO T R v) {p : Nat} (hp : (p : Int) < T 0 0) (fam : Int) : f_M_isOf p fam M = some (if famB T v fam p = true then 1 else 0) := by
  have o := ho.1.1
  have a3 := h.bp ho (p := p) (by omega) hp
  rw [Int.toNat_natCast] at a3
  unfold f_M_isOf famB
  rw [e_M_isAlive (h.all (by omega)) ho.2 (by omega) (by omega), ob_some, a3.1, if_pos a3.2.1, Int.toNat_natCast, a3.2.2.2.1]
  by_cases ha : alv v p = true
  · by_cases hf : T 4 p = fam
    · simp [ha, hf]
    · simp [ha, hf]
  · simp [ha]
theorem M_aheadOf {b : Nat} {T : TW} {R : Nat → RL} {v : Nat → Int} {M : KM} (h : WM b T R v M) (ho : WO T R v) {p : Nat} (hp : (p : Int) < T 0 0) (fam : Int) : f_M_aheadOf p fam M = some (cntN (ahB T v fam p) (T 0 0).toNat : Int) := by
  have o := ho.1.1
  unfold f_M_aheadOf
  rw [wh_for (fun i => ((cntN (ahB T v fam p) i : Int), (i : Int))) (T 0 0).toNat (cntN (ahB T v fam p) (T 0 0).toNat : Int) (by rfl) ?_ ?_, ob_some]
  · intro i hi
    dsimp only
    have hi' : (i : Int) < T 0 0 := by omega
    have a1 := h.age ho (p := i) (by omega) hi'
    have a2 := h.age ho (p := p) (by omega) hp
    have a3 := cntN_le (ahB T v fam p) i
    rw [Int.toNat_natCast] at a1 a2
    rw [e_M_many h.1, ob_some, h.n, if_pos hi', M_isOf h ho hi', ob_some, a1.1, a2.1, if_pos a1.2.1, if_pos a2.2.1, if_pos a1.2.1, if_pos a2.2.1, Int.toNat_natCast, Int.toNat_natCast, a1.2.2, a2.2.2, w32e (n := (cntN (ahB T v fam p) i : Int) + 1) (by omega) (by omega), w32e (n := (i : Int) + 1) (by omega) (by omega), cntN_s]
    unfold ahB
    by_cases hf : famB T v fam i = true
    · by_cases h1 : v i ≤ v p
      · have n1 : ¬ v p < v i := by omega
        by_cases h2 : v i = v p
        · by_cases h3 : i < p
          · simp [hf, h2, h3]
          · simp [hf, h2, h3]
        · simp [hf, h1, h2, n1]
      · have n1 : v p < v i := by omega
        simp [hf, h1, n1]
    · simp [hf]
  · dsimp only
    rw [e_M_many h.1, ob_some, h.n, if_neg (by omega)]
theorem share_ok {T : TW} {R : Nat → RL} {v : Nat → Int} (ho : WO T R v) {fam : Int} (hc : cntF T v fam ≠ 0) (p : Nat) : 0 ≤ shareV T v fam p ∧ shareV T v fam p ≤ 1201 := by
  have o := ho.1.1
  have hcl : cntF T v fam ≤ 8 := by have := cntN_le (famB T v fam) (T 0 0).toNat; unfold cntF; omega
  have hs := sumS_ok ho fam
  unfold shareV
  rw [kdiv_nn hs.1 (by omega) (by omega) (by omega)]
  have h0 : 0 ≤ sumS T v fam / (cntF T v fam : Int) := Int.ediv_nonneg hs.1 (by omega)
  have h1 : sumS T v fam / (cntF T v fam : Int) ≤ sumS T v fam := Int.ediv_le_self _ hs.1
  split
  · rw [w32e (by omega) (by omega)]; omega
  · rw [w32e (by omega) (by omega)]; omega
set_option maxRecDepth 20000 in
theorem M_fair {b : Nat} {T : TW} {R : Nat → RL} {v : Nat → Int} {M : KM} (h : WM b T R v M) (ho : WO T R v) (fam : Int) : Ret (f_M_fair fam M) (fun q => q.1 = (fairA T v fam).1 ∧ LM (fairA T v fam).2 q.2 ∧ Fp pWL M q.2) := by
  have o := ho.1.1
  unfold f_M_fair
  rw [letM_e]
  have f0 : Fp pWL M (mupd M 382 63 0) := Fp.rf.upd (Or.inr (Or.inr (Or.inr ⟨rfl, rfl⟩)))
  have w0 := h.wl f0
  rw [e_M_isIn, ob_some]
  unfold fairA
  by_cases hr : 0 ≤ fam ∧ fam < 4
  · have hr' : 0 ≤ fam ∧ fam ≤ 3 := by omega
    rw [if_pos hr, if_pos hr']
    have e4 : ∀ M', WM b T R v M' → f_M_sum fam M' = some (sumS T v fam) := by
      intro M' w
      rw [M_sum w ho]; unfold sumA; rw [if_pos (by omega)]
    refine Ret.f (by omega) ?_
    rw [wh_for (fun i => ((cntN (famB T v fam) i : Int), (i : Int))) (T 0 0).toNat (cntF T v fam : Int) (by rfl) ?_ ?_, ob_some, e4 _ w0, ob_some]
    · refine Ret.bind (R := fun q => q.1 = (fairS T v fam (T 0 0).toNat).1 ∧ LM (fairS T v fam (T 0 0).toNat).2 q.2 ∧ Fp pWL M q.2) (Ret.loop (T 0 0).toNat (fun p s => s.1 = (fairS T v fam p).1 ∧ s.2.1 = (p : Int) ∧ LM (fairS T v fam p).2 s.2.2 ∧ Fp pWL M s.2.2) ⟨rfl, rfl, LM_nil M, f0⟩ ?_ ?_) (fun q hq => Ret.pure hq)
      · rintro p s hp ⟨h1, h2, h3, h4⟩
        have hp' : (p : Int) < T 0 0 := by omega
        have w1 := h.wl h4
        rw [h2, e_M_many w1.1, ob_some, w1.n]
        refine Ret.t hp' ?_
        rw [M_isOf w1 ho hp', ob_some, w32e (n := (p : Int) + 1) (by omega) (by omega)]
        refine Ret.bind (R := fun q => q.1 = (fairS T v fam (p + 1)).1 ∧ LM (fairS T v fam (p + 1)).2 q.2 ∧ Fp pWL M q.2) ?_ ?_
        · rw [fairS_s]
          by_cases hf : famB T v fam p = true
          · have hc : cntF T v fam ≠ 0 := by have := cntN_pos hp hf; unfold cntF; omega
            have hsh := share_ok ho hc p
            have ag := ho.2.2.2.1 p hp'
            have a1 := w1.age ho (p := p) (by omega) hp'
            rw [Int.toNat_natCast] at a1
            rw [if_pos hf, if_pos hf]
            refine Ret.f (by omega) (Ret.f (by omega) ?_)
            rw [M_aheadOf w1 ho hp', ob_some]
            refine Ret.f (by omega) ?_
            have e8 : (if (cntN (ahB T v fam p) (T 0 0).toNat : Int) < krem (sumS T v fam) (cntF T v fam) then some (1 : Int) else some 0) = some (if (cntN (ahB T v fam p) (T 0 0).toNat : Int) < krem (sumS T v fam) (cntF T v fam) then 1 else 0) := by split <;> rfl
            rw [e8, ob_some, letI_e]
            show Ret (if 0 ≤ w32 (0 + (p : Int)) ∧ w32 (0 + (p : Int)) < 171 then Option.bind (if shareV T v fam p ≤ s.2.2 411 (w32 (0 + (p : Int))).toNat then some (0 : Int) else (if 0 ≤ w32 (0 + (p : Int)) ∧ w32 (0 + (p : Int)) < 171 then some (w32 (shareV T v fam p - (s.2.2 411 (w32 (0 + (p : Int))).toNat))) else none)) _ else none) _
            rw [a1.1, Int.toNat_natCast, a1.2.2]
            refine Ret.t a1.2.1 ?_
            rw [if_pos a1.2.1, w32e (n := shareV T v fam p - v p) (by omega) (by omega)]
            have e9 : (if shareV T v fam p ≤ v p then some (0 : Int) else some (shareV T v fam p - v p)) = some (max 0 (shareV T v fam p - v p)) := by
              by_cases hq : shareV T v fam p ≤ v p
              · rw [if_pos hq]; congr 1; omega
              · rw [if_neg hq]; congr 1; omega
            rw [e9, ob_some, letI_e]
            have hl := fairS_len T v fam p
            rw [h3.2.1]
            refine Ret.t (by omega) (Ret.letM (Ret.letM (Ret.pure ?_)))
            obtain ⟨x1, y1⟩ := LM_add h3 (by omega) (shareV T v fam p)
            have e10 : mupd s.2.2 424 ((fairS T v fam p).2.length : Int).toNat (shareV T v fam p) 382 63 = ((fairS T v fam p).2.length : Int) := by rw [mupd_ne _ _ (by omega)]; exact h3.2.1
            refine ⟨by dsimp only; rw [h1], ?_, ?_⟩
            · dsimp only
              have e11 := e10
              rw [Int.toNat_natCast] at e11
              show LM _ (mupd (mupd s.2.2 424 ((fairS T v fam p).2.length : Int).toNat (shareV T v fam p)) 382 63 (w32 (mupd s.2.2 424 ((fairS T v fam p).2.length : Int).toNat (shareV T v fam p) 382 63 + 1)))
              rw [Int.toNat_natCast, e11, w32e (by omega) (by omega)]
              exact x1
            · have e11 := e10
              rw [Int.toNat_natCast] at e11
              show Fp pWL M (mupd (mupd s.2.2 424 ((fairS T v fam p).2.length : Int).toNat (shareV T v fam p)) 382 63 (w32 (mupd s.2.2 424 ((fairS T v fam p).2.length : Int).toNat (shareV T v fam p) 382 63 + 1)))
              rw [Int.toNat_natCast, e11, w32e (by omega) (by omega)]
              exact h4.tr y1
          · rw [if_neg hf, if_neg hf]
            exact Ret.t rfl (Ret.pure ⟨h1, h3, h4⟩)
        · rintro q3 ⟨y1, y2, y3⟩
          exact Ret.pure ⟨y1, by dsimp only; omega, y2, y3⟩
      · rintro s ⟨h1, h2, h3, h4⟩
        have w1 := h.wl h4
        rw [h2, e_M_many w1.1, ob_some, w1.n]
        exact Ret.f (by omega) (Ret.pure ⟨h1, h3, h4⟩)
    · intro i hi
      dsimp only
      have hi' : (i : Int) < T 0 0 := by omega
      have := cntN_le (famB T v fam) i
      rw [e_M_many w0.1, ob_some, w0.n, if_pos hi', M_isOf w0 ho hi', ob_some, cntN_s]
      by_cases hf : famB T v fam i = true
      · rw [if_pos hf, if_neg (by omega), ob_some, letI_e, w32e (by omega) (by omega), w32e (by omega) (by omega), if_pos hf]; rfl
      · rw [if_neg hf, if_pos rfl, ob_some, letI_e, w32e (by omega) (by omega), w32e (by omega) (by omega), if_neg hf]; rfl
    · dsimp only
      rw [e_M_many w0.1, ob_some, w0.n, if_neg (by omega)]
      rfl
  · have hr' : ¬ (0 ≤ fam ∧ fam ≤ 3) := by omega
    rw [if_neg hr, if_neg hr']
    exact Ret.t rfl (Ret.pure ⟨rfl, LM_nil M, f0⟩)
