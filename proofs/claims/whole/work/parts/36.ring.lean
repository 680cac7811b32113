/-! RINGS -/
theorem kior_bt {a b : Int} (ha : 0 ≤ a) (ha2 : a < 2147483648) (hb : 0 ≤ b) (hb2 : b < 2147483648) : 0 ≤ kior a b ∧ kior a b < 2147483648 ∧ ∀ i, bt (kior a b) i = (bt a i || bt b i) := by
  obtain ⟨m, rfl⟩ := Int.eq_ofNat_of_zero_le ha
  obtain ⟨n, rfl⟩ := Int.eq_ofNat_of_zero_le hb
  rw [kior_nat (by omega) (by omega)]
  have := or_lt31 (a := m) (b := n) (by omega) (by omega)
  refine ⟨by omega, by omega, fun i => ?_⟩
  show (m ||| n).testBit i = (m.testBit i || n.testBit i)
  rw [Nat.testBit_or]
theorem kiand_bt {a b : Int} (ha : 0 ≤ a) (ha2 : a < 2147483648) (hb : 0 ≤ b) (hb2 : b < 2147483648) : 0 ≤ kiand a b ∧ kiand a b < 2147483648 ∧ ∀ i, bt (kiand a b) i = (bt a i && bt b i) := by
  obtain ⟨m, rfl⟩ := Int.eq_ofNat_of_zero_le ha
  obtain ⟨n, rfl⟩ := Int.eq_ofNat_of_zero_le hb
  rw [kiand_nat (by omega) (by omega)]
  have := and_lt31 (a := m) (b := n) (by omega)
  refine ⟨by omega, by omega, fun i => ?_⟩
  show (m &&& n).testBit i = (m.testBit i && n.testBit i)
  rw [Nat.testBit_and]
theorem bt_pow {p i : Nat} (hp : p < 31) : 0 ≤ kishl 1 (p : Int) ∧ kishl 1 (p : Int) < 2147483648 ∧ bt (kishl 1 (p : Int)) i = decide (i = p) := by
  rw [kishl_one p hp]
  have := pow_lt31 hp
  refine ⟨Int.natCast_nonneg _, by omega, ?_⟩
  show (2 ^ p).testBit i = _
  rw [Nat.testBit_two_pow]
  exact decide_eq_decide.mpr eq_comm
/-! who owes whom -/
def owE (v : Nat → Int) (n : Nat) (a b : Nat) : Bool := (List.range n).any fun l => decide (v (25 + 5 * l) = 0) && (decide (v (21 + 5 * l) = (a : Int)) && decide (v (22 + 5 * l) = (b : Int)))
theorem owE_s (v : Nat → Int) (n a b : Nat) : owE v (n + 1) a b = (owE v n a b || (decide (v (25 + 5 * n) = 0) && (decide (v (21 + 5 * n) = (a : Int)) && decide (v (22 + 5 * n) = (b : Int))))) := by
  unfold owE
  rw [List.range_succ (n := n), List.any_append]
  simp
def owV (v : Nat → Int) : Nat → Nat → Bool := owE v (v 17).toNat
theorem owV_lt {T : TW} {v : Nat → Int} (hS : okS T v) {a b : Nat} (h : owV v a b = true) : (a : Int) < T 0 0 ∧ (b : Int) < T 0 0 := by
  unfold owV owE at h
  rw [List.any_eq_true] at h
  obtain ⟨l, hl, hh⟩ := h
  rw [List.mem_range] at hl
  simp only [Bool.and_eq_true, decide_eq_true_eq] at hh
  have := hS.2.2.2 l (by omega)
  omega
/-! on and on: through those below k -/
def wk (e : Nat → Nat → Bool) : Nat → Nat → Nat → Bool
  | 0, a, b => e a b
  | k + 1, a, b => wk e k a b || (wk e k a k && wk e k k b)
theorem wk_s (e : Nat → Nat → Bool) (k a b : Nat) : wk e (k + 1) a b = (wk e k a b || (wk e k a k && wk e k k b)) := rfl
theorem wk_up {e : Nat → Nat → Bool} {k a b : Nat} (h : wk e k a b = true) : wk e (k + 1) a b = true := by rw [wk_s, h]; rfl
theorem wk_e {e : Nat → Nat → Bool} {a b : Nat} (h : e a b = true) : ∀ k, wk e k a b = true := by
  intro k
  induction k with
  | zero => exact h
  | succ k ih => exact wk_up ih
theorem wk_tr {e : Nat → Nat → Bool} : ∀ k c a b : Nat, c < k → wk e k a c = true → wk e k c b = true → wk e k a b = true := by
  intro k
  induction k with
  | zero => intro c a b h; omega
  | succ k ih =>
    intro c a b hc h1 h2
    rw [wk_s, Bool.or_eq_true, Bool.and_eq_true] at h1 h2
    have to : wk e k a k = true → wk e k k b = true → wk e (k + 1) a b = true := fun q1 q2 => by rw [wk_s, q1, q2]; simp
    by_cases hck : c = k
    · subst hck
      refine to ?_ ?_
      · rcases h1 with h1 | h1
        · exact h1
        · exact h1.1
      · rcases h2 with h2 | h2
        · exact h2
        · exact h2.2
    · have hlt : c < k := by omega
      rcases h1 with h1 | ⟨h1, h3⟩
      · rcases h2 with h2 | ⟨h2, h4⟩
        · exact wk_up (ih c a b hlt h1 h2)
        · exact to (ih c a k hlt h1 h2) h4
      · rcases h2 with h2 | ⟨h2, h4⟩
        · exact to h1 (ih c k b hlt h3 h2)
        · exact to h1 h4
theorem wk_out {e : Nat → Nat → Bool} : ∀ k a b : Nat, wk e k a b = true → ∃ c, e a c = true := by
  intro k
  induction k with
  | zero => intro a b h; exact ⟨b, h⟩
  | succ k ih =>
    intro a b h
    rw [wk_s, Bool.or_eq_true, Bool.and_eq_true] at h
    rcases h with h | ⟨h, _⟩
    · exact ih a b h
    · exact ih a k h
/-! step by step -/
def owS (e : Nat → Nat → Bool) (s : Nat → Bool) : Nat → Bool := fun b => (List.range 8).any fun a => s a && e a b
def rgS (e : Nat → Nat → Bool) (p : Nat) : Nat → Nat → Bool
  | 0 => e p
  | k + 1 => fun b => rgS e p k b || owS e (rgS e p k) b
theorem owS_of {e : Nat → Nat → Bool} {s : Nat → Bool} {a b : Nat} (ha : a < 8) (h1 : s a = true) (h2 : e a b = true) : owS e s b = true := by
  unfold owS
  rw [List.any_eq_true]
  exact ⟨a, List.mem_range.mpr ha, by rw [h1, h2]; rfl⟩
theorem owS_inv {e : Nat → Nat → Bool} {s : Nat → Bool} {b : Nat} (h : owS e s b = true) : ∃ a, a < 8 ∧ s a = true ∧ e a b = true := by
  unfold owS at h
  rw [List.any_eq_true] at h
  obtain ⟨a, h1, h2⟩ := h
  rw [Bool.and_eq_true] at h2
  exact ⟨a, List.mem_range.mp h1, h2.1, h2.2⟩
theorem cntN_mono {f g : Nat → Bool} (h : ∀ p, f p = true → g p = true) : ∀ n, cntN f n ≤ cntN g n ∧ ∀ p, p < n → f p = false → g p = true → cntN f n + 1 ≤ cntN g n := by
  intro n
  induction n with
  | zero => exact ⟨Nat.le_refl _, fun p hp => absurd hp (Nat.not_lt_zero _)⟩
  | succ n ih =>
    rw [cntN_s, cntN_s]
    have h1 : (if f n = true then 1 else 0) ≤ (if g n = true then 1 else 0 : Nat) := by
      by_cases hf : f n = true
      · rw [if_pos hf, if_pos (h n hf)]; exact Nat.le_refl _
      · rw [if_neg hf]; exact Nat.zero_le _
    refine ⟨by omega, fun p hp hf hg => ?_⟩
    by_cases hpn : p = n
    · subst hpn
      rw [if_neg (by rw [hf]; simp), if_pos hg]; omega
    · have := ih.2 p (by omega) hf hg; omega
def clsd (e : Nat → Nat → Bool) (s : Nat → Bool) : Prop := ∀ a b, a < 8 → s a = true → e a b = true → s b = true
theorem rgS_cls {e : Nat → Nat → Bool} (he : ∀ a b, e a b = true → a < 8 ∧ b < 8) (p : Nat) : ∀ k, clsd e (rgS e p k) ∨ k + 1 ≤ cntN (rgS e p k) 8 := by
  intro k
  induction k with
  | zero =>
    by_cases h : ∃ b, e p b = true
    · obtain ⟨b, hb⟩ := h
      exact Or.inr (cntN_pos (he p b hb).2 hb)
    · exact Or.inl fun a b _ hs => absurd ⟨a, hs⟩ h
  | succ k ih =>
    by_cases hc : clsd e (rgS e p k)
    · refine Or.inl fun a b ha hs hab => ?_
      have hs' : rgS e p k a = true := by
        have : (rgS e p k a || owS e (rgS e p k) a) = true := hs
        rw [Bool.or_eq_true] at this
        rcases this with h | h
        · exact h
        · obtain ⟨c, h1, h2, h3⟩ := owS_inv h
          exact hc c a h1 h2 h3
      have := hc a b ha hs' hab
      show (rgS e p k b || _) = true
      rw [this]; rfl
    · refine Or.inr ?_
      rcases ih with ih | ih
      · exact absurd ih hc
      · have hn : ∃ a b, a < 8 ∧ rgS e p k a = true ∧ e a b = true ∧ rgS e p k b = false := Classical.byContradiction fun hn => hc fun a b ha hs hab => by
          cases hb : rgS e p k b with
          | true => rfl
          | false => exact absurd ⟨a, b, ha, hs, hab, hb⟩ hn
        obtain ⟨a, b, ha, hs, hab, hb⟩ := hn
        have := (cntN_mono (f := rgS e p k) (g := rgS e p (k + 1)) (fun q hq => by show (rgS e p k q || _) = true; rw [hq]; rfl) 8).2 b (he a b hab).2 hb (by show (rgS e p k b || owS e (rgS e p k) b) = true; rw [owS_of ha hs hab, Bool.or_true])
        omega
theorem rg_wk {e : Nat → Nat → Bool} (he : ∀ a b, e a b = true → a < 8 ∧ b < 8) (p q : Nat) : rgS e p 8 q = wk e 8 p q := by
  have hcl : clsd e (rgS e p 8) := by
    rcases rgS_cls he p 8 with h | h
    · exact h
    · have := cntN_le (rgS e p 8) 8; omega
  have h0 : ∀ k b, e p b = true → rgS e p k b = true := by
    intro k
    induction k with
    | zero => intro b h; exact h
    | succ k ih => intro b h; show (rgS e p k b || _) = true; rw [ih b h]; rfl
  have dir1 : ∀ k a b, wk e k a b = true → (rgS e p 8 a = true → rgS e p 8 b = true) ∧ (a = p → rgS e p 8 b = true) := by
    intro k
    induction k with
    | zero =>
      intro a b h
      refine ⟨fun hs => hcl a b (he a b h).1 hs h, fun hap => ?_⟩
      subst hap
      exact h0 8 b h
    | succ k ih =>
      intro a b h
      rw [wk_s, Bool.or_eq_true, Bool.and_eq_true] at h
      rcases h with h | ⟨h1, h2⟩
      · exact ih a b h
      · exact ⟨fun hs => (ih k b h2).1 ((ih a k h1).1 hs), fun hap => (ih k b h2).1 ((ih a k h1).2 hap)⟩
  have dir2 : ∀ k b, rgS e p k b = true → wk e 8 p b = true := by
    intro k
    induction k with
    | zero => intro b h; exact wk_e (e := e) (a := p) (b := b) h 8
    | succ k ih =>
      intro b h
      have : (rgS e p k b || owS e (rgS e p k) b) = true := h
      rw [Bool.or_eq_true] at this
      rcases this with h | h
      · exact ih b h
      · obtain ⟨a, h1, h2, h3⟩ := owS_inv h
        exact wk_tr 8 a p b h1 (ih a h2) (wk_e h3 8)
  cases hw : wk e 8 p q with
  | true => exact (dir1 8 p q hw).2 rfl
  | false =>
    cases hr : rgS e p 8 q with
    | false => rfl
    | true => rw [dir2 8 q hr] at hw; cases hw
def ringA (v : Nat → Int) (z : Int) : Prop := 0 ≤ z ∧ z < 256 ∧ ∀ p, bt z p = (decide (p < 8) && wk (owV v) 8 p p)
def pRing (k _ : Nat) : Prop := k = 344
def rowB (e : Nat → Nat → Bool) (p : Nat) (M : KM) : Prop := 0 ≤ M 344 p ∧ M 344 p < 2147483648 ∧ ∀ q, bt (M 344 p) q = e p q
theorem X_ring {T : TW} {R : Nat → RL} {v : Nat → Int} {M : KM} (h : WC T R v M) (ho : WO T R v) : Ret (f_X_ring M) (fun q => ringA v q.1 ∧ Fp pRing M q.2) := by
  have o := ho.1.1
  unfold f_X_ring f_Debts_ringOf
  refine Ret.bind (R := fun q => ringA v q.1 ∧ Fp pRing M q.2) ?_ (fun q hq => Ret.pure hq)
  refine Ret.bind (R := fun M1 => (∀ j, j < 8 → M1 344 j = 0) ∧ ∀ c, c ≠ 344 → M1 c = M c) (Ret.loop 8 (fun i s => s.1 = (i : Int) ∧ (∀ j, j < i → s.2 344 j = 0) ∧ ∀ c, c ≠ 344 → s.2 c = M c) ⟨rfl, fun j hj => absurd hj (Nat.not_lt_zero _), fun c _ => rfl⟩ ?_ ?_) ?_
  · rintro i s hi ⟨k1, k2, k3⟩
    rw [k1, w32e (n := (i : Int) + 1) (by omega) (by omega)]
    refine Ret.t (by omega) (Ret.t (by omega) (Ret.letM (Ret.pure ⟨rfl, fun j hj => ?_, fun c hc => by funext z; dsimp only; rw [mupd_ne _ _ hc, k3 c hc]⟩)))
    dsimp only
    rw [mupd_at, Int.toNat_natCast]
    by_cases hji : j = i
    · rw [if_pos ⟨rfl, hji⟩]
    · rw [if_neg (fun q => hji q.2)]; exact k2 j (by omega)
  · rintro s ⟨k1, k2, k3⟩
    rw [k1]
    exact Ret.f (by omega) (Ret.pure ⟨k2, k3⟩)
  rintro M1 ⟨z1, z2⟩
  have sc1 : ∀ (M2 : KM), (∀ c, c ≠ 344 → M2 c = M c) → SC 34 (T 0 0) v M2 := fun M2 hM => by
    have hw : WC T R v M2 := h.congr fun k j hk => by
      rw [hM k (by unfold pN at hk; omega)]
    exact hw.2
  refine Ret.bind (R := fun M2 => (∀ p, p < 8 → rowB (owV v) p M2) ∧ ∀ c, c ≠ 344 → M2 c = M c) (Ret.loop (v 17).toNat (fun i s => s.1 = (i : Int) ∧ (∀ p, p < 8 → rowB (owE v i) p s.2) ∧ ∀ c, c ≠ 344 → s.2 c = M c) ⟨rfl, fun p hp => by unfold rowB; dsimp only; rw [z1 p hp]; exact ⟨by omega, by omega, fun q => by simp [bt, owE]⟩, z2⟩ ?_ ?_) ?_
  · rintro i s hi ⟨k1, k2, k3⟩
    have hi' : (i : Int) < v 17 := by omega
    have h30 := ho.2.1.2.2.2.1
    have hsc := sc1 s.2 k3
    obtain ⟨a1, a2, a3, a4⟩ := SC_loan hsc (by omega) hi'
    obtain ⟨b1, b2, b3, b4, b5, b6, b7, b8⟩ := ho.2.2.2.2 i hi'
    rw [k1, w32e (n := (i : Int) + 1) (by omega) (by omega), SC_loans hsc, a1, a2]
    refine Ret.t hi' ?_
    refine Ret.bind (R := fun M2 => (∀ p, p < 8 → rowB (owE v (i + 1)) p M2) ∧ ∀ c, c ≠ 344 → M2 c = M c) (Ret.br (fun hz => ?_) (fun hz => ?_)) ?_
    · have hv : v (25 + 5 * i) = 0 := by rw [← a4, if_pos hz]
      obtain ⟨x, hx⟩ := Int.eq_ofNat_of_zero_le b1
      obtain ⟨y, hy⟩ := Int.eq_ofNat_of_zero_le b3
      have hx8 : x < 8 := by omega
      obtain ⟨c1, c2, c3⟩ := k2 x hx8
      rw [hx, hy]
      obtain ⟨d1, d2, d3⟩ := kior_bit c1 c2 (by omega : y < 31)
      refine Ret.letI (Ret.letM (Ret.pure ⟨fun p hp => ?_, fun c hc => ?_⟩))
      · rw [putM_nat _ _ _ _ hx8, atM_nat _ _ _ hx8]
        unfold rowB
        by_cases hpx : p = x
        · subst hpx
          rw [mupd_same]
          refine ⟨d1, d2, fun q => ?_⟩
          rw [d3, c3, owE_s, hv, hx, hy]
          have e1 : decide ((y : Int) = (q : Int)) = decide (q = y) := decide_eq_decide.mpr (by omega)
          rw [e1]; simp
        · rw [mupd_ne2 _ _ hpx]
          obtain ⟨g1, g2, g3⟩ := k2 p hp
          refine ⟨g1, g2, fun q => ?_⟩
          rw [g3, owE_s, hx]
          have e1 : decide ((x : Int) = (p : Int)) = false := decide_eq_false (by omega)
          rw [e1]; simp
      · rw [putM_nat _ _ _ _ hx8]
        funext z
        rw [mupd_ne _ _ hc, k3 c hc]
    · have hv : ¬ v (25 + 5 * i) = 0 := by rw [← a4, if_neg hz]; omega
      refine Ret.pure ⟨fun p hp => ?_, k3⟩
      obtain ⟨g1, g2, g3⟩ := k2 p hp
      refine ⟨g1, g2, fun q => ?_⟩
      rw [g3, owE_s, decide_eq_false hv]; simp
    · rintro M2 ⟨m1, m2⟩
      exact Ret.pure ⟨rfl, m1, m2⟩
  · rintro s ⟨k1, k2, k3⟩
    rw [k1, SC_loans (sc1 s.2 k3)]
    exact Ret.f (by omega) (Ret.pure ⟨k2, k3⟩)
  rintro M2 ⟨m1, m2⟩
  refine Ret.bind (R := fun M3 => (∀ p, p < 8 → rowB (wk (owV v) 8) p M3) ∧ ∀ c, c ≠ 344 → M3 c = M c) (Ret.loop 8 (fun i s => s.1 = (i : Int) ∧ (∀ p, p < 8 → rowB (wk (owV v) i) p s.2) ∧ ∀ c, c ≠ 344 → s.2 c = M c) ⟨rfl, m1, m2⟩ ?_ ?_) ?_
  · rintro i s hi ⟨k1, k2, k3⟩
    rw [k1, w32e (n := (i : Int) + 1) (by omega) (by omega)]
    refine Ret.t (by omega) ?_
    refine Ret.bind (R := fun M3 => (∀ p, p < 8 → rowB (wk (owV v) (i + 1)) p M3) ∧ ∀ c, c ≠ 344 → M3 c = M c) (Ret.loop 8 (fun j t => t.1 = (j : Int) ∧ (∀ p, p < 8 → rowB (wk (owV v) (if p < j then i + 1 else i)) p t.2) ∧ ∀ c, c ≠ 344 → t.2 c = M c) ⟨rfl, fun p hp => k2 p hp, k3⟩ ?_ ?_) ?_
    · rintro j t hj ⟨t1, t2, t3⟩
      rw [t1, w32e (n := (j : Int) + 1) (by omega) (by omega), Int.toNat_natCast, Int.toNat_natCast]
      obtain ⟨c1, c2, c3⟩ := t2 j hj
      rw [if_neg (by omega)] at c3
      have hby := t2 i hi
      obtain ⟨d1, d2, d3'⟩ := hby
      have d3 : ∀ q, bt (t.2 344 i) q = wk (owV v) i i q := fun q => by
        rw [d3' q]
        split
        · rw [wk_s]
          cases wk (owV v) i i q with
          | true => rfl
          | false => simp
        · rfl
      refine Ret.t (by omega) (Ret.t (by omega) ?_)
      have keep : ∀ p, p < 8 → p ≠ j → rowB (wk (owV v) (if p < j + 1 then i + 1 else i)) p t.2 := fun p hp hpj => by
        have := t2 p hp
        by_cases hlt : p < j
        · rw [if_pos (by omega)]; rw [if_pos hlt] at this; exact this
        · rw [if_neg (by omega)]; rw [if_neg hlt] at this; exact this
      refine Ret.bind (R := fun M3 => (∀ p, p < 8 → rowB (wk (owV v) (if p < j + 1 then i + 1 else i)) p M3) ∧ ∀ c, c ≠ 344 → M3 c = M c) ?_ ?_
      · rw [isInV_bt c1 c2, Int.toNat_natCast, c3]
        by_cases hb : wk (owV v) i j i = true
        · refine Ret.f (by rw [if_pos ⟨by omega, hb⟩]; omega) (Ret.t (by omega) (Ret.t (by omega) (Ret.t (by omega) (Ret.letM (Ret.pure ⟨fun p hp => ?_, fun c hc => ?_⟩)))))
          · by_cases hpj : p = j
            · subst hpj
              rw [if_pos (by omega)]
              unfold rowB
              rw [mupd_same]
              obtain ⟨g1, g2, g3⟩ := kior_bt c1 c2 d1 d2
              refine ⟨g1, g2, fun q => ?_⟩
              rw [g3, c3, d3, wk_s, hb]; rfl
            · have := keep p hp hpj
              unfold rowB
              rw [mupd_ne2 _ _ hpj]; exact this
          · funext z; rw [mupd_ne _ _ hc, t3 c hc]
        · refine Ret.t (by rw [if_neg (fun q => hb q.2)]) (Ret.pure ⟨fun p hp => ?_, t3⟩)
          by_cases hpj : p = j
          · subst hpj
            rw [if_pos (by omega)]
            refine ⟨c1, c2, fun q => ?_⟩
            rw [c3, wk_s]
            simp only [Bool.not_eq_true] at hb
            rw [hb]; simp
          · exact keep p hp hpj
      · rintro M3 ⟨a1, a2⟩
        exact Ret.pure ⟨rfl, a1, a2⟩
    · rintro t ⟨t1, t2, t3⟩
      rw [t1]
      refine Ret.f (by omega) (Ret.pure ⟨fun p hp => ?_, t3⟩)
      have := t2 p hp
      rw [if_pos hp] at this; exact this
    · rintro M3 ⟨a1, a2⟩
      exact Ret.pure ⟨rfl, a1, a2⟩
  · rintro s ⟨k1, k2, k3⟩
    rw [k1]
    exact Ret.f (by omega) (Ret.pure ⟨k2, k3⟩)
  rintro M3 ⟨n1, n2⟩
  refine Ret.bind (R := fun z => ringA v z) (Ret.loop 8 (fun i s => s.2 = (i : Int) ∧ (0 ≤ s.1 ∧ s.1 < 2147483648) ∧ ∀ p, bt s.1 p = (decide (p < i) && wk (owV v) 8 p p)) ⟨rfl, by dsimp only; omega, fun p => by simp [bt]⟩ ?_ ?_) ?_
  · rintro i s hi ⟨k1, k2, k3⟩
    obtain ⟨c1, c2, c3⟩ := n1 i hi
    rw [k1, w32e (n := (i : Int) + 1) (by omega) (by omega), Int.toNat_natCast, isInV_bt c1 c2, Int.toNat_natCast, c3]
    refine Ret.t (by omega) (Ret.t (by omega) ?_)
    refine Ret.bind (R := fun t => (0 ≤ t ∧ t < 2147483648) ∧ ∀ p, bt t p = (decide (p = i) && wk (owV v) 8 p p)) ?_ ?_
    · by_cases hb : wk (owV v) 8 i i = true
      · obtain ⟨g1, g2, _⟩ := bt_pow (p := i) (i := 0) (by omega)
        refine Ret.f (by rw [if_pos ⟨by omega, hb⟩]; omega) (Ret.pure ⟨⟨g1, g2⟩, fun p => ?_⟩)
        rw [(bt_pow (by omega)).2.2]
        by_cases hp : p = i
        · subst hp; rw [hb]; simp
        · simp [hp]
      · refine Ret.t (by rw [if_neg (fun q => hb q.2)]) (Ret.pure ⟨by omega, fun p => ?_⟩)
        have : bt 0 p = false := by simp [bt]
        rw [this]
        by_cases hp : p = i
        · subst hp; simp only [Bool.not_eq_true] at hb; rw [hb]; simp
        · simp [hp]
    · rintro t ⟨t1, t2⟩
      obtain ⟨g1, g2, g3⟩ := kior_bt k2.1 k2.2 t1.1 t1.2
      refine Ret.letI (Ret.pure ⟨rfl, ⟨g1, g2⟩, fun p => ?_⟩)
      dsimp only
      rw [g3, k3, t2, ← Bool.and_or_distrib_right]
      congr 1
      by_cases hp : p = i
      · subst hp; simp
      · have : decide (p < i + 1) = decide (p < i) := decide_eq_decide.mpr (by omega)
        rw [this]; simp [hp]
  · rintro s ⟨k1, k2, k3⟩
    rw [k1]
    refine Ret.f (by omega) (Ret.pure ⟨k2.1, ?_, k3⟩)
    have := bt_lt8 (n := 8) k2.1 fun i hi => by rw [k3]; simp; omega
    omega
  · rintro z hz
    exact Ret.pure ⟨hz, fun k j hk => by dsimp only; rw [n2 k hk]⟩
/-! the second side -/
theorem M_lentFrom {b : Nat} {T : TW} {R : Nat → RL} {v : Nat → Int} {M : KM} (h : WM b T R v M) (ho : WO T R v) {x : Int} (hx : 0 ≤ x ∧ x < 2147483648) : Ret (f_M_lentFrom x M) (fun z => (0 ≤ z ∧ z < 2147483648) ∧ ∀ q, bt z q = owS (owV v) (bt x) q) := by
  have o := ho.1.1
  have s17 := ho.2.1
  have g : ∀ j, j < 171 → M 411 j = v j := fun j hj => by have := h.2.2 j hj; rwa [Nat.zero_add] at this
  unfold f_M_lentFrom
  refine Ret.bind (R := fun z => (0 ≤ z ∧ z < 2147483648) ∧ ∀ q, bt z q = owS (owV v) (bt x) q) (Ret.loop (v 17).toNat (fun i s => s.2 = (i : Int) ∧ (0 ≤ s.1 ∧ s.1 < 2147483648) ∧ ∀ q, bt s.1 q = owS (owE v i) (bt x) q) ⟨rfl, by dsimp only; omega, fun q => by simp [bt, owS, owE]⟩ ?_ ?_) (fun z hz => Ret.pure hz)
  · rintro i s hi ⟨k1, k2, k3⟩
    have hi' : (i : Int) < v 17 := by omega
    obtain ⟨b1, b2, b3, b4, b5, b6, b7, b8⟩ := ho.2.2.2.2 i hi'
    have w5 : w32 (21 + w32 (5 * (i : Int))) = 21 + 5 * (i : Int) := by rw [w32e (n := 5 * (i : Int)) (by omega) (by omega), w32e (by omega) (by omega)]
    have t0 : (21 + 5 * (i : Int)).toNat = 21 + 5 * i := by omega
    have t1 : (21 + 5 * (i : Int) + 1).toNat = 22 + 5 * i := by omega
    have t4 : (21 + 5 * (i : Int) + 4).toNat = 25 + 5 * i := by omega
    rw [k1, w5, w32e (n := (i : Int) + 1) (by omega) (by omega), w32e (n := 21 + 5 * (i : Int) + 1) (by omega) (by omega), w32e (n := 21 + 5 * (i : Int) + 4) (by omega) (by omega), t0, t1, t4, g _ (by omega : 21 + 5 * i < 171), g _ (by omega : 22 + 5 * i < 171), g _ (by omega : 25 + 5 * i < 171)]
    refine Ret.t (by omega) (Ret.t (by rw [show (17 : Int).toNat = 17 from rfl, g 17 (by omega)]; exact hi') (Ret.t (by omega) ?_))
    obtain ⟨a, ha⟩ := Int.eq_ofNat_of_zero_le b1
    obtain ⟨y, hy⟩ := Int.eq_ofNat_of_zero_le b3
    rw [ha, hy, kishr_bt hx.1 hx.2 (by omega)]
    have eS : ∀ q, owS (owE v (i + 1)) (bt x) q = (owS (owE v i) (bt x) q || (decide (v (25 + 5 * i) = 0) && (bt x a && decide (q = y)))) := fun q => by
      unfold owS
      have : ∀ c, (bt x c && owE v (i + 1) c q) = ((bt x c && owE v i c q) || (decide (c = a) && (decide (v (25 + 5 * i) = 0) && (bt x a && decide (q = y))))) := fun c => by
        rw [owE_s, ha, hy]
        have e1 : decide ((a : Int) = (c : Int)) = decide (c = a) := decide_eq_decide.mpr (by omega)
        have e2 : decide ((y : Int) = (q : Int)) = decide (q = y) := decide_eq_decide.mpr (by omega)
        rw [e1, e2]
        by_cases hc : c = a
        · subst hc
          cases bt x c <;> simp
        · simp [hc]
      rw [List.any_congr rfl fun c => this c]
      cases hz : (decide (v (25 + 5 * i) = 0) && (bt x a && decide (q = y))) with
      | false => simp
      | true =>
        rw [Bool.or_true, List.any_eq_true]
        exact ⟨a, List.mem_range.mpr (by omega), by simp⟩
    refine Ret.bind (R := fun t => (0 ≤ t ∧ t < 2147483648) ∧ ∀ q, bt t q = owS (owE v (i + 1)) (bt x) q) (Ret.br (fun hz => Ret.t (by omega) (Ret.br (fun hb => Ret.t (by omega) (Ret.letI (Ret.pure ?_))) (fun hb => Ret.pure ⟨k2, fun q => ?_⟩))) (fun hz => Ret.pure ⟨k2, fun q => ?_⟩)) ?_
    · obtain ⟨g1, g2, g3⟩ := kior_bit k2.1 k2.2 (by omega : y < 31)
      refine ⟨⟨g1, g2⟩, fun q => ?_⟩
      have hb' : bt x a = true := by
        by_cases hbb : bt x a = true
        · exact hbb
        · rw [if_neg hbb] at hb; omega
      rw [g3, k3, eS, hz, hb']; simp
    · have hb' : bt x a = false := by
        cases hbb : bt x a with
        | false => rfl
        | true => rw [if_pos hbb] at hb; omega
      rw [k3, eS, hb']; simp
    · rw [k3, eS, decide_eq_false hz]; simp
    · rintro t ⟨t1, t2⟩
      exact Ret.pure ⟨rfl, t1, t2⟩
  · rintro s ⟨k1, k2, k3⟩
    rw [k1, show (17 : Int).toNat = 17 from rfl, g 17 (by omega)]
    exact Ret.t (by omega) (Ret.f (by omega) (Ret.pure ⟨k2, k3⟩))
theorem M_ring {b : Nat} {T : TW} {R : Nat → RL} {v : Nat → Int} {M : KM} (h : WM b T R v M) (ho : WO T R v) : Ret (f_M_ring M) (fun z => ringA v z) := by
  have o := ho.1.1
  have he : ∀ a c, owV v a c = true → a < 8 ∧ c < 8 := fun a c hac => by have := owV_lt ho.2 hac; omega
  unfold f_M_ring
  refine Ret.bind (R := fun z => ringA v z) (Ret.loop (T 0 0).toNat (fun i s => s.2 = (i : Int) ∧ (0 ≤ s.1 ∧ s.1 < 2147483648) ∧ ∀ p, bt s.1 p = (decide (p < i) && wk (owV v) 8 p p)) ⟨rfl, by dsimp only; omega, fun p => by simp [bt]⟩ ?_ ?_) (fun z hz => Ret.pure hz)
  · rintro i s hi ⟨k1, k2, k3⟩
    obtain ⟨g1, g2, _⟩ := bt_pow (p := i) (i := 0) (by omega)
    rw [e_M_many h.1, ob_some, h.n, k1, w32e (n := (i : Int) + 1) (by omega) (by omega)]
    refine Ret.t (by omega) ?_
    refine Ret.bind (M_lentFrom h ho ⟨g1, g2⟩) ?_
    rintro x0 ⟨x1, x2⟩
    have hx0 : ∀ q, bt x0 q = rgS (owV v) i 0 q := fun q => by
      rw [x2]
      show owS (owV v) (bt (kishl 1 (i : Int))) q = owV v i q
      cases hq : owV v i q with
      | true => exact owS_of (he i q hq).1 (by rw [(bt_pow (by omega)).2.2]; simp) hq
      | false =>
        cases hz : owS (owV v) (bt (kishl 1 (i : Int))) q with
        | false => rfl
        | true =>
          obtain ⟨a, h1, h2, h3⟩ := owS_inv hz
          rw [(bt_pow (by omega)).2.2, decide_eq_true_eq] at h2
          subst h2
          rw [h3] at hq; cases hq
    refine Ret.bind (R := fun e => (0 ≤ e ∧ e < 2147483648) ∧ ∀ q, bt e q = rgS (owV v) i 8 q) (Ret.loop 8 (fun j t => t.2 = (j : Int) ∧ (0 ≤ t.1 ∧ t.1 < 2147483648) ∧ ∀ q, bt t.1 q = rgS (owV v) i j q) ⟨rfl, x1, hx0⟩ ?_ ?_) ?_
    · rintro j t hj ⟨t1, t2, t3⟩
      rw [t1, w32e (n := (j : Int) + 1) (by omega) (by omega)]
      refine Ret.t (by omega) (Ret.bind (M_lentFrom h ho t2) ?_)
      rintro y ⟨y1, y2⟩
      obtain ⟨d1, d2, d3⟩ := kior_bt t2.1 t2.2 y1.1 y1.2
      refine Ret.letI (Ret.pure ⟨rfl, ⟨d1, d2⟩, fun q => ?_⟩)
      dsimp only
      rw [d3, t3, y2]
      have : bt t.1 = rgS (owV v) i j := funext t3
      rw [this]; rfl
    · rintro t ⟨t1, t2, t3⟩
      rw [t1]
      exact Ret.f (by omega) (Ret.pure ⟨t2, t3⟩)
    rintro e ⟨e1, e2⟩
    obtain ⟨c1, c2, c3⟩ := kiand_bt e1.1 e1.2 g1 g2
    obtain ⟨d1, d2, d3⟩ := kior_bt k2.1 k2.2 c1 c2
    refine Ret.letI (Ret.pure ⟨rfl, ⟨d1, d2⟩, fun p => ?_⟩)
    dsimp only
    rw [d3, k3, c3, e2, rg_wk he, (bt_pow (by omega)).2.2]
    by_cases hp : p = i
    · subst hp; simp
    · have : decide (p < i + 1) = decide (p < i) := decide_eq_decide.mpr (by omega)
      rw [this]; simp [hp]
  · rintro s ⟨k1, k2, k3⟩
    rw [e_M_many h.1, ob_some, h.n, k1]
    have hk : ∀ p, bt s.1 p = (decide (p < 8) && wk (owV v) 8 p p) := fun p => by
      rw [k3]
      by_cases hp : p < (T 0 0).toNat
      · have : p < 8 := by omega
        simp [hp, this]
      · cases hw : wk (owV v) 8 p p with
        | false => simp
        | true =>
          obtain ⟨c, hc⟩ := wk_out 8 p p hw
          have := owV_lt ho.2 hc
          omega
    refine Ret.f (by omega) (Ret.pure ⟨k2.1, ?_, hk⟩)
    have := bt_lt8 (n := 8) k2.1 fun i hi => by rw [hk]; simp; omega
    omega
