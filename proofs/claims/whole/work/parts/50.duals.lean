/-! BOTH SIDES' NETS: the same cost, or both can't be -/
def inA (A : Nat → Bool) (p : Nat) : Int := if A p = true then 1 else 0
def cutN (N : NW) (s0 : Nat → Int) : Prop := ∃ A : Nat → Bool, (∀ e, e < N.K → N.ok e = true → A (N.fr e) = true → A (N.to e) = true) ∧ 0 < sm (fun p => s0 p * inA A p) 8
theorem inA_01 (A : Nat → Bool) (p : Nat) : inA A p = 0 ∨ inA A p = 1 := by unfold inA; split <;> simp
theorem stuck_cut {N : NW} (hN : N.wf) {s0 x s π : Nat → Int} {cost : Int} (h : FINV N s0 x s cost) {t : Nat} {S : DP} (hB : BFI N x s π t S) (hC : Conv N x S) (htW : ((t + 1 : Nat) : Int) * N.W < 100000000) {p0 : Nat} (hp0 : p0 < 8) (hs0 : 0 < s p0) (hno : ∀ g, g < 8 → s g < 0 → 100000000 ≤ S.1 g) : cutN N s0 := by
  obtain ⟨f1, f2, f3, _, _⟩ := h
  obtain ⟨τ, b1, b2, b3, _⟩ := hB
  rw [show ((t + 1 : Nat) : Int) = (t : Int) + 1 by omega, Int.add_mul, Int.one_mul] at htW
  have reach : ∀ a, N.res x a → S.1 (N.tl a) < 100000000 → S.1 (N.hd a) < 100000000 := fun a ha hlt => by
    have h1 := hC a ha hlt
    have w := NW.arc hN ha
    have := b3 (N.tl a) w.1
    omega
  have eq := f3 (inA fun v => decide (S.1 v < 100000000))
  have z : sm (fun e => x e * (inA (fun v => decide (S.1 v < 100000000)) (N.to e) - inA (fun v => decide (S.1 v < 100000000)) (N.fr e))) N.K = 0 := sm_zero fun e he => by
    by_cases hx : x e = 0
    · rw [hx]; simp
    · have ho : N.ok e = true := by
        cases hq : N.ok e with
        | true => rfl
        | false => exact absurd (f2 e he hq) hx
      have hx0 : 0 < x e := by have := f1 e he; omega
      have i1 : S.1 (N.fr e) < 100000000 → S.1 (N.to e) < 100000000 := fun hq => reach (e, false) ⟨he, ho, fun q => by cases q⟩ hq
      have i2 : S.1 (N.to e) < 100000000 → S.1 (N.fr e) < 100000000 := fun hq => reach (e, true) ⟨he, ho, fun _ => hx0⟩ hq
      have e1 : inA (fun v => decide (S.1 v < 100000000)) (N.to e) = inA (fun v => decide (S.1 v < 100000000)) (N.fr e) := by
        unfold inA
        exact ifc (by rw [decide_eq_true_eq, decide_eq_true_eq]; exact ⟨i2, i1⟩)
      rw [e1]; simp
  rw [z, Int.add_zero] at eq
  refine ⟨fun v => decide (S.1 v < 100000000), fun e he ho hA => ?_, ?_⟩
  · rw [decide_eq_true_eq] at hA ⊢
    exact reach (e, false) ⟨he, ho, fun q => by cases q⟩ hA
  · rw [← eq]
    have hp : S.1 p0 < 100000000 := by
      cases hq : S.2 p0 with
      | none => rw [b1 p0 hp0 hq, if_pos hs0]; decide
      | some a =>
        obtain ⟨g1, g2, g3, _, _⟩ := b2 p0 a hp0 hq
        rw [← g2]; exact reach a g1 g3
    have h1 := (sm_one (f := fun p => s p * inA (fun v => decide (S.1 v < 100000000)) p) (n := 8) (i := p0) (fun p hp => by
      by_cases hd : S.1 p < 100000000
      · have e3 : inA (fun v => decide (S.1 v < 100000000)) p = 1 := by unfold inA; rw [if_pos (decide_eq_true hd)]
        rw [e3]
        by_cases hsn : s p < 0
        · have := hno p hp hsn; omega
        · omega
      · have e3 : inA (fun v => decide (S.1 v < 100000000)) p = 0 := by unfold inA; rw [if_neg (by rw [decide_eq_true_eq]; exact hd)]
        rw [e3]; omega) hp0).1
    have e2 : inA (fun v => decide (S.1 v < 100000000)) p0 = 1 := by unfold inA; rw [if_pos (decide_eq_true hp)]
    rw [e2] at h1
    omega
theorem no_cut {N : NW} {s0 x s : Nat → Int} {cost : Int} (h : FINV N s0 x s cost) (hs : ∀ p, p < 8 → s p = 0) : ¬ cutN N s0 := by
  obtain ⟨f1, f2, f3, _, _⟩ := h
  rintro ⟨A, h1, h2⟩
  have eq := f3 (inA A)
  rw [sm_zero (f := fun p => s p * inA A p) (fun p hp => by rw [hs p hp]; simp)] at eq
  have := sm_mono (f := fun _ => 0) (g := fun e => x e * (inA A (N.to e) - inA A (N.fr e))) (n := N.K) (fun e he => by
    by_cases hx : x e = 0
    · rw [hx]; simp
    · have ho : N.ok e = true := by
        cases hq : N.ok e with
        | true => rfl
        | false => exact absurd (f2 e he hq) hx
      refine Int.mul_nonneg (f1 e he) ?_
      unfold inA
      have := h1 e he ho
      split <;> split <;> first | omega | (rename_i a b; exact absurd (this b) a))
  rw [sm_zero (fun _ _ => rfl)] at this
  omega
theorem dual_le {N : NW} {s0 x s : Nat → Int} {cost : Int} (h : FINV N s0 x s cost) (hs : ∀ p, p < 8 → s p = 0) {π : Nat → Int} (hπ : ∀ e, e < N.K → N.ok e = true → π (N.to e) ≤ π (N.fr e) + N.w e) : -(sm (fun p => s0 p * π p) 8) ≤ cost := by
  obtain ⟨f1, f2, f3, _, f5⟩ := h
  have eq := f3 π
  rw [sm_zero (f := fun p => s p * π p) (fun p hp => by rw [hs p hp]; simp)] at eq
  have := sm_mono (f := fun e => x e * (π (N.to e) - π (N.fr e))) (g := fun e => x e * N.w e) (n := N.K) (fun e he => by
    by_cases hx : x e = 0
    · rw [hx]; simp
    · have ho : N.ok e = true := by
        cases hq : N.ok e with
        | true => rfl
        | false => exact absurd (f2 e he hq) hx
      have := hπ e he ho
      exact Int.mul_le_mul_of_nonneg_left (by omega) (f1 e he))
  rw [f5]; omega
theorem dual_eq {N : NW} {s0 x s : Nat → Int} {cost : Int} (h : FINV N s0 x s cost) (hs : ∀ p, p < 8 → s p = 0) : ∃ π : Nat → Int, (∀ e, e < N.K → N.ok e = true → π (N.to e) ≤ π (N.fr e) + N.w e) ∧ cost = -(sm (fun p => s0 p * π p) 8) := by
  obtain ⟨f1, f2, f3, ⟨π, f4⟩, f5⟩ := h
  refine ⟨π, fun e he ho => (f4 e he ho).1, ?_⟩
  have eq := f3 π
  rw [sm_zero (f := fun p => s p * π p) (fun p hp => by rw [hs p hp]; simp)] at eq
  have := sm_congr (f := fun e => x e * (π (N.to e) - π (N.fr e))) (g := fun e => x e * N.w e) (n := N.K) (fun e he => by
    by_cases hx : x e = 0
    · rw [hx]; simp
    · have ho : N.ok e = true := by
        cases hq : N.ok e with
        | true => rfl
        | false => exact absurd (f2 e he hq) hx
      have h0 := f1 e he
      obtain ⟨d1, d2⟩ := f4 e he ho
      have d3 := d2 (by omega)
      have : π (N.to e) - π (N.fr e) = N.w e := by omega
      rw [this])
  rw [f5]; omega
/-! the two nets of a town -/
def netC (T : TW) (v : Nat → Int) : NW := ((T 0 1).toNat, (fun f => (T 5 f).toNat), (fun f => (T 6 f).toNat), (fun f => T 7 f), (fun f => sfA v (T 5 f).toNat && sfA v (T 6 f).toNat), 99)
def netR (T : TW) (v s0 : Nat → Int) : NW := (64, (fun e => e / 8), (fun e => e % 8), (fun e => rdK T v 8 (e / 8) (e % 8)), (fun e => decide (0 < s0 (e / 8)) && (decide (s0 (e % 8) < 0) && decide (rdK T v 8 (e / 8) (e % 8) < 100000000))), 25344)
theorem netC_wf {T : TW} {R : Nat → RL} (hT : okT T R) (v : Nat → Int) : (netC T v).wf := by
  refine ⟨by show (0 : Int) ≤ 99; omega, fun e he ho => ?_⟩
  have o := hT.1
  have := hT.2.2.1 e (by show (e : Int) < T 0 1; have h2 : e < (T 0 1).toNat := he; omega)
  show (T 5 e).toNat < 8 ∧ (T 6 e).toNat < 8 ∧ 0 ≤ T 7 e ∧ T 7 e ≤ 99
  omega
theorem netR_wf {T : TW} {R : Nat → RL} (hT : okT T R) (v s0 : Nat → Int) : (netR T v s0).wf := by
  refine ⟨by show (0 : Int) ≤ 25344; omega, fun e he ho => ?_⟩
  have he' : e < 64 := he
  have ho' : (decide (0 < s0 (e / 8)) && (decide (s0 (e % 8) < 0) && decide (rdK T v 8 (e / 8) (e % 8) < 100000000))) = true := ho
  simp only [Bool.and_eq_true, decide_eq_true_eq] at ho'
  have := rdK_8 hT v (e / 8) (e % 8)
  show e / 8 < 8 ∧ e % 8 < 8 ∧ 0 ≤ rdK T v 8 (e / 8) (e % 8) ∧ rdK T v 8 (e / 8) (e % 8) ≤ 25344
  omega
theorem netR_ok {T : TW} {v s0 : Nat → Int} {a b : Nat} (ha : a < 8) (hb : b < 8) : (8 * a + b < (netR T v s0).K ∧ (netR T v s0).fr (8 * a + b) = a ∧ (netR T v s0).to (8 * a + b) = b) ∧ (netR T v s0).w (8 * a + b) = rdK T v 8 a b ∧ ((netR T v s0).ok (8 * a + b) = true ↔ 0 < s0 a ∧ s0 b < 0 ∧ rdK T v 8 a b < 100000000) := by
  have e1 : (8 * a + b) / 8 = a := by omega
  have e2 : (8 * a + b) % 8 = b := by omega
  refine ⟨⟨by show _ < 64; omega, e1, e2⟩, ?_, ?_⟩
  · show rdK T v 8 ((8 * a + b) / 8) ((8 * a + b) % 8) = _
    rw [e1, e2]
  · show (decide (0 < s0 ((8 * a + b) / 8)) && (decide (s0 ((8 * a + b) % 8) < 0) && decide (rdK T v 8 ((8 * a + b) / 8) ((8 * a + b) % 8) < 100000000))) = true ↔ _
    rw [e1, e2]
    simp only [Bool.and_eq_true, decide_eq_true_eq]
/-- roads: the triangle -/
theorem rdK_tri {T : TW} {R : Nat → RL} (hT : okT T R) (v : Nat → Int) : ∀ k c a b : Nat, c < k → rdK T v k a b ≤ rdK T v k a c + rdK T v k c b := by
  intro k
  induction k with
  | zero => intro c a b h; omega
  | succ k ih =>
    intro c a b hc
    have r := fun x y => (rdK_R hT v k x y).2
    by_cases hck : c = k
    · subst hck
      rw [rdK_col hT, rdK_row hT, rdK_s]; omega
    · have hlt : c < k := by omega
      rw [rdK_s, rdK_s, rdK_s]
      have i1 := ih c a b hlt
      have i2 := ih c k b hlt
      have i3 := ih c a k hlt
      have r1 := r a k
      have r2 := r k c
      have r3 := r c k
      have r4 := r k b
      have r5 := r a b
      have r6 := r a c
      have r7 := r c b
      omega
theorem rdE_edge {T : TW} {R : Nat → RL} (hT : okT T R) (v : Nat → Int) {f : Nat} (hf : (f : Int) < T 0 1) (ha : alv v (T 5 f) = true ∧ alv v (T 6 f) = true) : ∀ n, f < n → n ≤ (T 0 1).toNat → rdE T v n (T 5 f).toNat (T 6 f).toNat = T 7 f := by
  intro n
  induction n with
  | zero => intro h; omega
  | succ n ih =>
    intro h hn
    have o := hT.2.2.1 f hf
    rw [rdE_s]
    by_cases hfn : f = n
    · subst hfn
      rw [if_pos ⟨ha, by omega⟩]
    · split
      · rename_i hc
        have := hT.2.2.2.1 f n hf (by omega) (by omega) (by omega)
        exact absurd this hfn
      · exact ih (by omega) (by omega)
theorem rdK_le0 (T : TW) (v : Nat → Int) (a b : Nat) : ∀ k, rdK T v k a b ≤ rdK T v 0 a b := by
  intro k
  induction k with
  | zero => exact Int.le_refl _
  | succ k ih => rw [rdK_s]; omega
theorem rd_edge {T : TW} {R : Nat → RL} (hT : okT T R) (v : Nat → Int) {f : Nat} (hf : f < (netC T v).K) (ho : (netC T v).ok f = true) : rdK T v 8 ((netC T v).fr f) ((netC T v).to f) ≤ (netC T v).w f := by
  have hf' : (f : Int) < T 0 1 := by have : f < (T 0 1).toNat := hf; omega
  have ho' : (sfA v (T 5 f).toNat && sfA v (T 6 f).toNat) = true := ho
  rw [Bool.and_eq_true] at ho'
  have o := hT.2.2.1 f hf'
  have e5 : ((T 5 f).toNat : Int) = T 5 f := by omega
  have e6 : ((T 6 f).toNat : Int) = T 6 f := by omega
  unfold sfA at ho'
  rw [e5, e6] at ho'
  have h0 := rdE_edge hT v hf' ho' (T 0 1).toNat (by omega) (Nat.le_refl _)
  have := rdK_le0 T v (T 5 f).toNat (T 6 f).toNat 8
  show rdK T v 8 (T 5 f).toNat (T 6 f).toNat ≤ T 7 f
  have e : rdK T v 0 (T 5 f).toNat (T 6 f).toNat = rdE T v (T 0 1).toNat (T 5 f).toNat (T 6 f).toNat := rfl
  omega
/-- what holds along friends holds along roads -/
theorem rd_along {T : TW} {R : Nat → RL} (hT : okT T R) (v : Nat → Int) (Q : Nat → Nat → Int → Prop) (h0 : ∀ a, Q a a 0) (hE : ∀ f, f < (netC T v).K → (netC T v).ok f = true → Q ((netC T v).fr f) ((netC T v).to f) ((netC T v).w f)) (ht : ∀ a b c x y, Q a b x → Q b c y → Q a c (x + y)) : ∀ k a b, rdK T v k a b < 100000000 → Q a b (rdK T v k a b) := by
  have base : ∀ n a b, n ≤ (T 0 1).toNat → rdE T v n a b < 100000000 → Q a b (rdE T v n a b) := by
    intro n
    induction n with
    | zero =>
      intro a b _ h
      have e : rdE T v 0 a b = if a = b then 0 else 100000000 := rfl
      rw [e] at h ⊢
      by_cases hab : a = b
      · rw [if_pos hab, hab]; exact h0 b
      · rw [if_neg hab] at h; omega
    | succ n ih =>
      intro a b hn h
      rw [rdE_s] at h ⊢
      by_cases hc : (alv v (T 5 n) = true ∧ alv v (T 6 n) = true) ∧ T 5 n = (a : Int) ∧ T 6 n = (b : Int)
      · rw [if_pos hc]
        obtain ⟨⟨c1, c2⟩, c3, c4⟩ := hc
        have := hE n (show n < (T 0 1).toNat by omega) (by
          show (sfA v (T 5 n).toNat && sfA v (T 6 n).toNat) = true
          rw [c3] at c1
          rw [c4] at c2
          rw [c3, c4]
          unfold sfA
          rw [Int.toNat_natCast, Int.toNat_natCast, c1, c2]; rfl)
        have e1 : (netC T v).fr n = a := by show (T 5 n).toNat = a; omega
        have e2 : (netC T v).to n = b := by show (T 6 n).toNat = b; omega
        rw [e1, e2] at this
        exact this
      · rw [if_neg hc] at h ⊢
        exact ih a b (by omega) h
  intro k
  induction k with
  | zero => intro a b h; exact base _ a b (Nat.le_refl _) h
  | succ k ih =>
    intro a b h
    rw [rdK_s] at h ⊢
    by_cases hm : rdK T v k a b ≤ rdK T v k a k + rdK T v k k b
    · have e : min (rdK T v k a b) (rdK T v k a k + rdK T v k k b) = rdK T v k a b := by omega
      rw [e] at h ⊢
      exact ih a b h
    · have e : min (rdK T v k a b) (rdK T v k a k + rdK T v k k b) = rdK T v k a k + rdK T v k k b := by omega
      rw [e] at h ⊢
      have r1 := (rdK_R hT v k a k).2
      have r2 := (rdK_R hT v k k b).2
      exact ht _ _ _ _ _ (ih a k (by omega)) (ih k b (by omega))
def mnP (T : TW) (v s0 π : Nat → Int) (B : Int) (q : Nat) : Nat → Int := itF (fun a m => if 0 < s0 a ∧ rdK T v 8 a q < 100000000 then min m (π a + rdK T v 8 a q) else m) B
theorem mnP_ok (T : TW) (v s0 π : Nat → Int) (B : Int) (q : Nat) : ∀ n, mnP T v s0 π B q n ≤ B ∧ (∀ a, a < n → 0 < s0 a → rdK T v 8 a q < 100000000 → mnP T v s0 π B q n ≤ π a + rdK T v 8 a q) ∧ (mnP T v s0 π B q n = B ∨ ∃ a, a < n ∧ 0 < s0 a ∧ rdK T v 8 a q < 100000000 ∧ mnP T v s0 π B q n = π a + rdK T v 8 a q) := by
  intro n
  induction n with
  | zero => exact ⟨Int.le_refl _, fun a ha => absurd ha (Nat.not_lt_zero _), Or.inl rfl⟩
  | succ n ih =>
    have e : mnP T v s0 π B q (n + 1) = if 0 < s0 n ∧ rdK T v 8 n q < 100000000 then min (mnP T v s0 π B q n) (π n + rdK T v 8 n q) else mnP T v s0 π B q n := rfl
    rw [e]
    obtain ⟨i1, i2, i3⟩ := ih
    by_cases hc : 0 < s0 n ∧ rdK T v 8 n q < 100000000
    · rw [if_pos hc]
      refine ⟨by omega, fun a ha h1 h2 => ?_, ?_⟩
      · by_cases han : a = n
        · subst han; omega
        · have := i2 a (by omega) h1 h2; omega
      · by_cases hm : mnP T v s0 π B q n ≤ π n + rdK T v 8 n q
        · rw [show min (mnP T v s0 π B q n) (π n + rdK T v 8 n q) = mnP T v s0 π B q n by omega]
          rcases i3 with i3 | ⟨a, a1, a2, a3, a4⟩
          · exact Or.inl i3
          · exact Or.inr ⟨a, by omega, a2, a3, a4⟩
        · exact Or.inr ⟨n, by omega, hc.1, hc.2, by omega⟩
    · rw [if_neg hc]
      refine ⟨i1, fun a ha h1 h2 => ?_, ?_⟩
      · by_cases han : a = n
        · subst han; exact absurd ⟨h1, h2⟩ hc
        · exact i2 a (by omega) h1 h2
      · rcases i3 with i3 | ⟨a, a1, a2, a3, a4⟩
        · exact Or.inl i3
        · exact Or.inr ⟨a, by omega, a2, a3, a4⟩
theorem same_cost {T : TW} {R : Nat → RL} (hT : okT T R) {v s0 xC sC xR sR : Nat → Int} {cC cR : Int} (hC : FINV (netC T v) s0 xC sC cC) (hCs : ∀ p, p < 8 → sC p = 0) (hR : FINV (netR T v s0) s0 xR sR cR) (hRs : ∀ p, p < 8 → sR p = 0) : cC = cR := by
  have le1 : cC ≤ cR := by
    obtain ⟨π, p1, p2⟩ := dual_eq hC hCs
    rw [p2]
    refine dual_le hR hRs fun e he ho => ?_
    have he' : e < 64 := he
    obtain ⟨q1, q2, q3⟩ := netR_ok (T := T) (v := v) (s0 := s0) (a := e / 8) (b := e % 8) (by omega) (by omega)
    rw [show 8 * (e / 8) + e % 8 = e by omega] at q1 q2 q3
    rw [q1.2.1, q1.2.2, q2]
    have hr := (q3.mp ho).2.2
    have := rd_along hT v (fun a b x => π b ≤ π a + x) (fun a => by omega) (fun f hf hok => p1 f hf hok) (fun a b c x y h1 h2 => by omega) 8 (e / 8) (e % 8) hr
    exact this
  have le2 : cR ≤ cC := by
    obtain ⟨π, p1, p2⟩ := dual_eq hR hRs
    have pa : ∀ q, q < 8 → π q ≤ 1000000000 + sm (fun q => ((π q).natAbs : Int)) 8 := fun q hq => by
      have := (sm_one (f := fun q => ((π q).natAbs : Int)) (n := 8) (i := q) (fun _ _ => by omega) hq).1
      omega
    generalize 1000000000 + sm (fun q => ((π q).natAbs : Int)) 8 = B at pa
    have feas := dual_le hC hCs (π := fun q => mnP T v s0 π B q 8) (fun e he ho => by
      obtain ⟨w1, w2, w3, w4⟩ := (netC_wf hT v).2 e he ho
      have w4' : (netC T v).w e ≤ 99 := w4
      have hedge := rd_edge hT v he ho
      obtain ⟨m1, m2, m3⟩ := mnP_ok T v s0 π B ((netC T v).fr e) 8
      obtain ⟨n1, n2, n3⟩ := mnP_ok T v s0 π B ((netC T v).to e) 8
      rcases m3 with m3 | ⟨a, a1, a2, a3, a4⟩
      · omega
      · have tri := rdK_tri hT v 8 ((netC T v).fr e) a ((netC T v).to e) w1
        have r := rdK_8 hT v a ((netC T v).fr e)
        have := n2 a a1 a2 (by omega)
        omega)
    have val : sm (fun p => s0 p * mnP T v s0 π B p 8) 8 ≤ sm (fun p => s0 p * π p) 8 := sm_mono fun p hp => by
      obtain ⟨m1, m2, m3⟩ := mnP_ok T v s0 π B p 8
      by_cases hpos : 0 < s0 p
      · have e0 := (rdK_R hT v 8 p p).1 rfl
        have := m2 p hp hpos (by omega)
        exact Int.mul_le_mul_of_nonneg_left (by omega) (by omega)
      · by_cases hneg : s0 p < 0
        · have hge : π p ≤ mnP T v s0 π B p 8 := by
            rcases m3 with m3 | ⟨a, a1, a2, a3, a4⟩
            · rw [m3]; exact pa p hp
            · obtain ⟨q1, q2, q3⟩ := netR_ok (T := T) (v := v) (s0 := s0) a1 hp
              have := p1 (8 * a + p) q1.1 (q3.mpr ⟨a2, hneg, a3⟩)
              rw [q1.2.1, q1.2.2, q2] at this
              omega
          have := Int.mul_le_mul_of_nonneg_left hge (show 0 ≤ -s0 p by omega)
          rw [Int.neg_mul, Int.neg_mul] at this
          omega
        · have : s0 p = 0 := by omega
          rw [this]; simp
    omega
  omega
theorem cut_CR {T : TW} {R : Nat → RL} (hT : okT T R) {v s0 : Nat → Int} (h : cutN (netC T v) s0) : cutN (netR T v s0) s0 := by
  obtain ⟨A, h1, h2⟩ := h
  refine ⟨A, fun e he ho hA => ?_, h2⟩
  have he' : e < 64 := he
  obtain ⟨q1, q2, q3⟩ := netR_ok (T := T) (v := v) (s0 := s0) (a := e / 8) (b := e % 8) (by omega) (by omega)
  rw [show 8 * (e / 8) + e % 8 = e by omega] at q1 q2 q3
  rw [q1.2.1] at hA
  rw [q1.2.2]
  exact rd_along hT v (fun a b _ => A a = true → A b = true) (fun a h => h) (fun f hf hok => h1 f hf hok) (fun a b c x y h1 h2 h => h2 (h1 h)) 8 (e / 8) (e % 8) (q3.mp ho).2.2 hA
theorem cut_RC {T : TW} {R : Nat → RL} (hT : okT T R) {v s0 : Nat → Int} (h : cutN (netR T v s0) s0) : cutN (netC T v) s0 := by
  obtain ⟨A, h1, h2⟩ := h
  have mem : ∀ q, ((List.range 8).any fun a => A a && (decide (0 < s0 a) && decide (rdK T v 8 a q < 100000000))) = true ↔ ∃ a, a < 8 ∧ A a = true ∧ 0 < s0 a ∧ rdK T v 8 a q < 100000000 := fun q => by
    rw [List.any_eq_true]
    constructor
    · rintro ⟨a, ha, hh⟩
      simp only [Bool.and_eq_true, decide_eq_true_eq] at hh
      exact ⟨a, List.mem_range.mp ha, hh⟩
    · rintro ⟨a, ha, hh⟩
      exact ⟨a, List.mem_range.mpr ha, by simp only [Bool.and_eq_true, decide_eq_true_eq]; exact hh⟩
  refine ⟨fun q => (List.range 8).any fun a => A a && (decide (0 < s0 a) && decide (rdK T v 8 a q < 100000000)), fun e he ho hA => ?_, ?_⟩
  · dsimp only at hA ⊢
    rw [mem] at hA ⊢
    obtain ⟨a, a1, a2, a3, a4⟩ := hA
    obtain ⟨w1, w2, w3, w4⟩ := (netC_wf hT v).2 e he ho
    have w4' : (netC T v).w e ≤ 99 := w4
    have hedge := rd_edge hT v he ho
    have tri := rdK_tri hT v 8 ((netC T v).fr e) a ((netC T v).to e) w1
    have r := rdK_8 hT v a ((netC T v).fr e)
    exact ⟨a, a1, a2, a3, by omega⟩
  · refine Int.lt_of_lt_of_le h2 (sm_mono fun p hp => ?_)
    by_cases hpos : 0 < s0 p
    · refine Int.mul_le_mul_of_nonneg_left ?_ (by omega)
      unfold inA
      by_cases hA : A p = true
      · rw [if_pos hA, if_pos ((mem p).mpr ⟨p, hp, hA, hpos, by have := (rdK_R hT v 8 p p).1 rfl; omega⟩)]; decide
      · rw [if_neg hA]; split <;> omega
    · by_cases hneg : s0 p < 0
      · have hle : inA (fun q => (List.range 8).any fun a => A a && (decide (0 < s0 a) && decide (rdK T v 8 a q < 100000000))) p ≤ inA A p := by
          unfold inA
          split
          · rename_i hq
            obtain ⟨a, a1, a2, a3, a4⟩ := (mem p).mp hq
            obtain ⟨q1, q2, q3⟩ := netR_ok (T := T) (v := v) (s0 := s0) a1 hp
            have := h1 (8 * a + p) q1.1 (q3.mpr ⟨a3, hneg, a4⟩) (by rw [q1.2.1]; exact a2)
            rw [q1.2.2] at this
            rw [if_pos this]; decide
          · split <;> omega
        have := Int.mul_le_mul_of_nonneg_left hle (show 0 ≤ -s0 p by omega)
        rw [Int.neg_mul, Int.neg_mul] at this
        omega
      · have : s0 p = 0 := by omega
        rw [this]; simp
