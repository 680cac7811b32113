/-! CHEAPEST: the first side sends along a way -/
def mnL (x : Nat → Int) : List ARC → Int → Int
  | [], n => n
  | a :: L, n => mnL x L (if a.2 = true then min n (x a.1) else n)
theorem mnL_ok (x : Nat → Int) : ∀ (L : List ARC) (n : Int), mnL x L n ≤ n ∧ (∀ a, a ∈ L → a.2 = true → mnL x L n ≤ x a.1) ∧ (0 < n → (∀ a, a ∈ L → a.2 = true → 0 < x a.1) → 0 < mnL x L n) := by
  intro L
  induction L with
  | nil => intro n; exact ⟨Int.le_refl _, fun a ha => (by cases ha), fun h _ => h⟩
  | cons a L ih =>
    intro n
    obtain ⟨i1, i2, i3⟩ := ih (if a.2 = true then min n (x a.1) else n)
    have e : mnL x (a :: L) n = mnL x L (if a.2 = true then min n (x a.1) else n) := rfl
    rw [e]
    generalize mnL x L (if a.2 = true then min n (x a.1) else n) = A at i1 i2 i3
    refine ⟨?_, fun b hb hb2 => ?_, fun h0 hp => ?_⟩
    · split at i1 <;> omega
    · rcases List.mem_cons.mp hb with hb | hb
      · subst hb; rw [if_pos hb2] at i1; omega
      · exact i2 b hb hb2
    · refine i3 ?_ fun b hb => hp b (List.mem_cons_of_mem _ hb)
      split
      · rename_i ha
        have := hp a List.mem_cons_self ha
        omega
      · exact h0
theorem lsum_le {f : ARC → Int} {W : Int} : ∀ (L : List ARC), (∀ a, a ∈ L → -W ≤ f a ∧ f a ≤ W) → -((L.length : Int) * W) ≤ lsum f L ∧ lsum f L ≤ (L.length : Int) * W := by
  intro L
  induction L with
  | nil => intro _; simp [lsum]
  | cons a L ih =>
    intro h
    have h1 := h a List.mem_cons_self
    have h2 := ih fun b hb => h b (List.mem_cons_of_mem _ hb)
    have e : lsum f (a :: L) = f a + lsum f L := rfl
    have e2 : ((a :: L).length : Int) * W = (L.length : Int) * W + W := by rw [List.length_cons, show ((L.length + 1 : Nat) : Int) = (L.length : Int) + 1 by omega, Int.add_mul, Int.one_mul]
    omega
theorem chain_price {N : NW} (hN : N.wf) {x s π : Nat → Int} {t : Nat} {S : DP} (hB : BFI N x s π t S) (hC : Conv N x S) {g u : Nat} {L : List ARC} (hg : g < 8) (hc : chn N S.2 g L u) (hdu : S.1 u = 0) (hL : ∀ a, a ∈ L → N.res x a ∧ S.2 (N.hd a) = some a) (h7 : L.length ≤ 7) : -(7 * N.W) ≤ S.1 g ∧ S.1 g ≤ 7 * N.W := by
  obtain ⟨τ, b1, b2, b3, b4⟩ := hB
  have e := chn_sum (N := N) (pr := S.2) (f := N.ct) (φ := S.1) (fun v a hv ha => by
    obtain ⟨g1, g2, g3, g4, _⟩ := b2 v a hv ha
    have := hC a g1 g3
    rw [g2] at this
    exact ⟨(NW.arc hN g1).1, by omega⟩) hg hc
  have l := lsum_le (f := N.ct) (W := N.W) L fun a ha => (NW.arc hN (hL a ha).1).2.2
  have m : (L.length : Int) * N.W ≤ 7 * N.W := Int.mul_le_mul_of_nonneg_right (by omega) hN.1
  omega
theorem netC_arc {T : TW} {R : Nat → RL} (hT : okT T R) {v x : Nat → Int} {a : ARC} (h : (netC T v).res x a) : (a.1 : Int) < T 0 1 ∧ a.1 < 20 ∧ (netC T v).tl a < 8 := by
  have h1 : a.1 < (T 0 1).toNat := h.1
  have := hT.1.2.2.2.1
  have := hT.1.2.2.1
  exact ⟨by omega, by omega, (NW.arc (netC_wf hT v) h).1⟩
theorem X_before {T : TW} {R : Nat → RL} {v x : Nat → Int} {M : KM} (h : WC T R v M) (ho : WO T R v) {a : ARC} (ha : (netC T v).res x a) : f_Roads_beforeOn (encA (some a)) M = some (((netC T v).tl a : Nat) : Int) := by
  obtain ⟨h1, h2, h3⟩ := netC_arc ho.1 ha
  have hokt := ho.1.2.2.1 a.1 h1
  have a5 := h.from_ ho (f := a.1) (by omega) h1
  have a6 := h.to ho (f := a.1) (by omega) h1
  rw [Int.toNat_natCast] at a5 a6
  refine Ret.some_of ?_
  unfold f_Roads_beforeOn
  obtain ⟨e, b⟩ := a
  dsimp only at *
  refine Ret.bind (R := fun y => y = (((netC T v).tl (e, b) : Nat) : Int)) ?_ (fun y hy => Ret.pure hy)
  cases b with
  | true =>
    have e1 : encA (some (e, true)) = (e : Int) + 20 := rfl
    rw [e1, show (e : Int) + 20 - 20 = e by omega, w32e (n := (e : Int)) (by omega) (by omega), a6]
    refine Ret.f (by omega) (Ret.pure ?_)
    show T 6 e = (((T 6 e).toNat : Nat) : Int)
    omega
  | false =>
    have e1 : encA (some (e, false)) = (e : Int) := rfl
    rw [e1, a5]
    refine Ret.t (by omega) (Ret.pure ?_)
    show T 5 e = (((T 5 e).toNat : Nat) : Int)
    omega
theorem encA_nn (a : ARC) : ¬ encA (some a) = -1 ∧ (encA (some a) < 20 → a.2 = false) := by
  obtain ⟨e, b⟩ := a
  cases b with
  | true =>
    have e1 : encA (some (e, true)) = (e : Int) + 20 := rfl
    rw [e1]; exact ⟨by omega, fun _ => by omega⟩
  | false =>
    have e1 : encA (some (e, false)) = (e : Int) := rfl
    rw [e1]; exact ⟨by omega, fun _ => rfl⟩
def sndN (x s : Nat → Int) (L : List ARC) (g u : Nat) : Int := min (mnL x L (-s g)) (s u)
theorem X_sendTo {T : TW} {R : Nat → RL} {v x s : Nat → Int} {S : DP} {M : KM} (h : WC T R v M) (ho : WO T R v) (hD : DPC S M) (hs : ∀ p, p < 8 → M 333 p = s p) (hsR : ∀ p, p < 8 → -2000 ≤ s p ∧ s p ≤ 2000) (hx : ∀ f : Nat, (f : Int) < T 0 1 → M 337 f = x f) (hxR : ∀ f : Nat, (f : Int) < T 0 1 → 0 ≤ x f ∧ x f ≤ 2000)
    {g u : Nat} {L : List ARC} (hg : g < 8) (hsg : s g < 0) (hc : chn (netC T v) S.2 g L u) (h7 : L.length ≤ 7) (hu : u < 8) (hsu : 0 < s u) (hL : ∀ a, a ∈ L → (netC T v).res x a) :
    Ret (f_Roads_sendTo (g : Int) M) (fun q => q.1 = sndN x s L g u ∧ (∀ p, p < 8 → q.2 333 p = vset (vset s u (s u - sndN x s L g u)) g (s g + sndN x s L g u) p) ∧ (∀ f : Nat, (f : Int) < T 0 1 → q.2 337 f = aug (sndN x s L g u) L x f) ∧ ∀ c, c ≠ 333 → c ≠ 337 → q.2 c = M c) := by
  have o := ho.1.1
  have mo := mnL_ok x L (-s g)
  have sg := hsR g hg
  have su := hsR u hu
  have hgu : g ≠ u := fun e => by subst e; omega
  have npos : 0 < sndN x s L g u := by
    have := mo.2.2 (by omega) (fun a ha hb => (hL a ha).2.2 hb)
    unfold sndN; omega
  have nle : sndN x s L g u ≤ 2000 := by unfold sndN; omega
  unfold f_Roads_sendTo
  rw [atM_nat _ _ _ hg, hs g hg, w32e (n := -s g) (by omega) (by omega)]
  refine Ret.letI ?_
  refine Ret.bind (R := fun e => e = (mnL x L (-s g), (u : Int))) (Ret.list (fun (L' : List ARC) (t : Int × Int × Int) => ∃ w, w < 8 ∧ chn (netC T v) S.2 w L' u ∧ t.2.1 = (w : Int) ∧ 0 ≤ t.2.2 ∧ t.2.2 + (L'.length : Int) ≤ 7 ∧ mnL x L' t.1 = mnL x L (-s g) ∧ ∀ a, a ∈ L' → (netC T v).res x a) ?_ ?_ L _ ⟨g, hg, hc, rfl, Int.le_refl _, by dsimp only; omega, rfl, hL⟩) ?_
  · rintro a L' t ⟨w, w1, ⟨w2, w3⟩, w4, w5, w6, w7, w8⟩
    rw [List.length_cons] at w6
    have ha := w8 a List.mem_cons_self
    obtain ⟨n1, n2, n3⟩ := netC_arc ho.1 ha
    have em : M 339 w = encA (some a) := by rw [(hD w w1).2, w2]
    have en := encA_nn a
    rw [w4, atM_nat _ _ _ w1, em, w32e (n := t.2.2 + 1) (by omega) (by omega)]
    refine Ret.t (by omega) (Ret.f en.1 (Ret.letI ?_))
    refine Ret.bind (R := fun y => y = if a.2 = true then min t.1 (x a.1) else t.1) ?_ ?_
    · refine Ret.br (fun hc => Ret.pure ?_) (fun hc => Ret.letI (Ret.pure ?_))
      · rw [en.2 hc]; exact (if_neg (by decide)).symm
      · obtain ⟨e, b⟩ := a
        dsimp only at *
        cases b with
        | false => exact absurd (show encA (some (e, false)) < 20 from by show (e : Int) < 20; omega) hc
        | true =>
          have e1 : encA (some (e, true)) = (e : Int) + 20 := rfl
          rw [e1, show (e : Int) + 20 - 20 = e by omega, w32e (n := (e : Int)) (by omega) (by omega), atM_nat _ _ _ n2, hx e n1, if_pos rfl]
    rintro y rfl
    rw [X_before h ho ha]
    exact Ret.pure ⟨_, n3, w3, rfl, by dsimp only; omega, by dsimp only; omega, w7, fun b hb => w8 b (List.mem_cons_of_mem _ hb)⟩
  · rintro t ⟨w, w1, ⟨w2, w3⟩, w4, w5, w6, w7, w8⟩
    have em : M 339 w = -1 := by rw [(hD w w1).2, w3]; rfl
    have l0 : (([] : List ARC).length : Int) = 0 := rfl
    rw [l0] at w6
    rw [w4, atM_nat _ _ _ w1, em]
    refine Ret.t (by omega) (Ret.t rfl (Ret.pure ?_))
    have w7' : t.1 = mnL x L (-s g) := w7
    show (t.1, (w : Int)) = _
    rw [w7', w2]
  rintro e7 rfl
  dsimp only
  rw [atM_nat _ _ _ hu, hs u hu]
  have en : min (mnL x L (-s g)) (s u) = sndN x s L g u := rfl
  rw [en]
  generalize sndN x s L g u = n at npos nle ⊢
  refine Ret.letI (Ret.letM (Ret.letM ?_))
  have e333 : putM M 333 8 (u : Int) (w32 (s u - n)) 333 g = s g := by
    rw [putM_nat _ _ _ _ hu, mupd_ne2 _ _ hgu]; exact hs g hg
  rw [atM_nat _ _ _ hg, e333, putM_nat _ _ _ _ hu, putM_nat _ _ _ _ hg, w32e (n := s u - n) (by omega) (by omega), w32e (n := s g + n) (by omega) (by omega)]
  have m0 : ∀ p, p < 8 → mupd (mupd M 333 u (s u - n)) 333 g (s g + n) 333 p = vset (vset s u (s u - n)) g (s g + n) p := fun p hp => by
    rw [mupd_at, mupd_at]
    unfold vset
    by_cases h1 : p = g
    · rw [if_pos ⟨rfl, h1⟩, if_pos h1]
    · rw [if_neg (fun q => h1 q.2), if_neg h1]
      by_cases h2 : p = u
      · rw [if_pos ⟨rfl, h2⟩, if_pos h2]
      · rw [if_neg (fun q => h2 q.2), if_neg h2]; exact hs p hp
  have m1 : ∀ c, c ≠ 333 → mupd (mupd M 333 u (s u - n)) 333 g (s g + n) c = M c := fun c hc => by funext z; rw [mupd_ne _ _ hc, mupd_ne _ _ hc]
  generalize mupd (mupd M 333 u (s u - n)) 333 g (s g + n) = M0 at m0 m1 ⊢
  refine Ret.bind (R := fun q => (∀ p, p < 8 → q 333 p = vset (vset s u (s u - n)) g (s g + n) p) ∧ (∀ f : Nat, (f : Int) < T 0 1 → q 337 f = aug n L x f) ∧ ∀ c, c ≠ 333 → c ≠ 337 → q c = M c) ?_ (fun q hq => Ret.pure ⟨rfl, hq⟩)
  refine Ret.list (fun (L' : List ARC) (t : Int × Int × KM) => ∃ w x', w < 8 ∧ chn (netC T v) S.2 w L' u ∧ t.1 = (w : Int) ∧ 0 ≤ t.2.1 ∧ t.2.1 + (L'.length : Int) ≤ 7 ∧ aug n L' x' = aug n L x ∧ (∀ a, a ∈ L' → (netC T v).res x a) ∧ (∀ f : Nat, (f : Int) < T 0 1 → t.2.2 337 f = x' f ∧ -(2000 * t.2.1 + 2000) ≤ x' f ∧ x' f ≤ 2000 * t.2.1 + 2000) ∧ ∀ c, c ≠ 337 → t.2.2 c = M0 c) ?_ ?_ L _ ⟨g, x, hg, hc, rfl, Int.le_refl _, by dsimp only; omega, rfl, hL, fun f hf => by dsimp only; rw [m1 337 (by omega), hx f hf]; have := hxR f hf; omega, fun c _ => rfl⟩
  · rintro a L' t ⟨w, x', w1, ⟨w2, w3⟩, w4, w5, w6, w7, w8, w9, w10⟩
    rw [List.length_cons] at w6
    have ha := w8 a List.mem_cons_self
    obtain ⟨n1, n2, n3⟩ := netC_arc ho.1 ha
    have em : t.2.2 339 w = encA (some a) := by rw [w10 339 (by omega), m1 339 (by omega), (hD w w1).2, w2]
    have en := encA_nn a
    have hw : ∀ y, WC T R v (putM t.2.2 337 20 (a.1 : Int) y) := fun y => h.congr fun k j hk => by
      rw [putM_nat _ _ _ _ n2, mupd_ne _ _ (by unfold pN at hk; omega), w10 k (by unfold pN at hk; omega), m1 k (by unfold pN at hk; omega)]
    have er : krem (encA (some a)) 20 = (a.1 : Int) := by
      obtain ⟨e, b⟩ := a
      dsimp only at *
      cases b with
      | true =>
        have e1 : encA (some (e, true)) = (e : Int) + 20 := rfl
        rw [e1, krem_nn (by omega) (by omega) (by omega) (by omega)]; omega
      | false =>
        have e1 : encA (some (e, false)) = (e : Int) := rfl
        rw [e1, krem_nn (by omega) (by omega) (by omega) (by omega)]; omega
    have w9a := w9 a.1 n1
    rw [w4, atM_nat _ _ _ w1, em, w32e (n := t.2.1 + 1) (by omega) (by omega), letI_e, er, letI_e, atM_nat _ _ _ n2, w9a.1]
    refine Ret.t (by omega) (Ret.f en.1 (Ret.f (by omega) ?_))
    refine Ret.bind (R := fun y => y = if a.2 = true then -n else n) ?_ ?_
    · refine Ret.br (fun hc => Ret.pure ?_) (fun hc => Ret.pure ?_)
      · rw [en.2 hc]; exact (if_neg (by decide)).symm
      · rw [w32e (n := -n) (by omega) (by omega)]
        cases hb : a.2 with
        | true => rfl
        | false =>
          obtain ⟨e, b⟩ := a
          dsimp only at *
          subst hb
          exact absurd (show encA (some (e, false)) < 20 from by show (e : Int) < 20; omega) hc
    rintro y hy
    have yR : -2000 ≤ y ∧ y ≤ 2000 := by rw [hy]; split <;> omega
    refine Ret.letM ?_
    rw [X_before (hw _) ho ha]
    refine Ret.pure ⟨_, vset x' a.1 (x' a.1 + y), n3, w3, rfl, by dsimp only; omega, by dsimp only; omega, ?_, fun b hb => w8 b (List.mem_cons_of_mem _ hb), fun f hf => ?_, fun c hc => ?_⟩
    · rw [← w7, hy]; rfl
    · dsimp only
      rw [putM_nat _ _ _ _ n2, w32e (n := x' a.1 + y) (by omega) (by omega), mupd_at]
      unfold vset
      by_cases hfa : f = a.1
      · rw [if_pos ⟨rfl, hfa⟩, if_pos hfa]; omega
      · rw [if_neg (fun q => hfa q.2), if_neg hfa]
        have := w9 f hf
        omega
    · dsimp only
      rw [putM_nat _ _ _ _ n2]
      funext z; rw [mupd_ne _ _ hc, w10 c hc]
  · rintro t ⟨w, x', w1, ⟨w2, w3⟩, w4, w5, w6, w7, w8, w9, w10⟩
    have em : t.2.2 339 w = -1 := by rw [w10 339 (by omega), m1 339 (by omega), (hD w w1).2, w3]; rfl
    have l0 : (([] : List ARC).length : Int) = 0 := rfl
    rw [l0] at w6
    rw [w4, atM_nat _ _ _ w1, em]
    refine Ret.t (by omega) (Ret.t rfl (Ret.pure ⟨fun p hp => ?_, fun f hf => ?_, fun c h1 h2 => ?_⟩))
    · rw [w10 333 (by omega)]; exact m0 p hp
    · have w7' : x' = aug n L x := w7
      rw [← w7']; exact (w9 f hf).1
    · rw [w10 c h2, m1 c h1]
