/-! CHEAPEST: the second side carries along a way -/
theorem netR_arc {T : TW} {R : Nat → RL} (hT : okT T R) {v s0 x : Nat → Int} {a : ARC} {w : Nat} (h : (netR T v s0).res x a) (hw : (netR T v s0).hd a = w) (hw8 : w < 8) : (netR T v s0).tl a < 8 ∧ a.1 < 64 ∧ ((a.2 = true ∧ 0 < s0 w ∧ a.1 = 8 * w + (netR T v s0).tl a) ∨ (a.2 = false ∧ s0 w < 0 ∧ a.1 = 8 * (netR T v s0).tl a + w)) := by
  have h1 : a.1 < 64 := h.1
  have ht := (NW.arc (netR_wf hT v s0) h).1
  obtain ⟨q1, q2, q3⟩ := netR_ok (T := T) (v := v) (s0 := s0) (a := a.1 / 8) (b := a.1 % 8) (by omega) (by omega)
  rw [show 8 * (a.1 / 8) + a.1 % 8 = a.1 by omega] at q1 q2 q3
  have ok := q3.mp h.2.1
  refine ⟨ht, h1, ?_⟩
  obtain ⟨e, b⟩ := a
  dsimp only at *
  cases b with
  | true =>
    have e1 : (netR T v s0).hd (e, true) = e / 8 := rfl
    have e2 : (netR T v s0).tl (e, true) = e % 8 := rfl
    refine Or.inl ⟨rfl, ?_, ?_⟩
    · rw [← hw, e1]; exact ok.1
    · rw [e2]; omega
  | false =>
    have e1 : (netR T v s0).hd (e, false) = e % 8 := rfl
    have e2 : (netR T v s0).tl (e, false) = e / 8 := rfl
    refine Or.inr ⟨rfl, ?_, ?_⟩
    · rw [← hw, e1]; exact ok.2.1
    · rw [e2]; omega
theorem M_carry {b : Nat} {T : TW} {R : Nat → RL} {v s x : Nat → Int} {tg : Nat → Bool} {ta : Nat → Int} {S : DP} {M : KM} (h : WM b T R v M) (ho : WO T R v) (hG : GM_ tg ta M) (hok : okG T tg ta) (hD : DPM (netR T v (sprV v tg ta)) S M) (hs : ∀ p, p < 8 → M 415 p = s p) (hsR : ∀ p, p < 8 → -2000 ≤ s p ∧ s p ≤ 2000) (hx : ∀ e, e < 64 → M 416 e = x e) (hxR : ∀ e, e < 64 → 0 ≤ x e ∧ x e ≤ 2000)
    {g u : Nat} {L : List ARC} (hg : g < 8) (hsg : s g < 0) (hc : chn (netR T v (sprV v tg ta)) S.2 g L u) (h7 : L.length ≤ 7) (hu : u < 8) (hsu : 0 < s u) (hL : ∀ a, a ∈ L → (netR T v (sprV v tg ta)).res x a) (hH : ∀ w a, w < 8 → S.2 w = some a → (netR T v (sprV v tg ta)).hd a = w) :
    Ret (f_M_carry (g : Int) M) (fun q => q.1 = sndN x s L g u ∧ (∀ p, p < 8 → q.2 415 p = vset (vset s u (s u - sndN x s L g u)) g (s g + sndN x s L g u) p) ∧ (∀ e, e < 64 → q.2 416 e = aug (sndN x s L g u) L x e) ∧ ∀ c, c ≠ 415 → c ≠ 416 → q.2 c = M c) := by
  have o := ho.1.1
  have nA : ∀ {a : ARC} {w : Nat}, _ → _ → _ → _ := fun {a w} h1 h2 h3 => netR_arc (T := T) (v := v) (s0 := sprV v tg ta) (x := x) (a := a) (w := w) ho.1 h1 h2 h3
  generalize hNN : netR T v (sprV v tg ta) = N at *
  have mo := mnL_ok x L (-s g)
  have sg := hsR g hg
  have su := hsR u hu
  have hgu : g ≠ u := fun e => by subst e; omega
  have npos : 0 < sndN x s L g u := by
    have := mo.2.2 (by omega) (fun a ha hb => (hL a ha).2.2 hb)
    unfold sndN; omega
  have nle : sndN x s L g u ≤ 2000 := by unfold sndN; omega
  have spm : ∀ w, sprV v tg ta w = -misV v tg ta w := fun _ => rfl
  unfold f_M_carry
  rw [Int.toNat_natCast, hs g hg, w32e (n := -s g) (by omega) (by omega)]
  refine Ret.t (by omega) (Ret.letI ?_)
  refine Ret.bind (R := fun e => e = (mnL x L (-s g), (u : Int))) (Ret.list (fun (L' : List ARC) (t : Int × Int) => ∃ w, w < 8 ∧ chn N S.2 w L' u ∧ t.2 = (w : Int) ∧ mnL x L' t.1 = mnL x L (-s g) ∧ ∀ a, a ∈ L' → N.res x a) ?_ ?_ L _ ⟨g, hg, hc, rfl, rfl, hL⟩) ?_
  · rintro a L' t ⟨w, w1, ⟨w2, w3⟩, w4, w7, wr8⟩
    have ha := wr8 a List.mem_cons_self
    obtain ⟨n1, n2, n3⟩ := nA ha (hH w a w1 w2) w1
    have em : M 418 w = ((N.tl a : Nat) : Int) := by rw [(hD w w1).2, w2]; rfl
    have ww := w8 w1 n1
    rw [w4, Int.toNat_natCast, em, M_miss8 h ho hG hok w1]
    refine Ret.t (by omega) (Ret.f (by omega) (Ret.t (by omega) (Ret.letI ?_)))
    rw [ob_some, ww.1, Int.toNat_natCast]
    refine Ret.bind (R := fun y => y = if a.2 = true then min t.1 (x a.1) else t.1) ?_ ?_
    · rcases n3 with ⟨b1, b2, b3⟩ | ⟨b1, b2, b3⟩
      · have hsw := spm w
        rw [← b3, hx a.1 n2, b1, if_pos rfl]
        refine Ret.t (by omega) (Ret.t (by omega) (Ret.br (fun hc => Ret.t (by omega) (Ret.letI (Ret.pure (by omega)))) (fun hc => Ret.pure (by omega))))
      · have hsw := spm w
        rw [b1]
        exact Ret.f (by omega) (Ret.pure (if_neg (by decide)).symm)
    rintro y rfl
    exact Ret.pure ⟨_, n1, w3, rfl, w7, fun c hc => wr8 c (List.mem_cons_of_mem _ hc)⟩
  · rintro t ⟨w, w1, ⟨w2, w3⟩, w4, w7, wr8⟩
    have em : M 418 w = -1 := by rw [(hD w w1).2, w3]; rfl
    rw [w4, Int.toNat_natCast, em]
    refine Ret.t (by omega) (Ret.t (by omega) (Ret.pure ?_))
    have w7' : t.1 = mnL x L (-s g) := w7
    show (t.1, (w : Int)) = _
    rw [w7', w2]
  rintro e7 rfl
  dsimp only
  rw [Int.toNat_natCast, hs u hu]
  refine Ret.t (by omega) ?_
  refine Ret.bind (R := fun y => y = sndN x s L g u) (Ret.br (fun hc => Ret.t (by omega) (Ret.letI (Ret.pure (by unfold sndN; omega)))) (fun hc => Ret.pure (by unfold sndN; omega))) ?_
  rintro n0 rfl
  generalize sndN x s L g u = n at npos nle ⊢
  refine Ret.t (by omega) (Ret.t (by omega) (Ret.letM (Ret.t (by omega) (Ret.t (by omega) (Ret.letM ?_)))))
  have e415 : mupd M 415 u (w32 (s u - n)) 415 g = s g := by
    rw [mupd_ne2 _ _ hgu]; exact hs g hg
  rw [e415, w32e (n := s u - n) (by omega) (by omega), w32e (n := s g + n) (by omega) (by omega)]
  have m0 : ∀ p, p < 8 → mupd (mupd M 415 u (s u - n)) 415 g (s g + n) 415 p = vset (vset s u (s u - n)) g (s g + n) p := fun p hp => by
    rw [mupd_at, mupd_at]
    unfold vset
    by_cases h1 : p = g
    · rw [if_pos ⟨rfl, h1⟩, if_pos h1]
    · rw [if_neg (fun q => h1 q.2), if_neg h1]
      by_cases h2 : p = u
      · rw [if_pos ⟨rfl, h2⟩, if_pos h2]
      · rw [if_neg (fun q => h2 q.2), if_neg h2]; exact hs p hp
  have m1 : ∀ c, c ≠ 415 → mupd (mupd M 415 u (s u - n)) 415 g (s g + n) c = M c := fun c hc => by funext z; rw [mupd_ne _ _ hc, mupd_ne _ _ hc]
  generalize mupd (mupd M 415 u (s u - n)) 415 g (s g + n) = M0 at m0 m1 ⊢
  refine Ret.bind (R := fun q => (∀ p, p < 8 → q 415 p = vset (vset s u (s u - n)) g (s g + n) p) ∧ (∀ e, e < 64 → q 416 e = aug n L x e) ∧ ∀ c, c ≠ 415 → c ≠ 416 → q c = M c) ?_ (fun q hq => Ret.pure ⟨rfl, hq⟩)
  refine Ret.list (fun (L' : List ARC) (t : Int × KM) => ∃ w x', w < 8 ∧ chn N S.2 w L' u ∧ t.1 = (w : Int) ∧ L'.length ≤ 7 ∧ aug n L' x' = aug n L x ∧ (∀ a, a ∈ L' → N.res x a) ∧ (∀ e, e < 64 → t.2 416 e = x' e ∧ -(2000 * (7 - (L'.length : Int)) + 2000) ≤ x' e ∧ x' e ≤ 2000 * (7 - (L'.length : Int)) + 2000) ∧ ∀ c, c ≠ 416 → t.2 c = M0 c) ?_ ?_ L _ ⟨g, x, hg, hc, rfl, h7, rfl, hL, fun f hf => by dsimp only; rw [m1 416 (by omega), hx f hf]; have := hxR f hf; omega, fun c _ => rfl⟩
  · rintro a L' t ⟨w, x', w1, ⟨w2, w3⟩, w4, w5, w7, wr8, w9, w10⟩
    rw [List.length_cons] at w5 w9
    have ha := wr8 a List.mem_cons_self
    obtain ⟨n1, n2, n3⟩ := nA ha (hH w a w1 w2) w1
    have em : t.2 418 w = ((N.tl a : Nat) : Int) := by rw [w10 418 (by omega), m1 418 (by omega), (hD w w1).2, w2]; rfl
    have hw1 : WM b T R v t.2 := h.congr fun k j hk => by rw [w10 k (by unfold pR at hk; omega), m1 k (by unfold pR at hk; omega)]
    have hG1 : GM_ tg ta t.2 := fun p hp => by rw [w10 414 (by omega), m1 414 (by omega)]; exact hG p hp
    have ww := w8 w1 n1
    have ww2 := w8 n1 w1
    have w9a := w9 a.1 n2
    rw [w4, Int.toNat_natCast, em, M_miss8 hw1 ho hG1 hok w1]
    refine Ret.t (by omega) (Ret.f (by omega) (Ret.t (by omega) (Ret.letI ?_)))
    rw [ob_some, ww.1, ww2.1, Int.toNat_natCast, Int.toNat_natCast]
    have hsw := spm w
    refine Ret.bind (R := fun M2 => M2 = mupd t.2 416 a.1 (x' a.1 + if a.2 = true then -n else n)) ?_ ?_
    · rcases n3 with ⟨b1, b2, b3⟩ | ⟨b1, b2, b3⟩
      · rw [← b3, w9a.1, b1, if_pos (show true = true from rfl), w32e (n := x' a.1 - n) (by omega) (by omega), show x' a.1 + -n = x' a.1 - n by omega]
        exact Ret.t (by omega) (Ret.t (by omega) (Ret.t (by omega) (Ret.letM (Ret.pure rfl))))
      · rw [← b3, w9a.1, b1, if_neg (show ¬ false = true by decide), w32e (n := x' a.1 + n) (by omega) (by omega)]
        exact Ret.f (by omega) (Ret.t (by omega) (Ret.t (by omega) (Ret.letM (Ret.pure rfl))))
    rintro M2 rfl
    have yR : -2000 ≤ (if a.2 = true then -n else n) ∧ (if a.2 = true then -n else n) ≤ 2000 := by split <;> omega
    refine Ret.pure ⟨_, vset x' a.1 (x' a.1 + if a.2 = true then -n else n), n1, w3, rfl, by omega, by rw [← w7]; rfl, fun b hb => wr8 b (List.mem_cons_of_mem _ hb), fun f hf => ?_, fun c hc => ?_⟩
    · dsimp only
      rw [mupd_at]
      unfold vset
      by_cases hfa : f = a.1
      · rw [if_pos ⟨rfl, hfa⟩, if_pos hfa]; omega
      · rw [if_neg (fun q => hfa q.2), if_neg hfa]
        have := w9 f hf
        omega
    · dsimp only
      funext z; rw [mupd_ne _ _ hc, w10 c hc]
  · rintro t ⟨w, x', w1, ⟨w2, w3⟩, w4, w5, w7, wr8, w9, w10⟩
    have em : t.2 418 w = -1 := by rw [w10 418 (by omega), m1 418 (by omega), (hD w w1).2, w3]; rfl
    rw [w4, Int.toNat_natCast, em]
    refine Ret.t (by omega) (Ret.t (by omega) (Ret.pure ⟨fun p hp => ?_, fun f hf => ?_, fun c h1 h2 => ?_⟩))
    · rw [w10 415 (by omega)]; exact m0 p hp
    · have w7' : x' = aug n L x := w7
      rw [← w7']; exact (w9 f hf).1
    · rw [w10 c h2, m1 c h1]
