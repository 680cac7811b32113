/-! CHEAPEST: the first side's ways -/
def encA (o : Option ARC) : Int := match o with
  | none => -1
  | some a => if a.2 = true then (a.1 : Int) + 20 else (a.1 : Int)
def DPC (S : DP) (M : KM) : Prop := ∀ q, q < 8 → M 338 q = S.1 q ∧ M 339 q = encA (S.2 q)
def DPR (B : Int) (S : DP) : Prop := ∀ q, q < 8 → S.1 q = 100000000 ∨ (-B ≤ S.1 q ∧ S.1 q ≤ B)
theorem BFI.R {N : NW} {x s π : Nat → Int} {t : Nat} {S : DP} (h : BFI N x s π t S) {B : Int} (hB : (t : Int) * N.W ≤ B) : DPR B S := fun q hq => by
  obtain ⟨τ, h1, h2, h3, h4⟩ := h
  have := h3 q hq
  omega
theorem X_improve {N : NW} {S : DP} {M : KM} {a : ARC} {f t : Nat} {pr by_ : Int} (hD : DPC S M) (hR : DPR 40000 S) (hf : N.tl a = f) (ht : N.hd a = t) (hf8 : f < 8) (ht8 : t < 8) (hp : N.ct a = pr) (hp1 : -99 ≤ pr ∧ pr ≤ 99) (hb : by_ = encA (some a)) :
    Ret (f_Roads_improve (f : Int) (t : Int) pr by_ M) (fun q => DPC (rlx N a S) q.2 ∧ ((q.1 = 0 ∧ rlx N a S = S) ∨ q.1 = 1) ∧ ∀ c, c ≠ 338 → c ≠ 339 → q.2 c = M c) := by
  have d1 := hD f hf8
  have d2 := hD t ht8
  have r1 := hR f hf8
  have ew : w32 (S.1 f + pr) = S.1 f + pr := w32e (by omega) (by omega)
  unfold f_Roads_improve
  rw [letI_e, atM_nat _ _ _ hf8, atM_nat _ _ _ ht8, d1.1, d2.1, ew, putM_nat _ _ _ _ ht8]
  refine (Ret.br (fun h1 => Ret.br (fun h2 => Ret.letM (Ret.letM (Ret.pure ?_))) fun h2 => Ret.pure ?_) fun h1 => Ret.pure ?_)
  · have er : rlx N a S = (vset S.1 t (S.1 f + pr), prs S.2 t a) := by
      unfold rlx
      rw [hf, ht, hp, if_pos ⟨h1, h2⟩]
    rw [er, putM_nat _ _ _ _ ht8]
    refine ⟨fun q hq => ?_, Or.inr rfl, fun c h8 h9 => by dsimp only; funext z; rw [mupd_ne _ _ h9, mupd_ne _ _ h8]⟩
    dsimp only
    rw [mupd_ne _ _ (show (338 : Nat) ≠ 339 by omega)]
    by_cases hqt : q = t
    · subst hqt
      rw [mupd_same, mupd_same]
      unfold vset prs
      rw [if_pos rfl, if_pos rfl]
      exact ⟨rfl, hb⟩
    · rw [mupd_ne2 _ _ hqt, mupd_ne2 _ _ hqt, mupd_ne _ _ (show (339 : Nat) ≠ 338 by omega)]
      unfold vset prs
      rw [if_neg hqt, if_neg hqt]
      exact hD q hq
  · have er : rlx N a S = S := by
      unfold rlx
      rw [hf, ht, hp, if_neg (fun g => h2 g.2)]
    rw [er]
    exact ⟨hD, Or.inl ⟨rfl, rfl⟩, fun c _ _ => rfl⟩
  · have er : rlx N a S = S := by
      unfold rlx
      rw [hf, ht, hp, if_neg (fun g => h1 g.1)]
    rw [er]
    exact ⟨hD, Or.inl ⟨rfl, rfl⟩, fun c _ _ => rfl⟩
theorem rE_no {N : NW} {x : Nat → Int} {e : Nat} {S : DP} (h : ¬ N.ok e = true) : rE N x e S = S := by unfold rE; rw [if_neg h]
theorem X_findWays {T : TW} {R : Nat → RL} {v s x π : Nat → Int} {M : KM} (h : WC T R v M) (ho : WO T R v) (hs : ∀ p, p < 8 → M 333 p = s p) (hx : ∀ f : Nat, (f : Int) < T 0 1 → M 337 f = x f) (hd : (netC T v).dual x π) : Ret (f_Roads_findWays (v 16) M) (fun q => DPC (rnds (netC T v) x (dp0 s) 8) q ∧ ∀ c, c ≠ 338 → c ≠ 339 → q c = M c) := by
  have o := ho.1.1
  have hN := netC_wf ho.1 v
  have hK : (netC T v).K = (T 0 1).toNat := rfl
  have hW : (netC T v).W = 99 := rfl
  unfold f_Roads_findWays
  refine Ret.bind (R := fun M1 => DPC (dp0 s) M1 ∧ ∀ c, c ≠ 338 → c ≠ 339 → M1 c = M c) (Ret.loop 8 (fun i t => t.1 = (i : Int) ∧ (∀ q, q < i → t.2 338 q = (dp0 s).1 q ∧ t.2 339 q = -1) ∧ ∀ c, c ≠ 338 → c ≠ 339 → t.2 c = M c) ⟨rfl, fun j hj => absurd hj (Nat.not_lt_zero _), fun c _ _ => rfl⟩ ?_ ?_) ?_
  · rintro i t hi ⟨k1, k2, k3⟩
    have e3 : t.2 333 i = s i := by rw [k3 333 (by omega) (by omega)]; exact hs i hi
    rw [k1, w32e (n := (i : Int) + 1) (by omega) (by omega), atM_nat _ _ _ hi, e3]
    refine Ret.t (by omega) ?_
    refine Ret.bind (R := fun y => y = (dp0 s).1 i) (Ret.br (fun hc => Ret.pure ?_) (fun hc => Ret.pure ?_)) ?_
    · exact (if_neg (by omega)).symm
    · exact (if_pos (by omega)).symm
    rintro y rfl
    rw [putM_nat _ _ _ _ hi]
    refine Ret.letM (Ret.letM (Ret.pure ⟨rfl, fun q hq => ?_, fun c h8 h9 => ?_⟩))
    · dsimp only
      rw [putM_nat _ _ _ _ hi, mupd_ne _ _ (show (338 : Nat) ≠ 339 by omega)]
      by_cases hqi : q = i
      · subst hqi; rw [mupd_same, mupd_same]; exact ⟨rfl, rfl⟩
      · rw [mupd_ne2 _ _ hqi, mupd_ne2 _ _ hqi, mupd_ne _ _ (show (339 : Nat) ≠ 338 by omega)]; exact k2 q (by omega)
    · dsimp only
      rw [putM_nat _ _ _ _ hi]
      funext z; rw [mupd_ne _ _ h9, mupd_ne _ _ h8, k3 c h8 h9]
  · rintro t ⟨k1, k2, k3⟩
    rw [k1]
    exact Ret.f (by omega) (Ret.pure ⟨fun q hq => k2 q hq, k3⟩)
  rintro M1 ⟨z1, z2⟩
  have B0 := BFI_0 (netC T v) hN x s π
  have Br := BFI_rnds hN hd B0
  have tk : ∀ k : Nat, k ≤ 8 → ((2 * (netC T v).K * k : Nat) : Int) * (netC T v).W ≤ 31680 := fun k hk => by
    rw [hK, hW]
    have : 2 * (T 0 1).toNat * k ≤ 40 * 8 := Nat.mul_le_mul (by omega) hk
    omega
  refine Ret.bind (R := fun M2 => DPC (rnds (netC T v) x (dp0 s) 8) M2 ∧ ∀ c, c ≠ 338 → c ≠ 339 → M2 c = M c) ?_ (fun M2 hM => Ret.pure hM)
  refine Ret.loop 8 (fun k t => t.2.1 = (k : Int) ∧ (t.1 = 0 ∧ (∀ j, k ≤ j → rnds (netC T v) x (dp0 s) j = rnds (netC T v) x (dp0 s) k) ∨ t.1 = 1) ∧ DPC (rnds (netC T v) x (dp0 s) k) t.2.2 ∧ ∀ c, c ≠ 338 → c ≠ 339 → t.2.2 c = M c) ⟨rfl, Or.inr rfl, z1, z2⟩ ?_ ?_
  · rintro k t hk ⟨k1, k2, k3, k4⟩
    rw [k1, w32e (n := (k : Int) + 1) (by omega) (by omega)]
    refine Ret.t (by omega) (Ret.br (fun h0 => Ret.pure ?_) (fun h0 => ?_))
    · rcases k2 with ⟨k2, k5⟩ | k2
      · show DPC _ _ ∧ _
        rw [k5 8 (by omega)]; exact ⟨k3, k4⟩
      · omega
    have Bk := Br k (by have := tk k (by omega); omega)
    generalize hS : rnds (netC T v) x (dp0 s) k = S at k3 Bk
    have part : ∀ e, e ≤ (netC T v).K → DPR 40000 (itF (rE (netC T v) x) S e) := fun e he => by
      have e1 : 2 * (netC T v).K * k + 2 * e ≤ 320 := by
        have : 2 * (netC T v).K * (k + 1) ≤ 40 * 8 := Nat.mul_le_mul (by omega) (by omega)
        rw [Nat.mul_succ] at this; omega
      have e2 : ((2 * (netC T v).K * k + 2 * e : Nat) : Int) * (netC T v).W ≤ 31680 := by rw [hW]; omega
      exact (BFI_part hN hd Bk he (by omega)).R (by omega)
    refine Ret.bind (R := fun e => DPC (rnd (netC T v) x S) e.2 ∧ ((e.1 = 0 ∧ rnd (netC T v) x S = S) ∨ e.1 = 1) ∧ ∀ c, c ≠ 338 → c ≠ 339 → e.2 c = M c) ?_ ?_
    · refine Ret.loop (T 0 1).toNat (fun f u => u.2.1 = (f : Int) ∧ DPC (itF (rE (netC T v) x) S f) u.2.2 ∧ ((u.1 = 0 ∧ itF (rE (netC T v) x) S f = S) ∨ u.1 = 1) ∧ ∀ c, c ≠ 338 → c ≠ 339 → u.2.2 c = M c) ⟨rfl, k3, Or.inl ⟨rfl, rfl⟩, k4⟩ ?_ ?_
      · rintro f u hf ⟨u1, u2, u3, u4⟩
        have hf' : (f : Int) < T 0 1 := by omega
        have hw : WC T R v u.2.2 := h.congr fun k j hk => by rw [u4 k (by unfold pN at hk; omega) (by unfold pN at hk; omega)]
        have hokt := ho.1.2.2.1 f hf'
        have a5 := hw.from_ ho (f := f) (by omega) hf'
        have a6 := hw.to ho (f := f) (by omega) hf'
        have a7 := hw.price ho (f := f) (by omega) hf'
        rw [Int.toNat_natCast] at a5 a6 a7
        obtain ⟨p, hp⟩ := Int.eq_ofNat_of_zero_le hokt.1
        obtain ⟨q, hq⟩ := Int.eq_ofNat_of_zero_le hokt.2.2.1
        have efr : (netC T v).fr f = p := by show (T 5 f).toNat = p; omega
        have eto : (netC T v).to f = q := by show (T 6 f).toNat = q; omega
        have ew : (netC T v).w f = T 7 f := rfl
        have eok : (netC T v).ok f = (sfA v p && sfA v q) := by show (sfA v (T 5 f).toNat && sfA v (T 6 f).toNat) = _; rw [show (T 5 f).toNat = p by omega, show (T 6 f).toNat = q by omega]
        have hRf := part f (by omega)
        have es : itF (rE (netC T v) x) S (f + 1) = rE (netC T v) x f (itF (rE (netC T v) x) S f) := rfl
        rw [u1, letI_e, letI_e, letI_e, hw.friends, a5, a6, a7, hp, hq, alv_in ho.2, alv_in ho.2, w32e (n := (f : Int) + 1) (by omega) (by omega), w32e (n := (f : Int) + 20) (by omega) (by omega), w32e (n := -T 7 f) (by omega) (by omega)]
        refine Ret.t hf' ?_
        refine Ret.bind (R := fun e => DPC (itF (rE (netC T v) x) S (f + 1)) e.2 ∧ ((e.1 = 0 ∧ itF (rE (netC T v) x) S (f + 1) = S) ∨ e.1 = 1) ∧ ∀ c, c ≠ 338 → c ≠ 339 → e.2 c = M c) ?_ (fun e he => Ret.pure ⟨rfl, he.1, he.2.1, he.2.2⟩)
        rw [es]
        generalize hSf : itF (rE (netC T v) x) S f = Sf at u2 u3 hRf
        by_cases hok : (netC T v).ok f = true
        · have hok2 := hok
          rw [eok, Bool.and_eq_true] at hok2
          refine Ret.f (by rw [if_pos hok2.1]; omega) (Ret.f (by rw [if_pos hok2.2]; omega) ?_)
          refine Ret.bind (X_improve (N := netC T v) (a := (f, false)) u2 hRf efr eto (by omega) (by omega) (pr := T 7 f) rfl (by omega) rfl) ?_
          rintro q11 ⟨g1, g2, g3⟩
          have ex : atM q11.2 337 20 (f : Int) = x f := by
            rw [atM_nat _ _ _ (by omega), g3 337 (by omega) (by omega), u4 337 (by omega) (by omega)]; exact hx f hf'
          rw [ex]
          refine Ret.letI ?_
          have B1 : DPR 40000 (rlx (netC T v) (f, false) Sf) := by
            have e1 : 2 * (netC T v).K * k + 2 * f + 1 ≤ 320 := by
              have : 2 * (netC T v).K * (k + 1) ≤ 40 * 8 := Nat.mul_le_mul (by omega) (by omega)
              rw [Nat.mul_succ] at this; omega
            have e2 : ((2 * (netC T v).K * k + 2 * f : Nat) : Int) * (netC T v).W ≤ 31680 := by rw [hW]; omega
            have e3 : ((2 * (netC T v).K * k + 2 * f + 1 : Nat) : Int) * (netC T v).W ≤ 31680 := by rw [hW]; omega
            have Bf := BFI_part hN hd Bk (e := f) (by omega) (by omega)
            rw [hSf] at Bf
            exact (BFI_rlx hN hd Bf (a := (f, false)) ⟨by omega, hok, fun z => by cases z⟩ (by omega)).R (by omega)
          unfold rE
          rw [if_pos hok]
          by_cases hxf : 0 < x f
          · rw [if_pos hxf]
            refine Ret.bind (R := fun e => DPC (rlx (netC T v) (f, true) (rlx (netC T v) (f, false) Sf)) e.2 ∧ ((e.1 = 0 ∧ rlx (netC T v) (f, true) (rlx (netC T v) (f, false) Sf) = rlx (netC T v) (f, false) Sf) ∨ e.1 = 1) ∧ ∀ c, c ≠ 338 → c ≠ 339 → e.2 c = M c) ?_ ?_
            · refine Ret.f (by omega) ?_
              refine Ret.bind (X_improve (N := netC T v) (a := (f, true)) g1 B1 eto efr (by omega) (by omega) (pr := -T 7 f) rfl (by omega) rfl) ?_
              rintro q13 ⟨h1, h2, h3⟩
              have hfr : ∀ c, c ≠ 338 → c ≠ 339 → q13.2 c = M c := fun c h8 h9 => by rw [h3 c h8 h9, g3 c h8 h9, u4 c h8 h9]
              refine Ret.br (fun hc => Ret.pure ⟨h1, Or.inl ⟨rfl, ?_⟩, hfr⟩) (fun hc => Ret.pure ⟨h1, Or.inr rfl, hfr⟩)
              rcases h2 with h2 | h2
              · exact h2.2
              · omega
            · rintro e ⟨e1, e2, e3⟩
              refine Ret.letI (Ret.pure ⟨e1, ?_, e3⟩)
              dsimp only
              rcases u3 with ⟨u3, u5⟩ | u3
              · rcases g2 with ⟨g2, g4⟩ | g2
                · rcases e2 with ⟨e2, e4⟩ | e2
                  · rw [u3, g2, e2]
                    exact Or.inl ⟨by rw [kior01.1]; exact kior01.1, by rw [e4, g4, u5]⟩
                  · rw [u3, g2, e2]
                    exact Or.inr (by rw [kior01.1]; exact kior01.2.1)
                · rcases e2 with ⟨e2, e4⟩ | e2
                  · rw [u3, g2, e2]; exact Or.inr (by rw [kior01.2.1]; exact kior01.2.2.1)
                  · rw [u3, g2, e2]; exact Or.inr (by rw [kior01.2.1]; exact kior01.2.2.2)
              · have t1 : kior u.1 q11.1 = 1 := by
                  rw [u3]
                  rcases g2 with ⟨g2, _⟩ | g2
                  · rw [g2]; exact kior01.2.2.1
                  · rw [g2]; exact kior01.2.2.2
                rw [t1]
                rcases e2 with ⟨e2, _⟩ | e2
                · rw [e2]; exact Or.inr kior01.2.2.1
                · rw [e2]; exact Or.inr kior01.2.2.2
          · rw [if_neg hxf]
            refine Ret.bindE (Ret.some_of (Ret.t (by omega) (Ret.pure rfl))) ?_
            refine Ret.letI (Ret.pure ⟨g1, ?_, fun c h8 h9 => by dsimp only; rw [g3 c h8 h9, u4 c h8 h9]⟩)
            dsimp only
            rcases u3 with ⟨u3, u5⟩ | u3
            · rcases g2 with ⟨g2, g4⟩ | g2
              · rw [u3, g2]
                exact Or.inl ⟨by rw [kior01.1]; exact kior01.1, by rw [g4, u5]⟩
              · rw [u3, g2]
                exact Or.inr (by rw [kior01.2.1]; exact kior01.2.2.1)
            · have t1 : kior u.1 q11.1 = 1 := by
                rw [u3]
                rcases g2 with ⟨g2, _⟩ | g2
                · rw [g2]; exact kior01.2.2.1
                · rw [g2]; exact kior01.2.2.2
              rw [t1]
              exact Or.inr kior01.2.2.1
        · have no : Ret (some (u.1, u.2.2)) (fun e : Int × KM => DPC (rE (netC T v) x f Sf) e.2 ∧ ((e.1 = 0 ∧ rE (netC T v) x f Sf = S) ∨ e.1 = 1) ∧ ∀ c, c ≠ 338 → c ≠ 339 → e.2 c = M c) := Ret.pure (by rw [rE_no hok]; exact ⟨u2, u3, u4⟩)
          by_cases hp1 : sfA v p = true
          · refine Ret.f (by rw [if_pos hp1]; omega) (Ret.t (by rw [if_neg (fun q => hok (by rw [eok, hp1, q]; rfl))]) no)
          · exact Ret.t (by rw [if_neg hp1]) no
      · rintro u ⟨u1, u2, u3, u4⟩
        have hw : WC T R v u.2.2 := h.congr fun k j hk => by rw [u4 k (by unfold pN at hk; omega) (by unfold pN at hk; omega)]
        rw [u1, hw.friends]
        exact Ret.f (by omega) (Ret.pure ⟨u2, u3, u4⟩)
    · rintro e ⟨e1, e2, e3⟩
      have es : rnds (netC T v) x (dp0 s) (k + 1) = rnd (netC T v) x S := by rw [← hS]; rfl
      refine Ret.pure ⟨rfl, ?_, by rw [es]; exact e1, e3⟩
      dsimp only
      rcases e2 with ⟨e2, e4⟩ | e2
      · refine Or.inl ⟨e2, fun j hj => ?_⟩
        rw [es]
        have key : ∀ d, rnds (netC T v) x (dp0 s) (k + 1 + d) = rnd (netC T v) x S := by
          intro d
          induction d with
          | zero => exact es
          | succ d ih =>
            show rnd (netC T v) x (rnds (netC T v) x (dp0 s) (k + 1 + d)) = _
            rw [ih, e4, e4]
        have := key (j - (k + 1))
        rwa [show k + 1 + (j - (k + 1)) = j by omega] at this
      · exact Or.inr e2
  · rintro t ⟨k1, k2, k3, k4⟩
    rw [k1]
    exact Ret.f (by omega) (Ret.pure ⟨k3, k4⟩)
