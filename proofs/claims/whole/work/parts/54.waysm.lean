/-! CHEAPEST: the second side's ways -/
theorem M_miss8 {b : Nat} {T : TW} {R : Nat → RL} {v : Nat → Int} {tg : Nat → Bool} {ta : Nat → Int} {M : KM} (h : WM b T R v M) (ho : WO T R v) (hG : GM_ tg ta M) (hok : okG T tg ta) {p : Nat} (hp : p < 8) : f_M_missing (p : Int) M = some (misV v tg ta p) := by
  by_cases hpn : (p : Int) < T 0 0
  · exact M_missing h ho hG hok hpn
  · have ht : ¬ tg p = true := fun q => hpn (hok p q).1
    refine Ret.some_of ?_
    unfold f_M_missing
    rw [Int.toNat_natCast, hG p hp, if_neg ht]
    refine Ret.t (by omega) (Ret.bind (R := fun y => y = misV v tg ta p) (Ret.t (by omega) (Ret.pure ?_)) (fun y hy => Ret.pure hy))
    unfold misV
    rw [if_neg (fun q => ht q.1)]
def encT (N : NW) (o : Option ARC) : Int := match o with
  | none => -1
  | some a => ((N.tl a : Nat) : Int)
def DPM (N : NW) (S : DP) (M : KM) : Prop := ∀ q, q < 8 → M 417 q = S.1 q ∧ M 418 q = encT N (S.2 q)
theorem rlx_no {N : NW} {a : ARC} {S : DP} (h : ¬ (S.1 (N.tl a) < 100000000 ∧ S.1 (N.tl a) + N.ct a < S.1 (N.hd a))) : rlx N a S = S := by unfold rlx; rw [if_neg h]
theorem rlx_yes {N : NW} {a : ARC} {S : DP} (h : S.1 (N.tl a) < 100000000 ∧ S.1 (N.tl a) + N.ct a < S.1 (N.hd a)) : rlx N a S = (vset S.1 (N.hd a) (S.1 (N.tl a) + N.ct a), prs S.2 (N.hd a) a) := by unfold rlx; rw [if_pos h]
theorem DPM_set {N : NW} {S : DP} {M : KM} (h : DPM N S M) {a : ARC} {f t : Nat} (hf : N.tl a = f) (ht : N.hd a = t) {y : Int} : DPM N (vset S.1 t y, prs S.2 t a) (mupd (mupd M 417 t y) 418 t (f : Int)) := fun q hq => by
  dsimp only
  rw [mupd_ne _ _ (show (417 : Nat) ≠ 418 by omega)]
  unfold vset prs
  by_cases hqt : q = t
  · subst hqt
    rw [mupd_same, mupd_same, if_pos rfl, if_pos rfl]
    exact ⟨rfl, by show (f : Int) = ((N.tl a : Nat) : Int); rw [hf]⟩
  · rw [mupd_ne2 _ _ hqt, mupd_ne2 _ _ hqt, mupd_ne _ _ (show (418 : Nat) ≠ 417 by omega), if_neg hqt, if_neg hqt]
    exact h q hq
/-- what the second side's search leaves as it is -/
def wayF (M M' : KM) : Prop := ∀ c, c ≠ 417 → c ≠ 418 → M' c = M c
theorem M_layCheap {b : Nat} {T : TW} {R : Nat → RL} {v s x π : Nat → Int} {tg : Nat → Bool} {ta : Nat → Int} {M : KM} (h : WM b T R v M) (ho : WO T R v) (hG : GM_ tg ta M) (hok : okG T tg ta) (hsq : SQ 413 (rdK T v 8) M) (hs : ∀ p, p < 8 → M 415 p = s p) (hx : ∀ e, e < 64 → M 416 e = x e) (hx0 : ∀ e, e < 64 → (netR T v (sprV v tg ta)).ok e = false → x e = 0) (hd : (netR T v (sprV v tg ta)).dual x π) :
    Ret (f_M_layCheap M) (fun q => DPM (netR T v (sprV v tg ta)) (rnds (netR T v (sprV v tg ta)) x (dp0 s) 16) q ∧ wayF M q) := by
  have o := ho.1.1
  have hN := netR_wf ho.1 v (sprV v tg ta)
  have nR : ∀ {p q : Nat}, p < 8 → q < 8 → _ := fun {p q} hp hq => netR_ok (T := T) (v := v) (s0 := sprV v tg ta) (a := p) (b := q) hp hq
  have hK : (netR T v (sprV v tg ta)).K = 64 := rfl
  have hW : (netR T v (sprV v tg ta)).W = 25344 := rfl
  generalize hNN : netR T v (sprV v tg ta) = N at *
  have cw : ∀ M', wayF M M' → WM b T R v M' ∧ GM_ tg ta M' := fun M' hM => ⟨h.congr fun k j hk => by rw [hM k (by unfold pR at hk; omega) (by unfold pR at hk; omega)], fun p hp => by rw [hM 414 (by omega) (by omega)]; exact hG p hp⟩
  unfold f_M_layCheap
  refine Ret.bind (R := fun M1 => DPM N (dp0 s) M1 ∧ wayF M M1) (Ret.loop 8 (fun i t => t.1 = (i : Int) ∧ (∀ q, q < i → t.2 417 q = (dp0 s).1 q ∧ t.2 418 q = -1) ∧ wayF M t.2) ⟨rfl, fun j hj => absurd hj (Nat.not_lt_zero _), fun c _ _ => rfl⟩ ?_ ?_) ?_
  · rintro i t hi ⟨k1, k2, k3⟩
    have e3 : t.2 415 i = s i := by rw [k3 415 (by omega) (by omega)]; exact hs i hi
    rw [k1, w32e (n := (i : Int) + 1) (by omega) (by omega), Int.toNat_natCast, e3]
    refine Ret.t (by omega) (Ret.t (by omega) ?_)
    refine Ret.bind (R := fun y => y = (dp0 s).1 i) (Ret.br (fun hc => Ret.pure ?_) (fun hc => Ret.pure ?_)) ?_
    · exact (if_neg (by omega)).symm
    · exact (if_pos (by omega)).symm
    rintro y rfl
    refine Ret.t (by omega) (Ret.letM (Ret.t (by omega) (Ret.letM (Ret.pure ⟨rfl, fun q hq => ?_, fun c h8 h9 => ?_⟩))))
    · dsimp only
      rw [mupd_ne _ _ (show (417 : Nat) ≠ 418 by omega)]
      by_cases hqi : q = i
      · subst hqi; rw [mupd_same, mupd_same]; exact ⟨rfl, rfl⟩
      · rw [mupd_ne2 _ _ hqi, mupd_ne2 _ _ hqi, mupd_ne _ _ (show (418 : Nat) ≠ 417 by omega)]; exact k2 q (by omega)
    · dsimp only
      funext z; rw [mupd_ne _ _ h9, mupd_ne _ _ h8, k3 c h8 h9]
  · rintro t ⟨k1, k2, k3⟩
    rw [k1]
    exact Ret.f (by omega) (Ret.pure ⟨fun q hq => k2 q hq, k3⟩)
  rintro M1 ⟨z1, z2⟩
  have Br := BFI_rnds hN hd (BFI_0 N hN x s π)
  refine Ret.bind (R := fun M2 => DPM N (rnds N x (dp0 s) 16) M2 ∧ wayF M M2) ?_ (fun M2 hM => Ret.pure hM)
  refine Ret.loop 16 (fun k t => t.1 = (k : Int) ∧ DPM N (rnds N x (dp0 s) k) t.2 ∧ wayF M t.2) ⟨rfl, z1, z2⟩ ?_ ?_
  · rintro k t hk ⟨k1, k2, k3⟩
    rw [k1, w32e (n := (k : Int) + 1) (by omega) (by omega)]
    refine Ret.t (by omega) ?_
    have Bk := Br k (by rw [hK, hW]; omega)
    have es : rnds N x (dp0 s) (k + 1) = itF (rE N x) (rnds N x (dp0 s) k) 64 := by
      show itF (rE N x) (rnds N x (dp0 s) k) N.K = _
      rw [hK]
    rw [es]
    generalize rnds N x (dp0 s) k = S at k2 Bk ⊢
    have part : ∀ e, e ≤ 64 → DPR 60000000 (itF (rE N x) S e) := fun e he => (BFI_part hN hd Bk (e := e) (by rw [hK]; exact he) (by rw [hK, hW]; omega)).R (by rw [hK, hW]; omega)
    have partF : ∀ e, e < 64 → N.ok e = true → DPR 60000000 (rlx N (e, false) (itF (rE N x) S e)) := fun e he hoe => (BFI_rlx hN hd (BFI_part hN hd Bk (e := e) (by rw [hK]; omega) (by rw [hK, hW]; omega)) (a := (e, false)) ⟨by rw [hK]; exact he, hoe, fun z => by cases z⟩ (by rw [hK, hW]; omega)).R (by rw [hK, hW]; omega)
    refine Ret.bind (R := fun M2 => DPM N (itF (rE N x) S 64) M2 ∧ wayF M M2) ?_ (fun M2 hM => Ret.pure ⟨rfl, hM⟩)
    refine Ret.loop 8 (fun p u => u.1 = (p : Int) ∧ DPM N (itF (rE N x) S (8 * p)) u.2 ∧ wayF M u.2) ⟨rfl, k2, k3⟩ ?_ ?_
    · rintro p u hp ⟨u1, u2, u3⟩
      rw [u1, w32e (n := (p : Int) + 1) (by omega) (by omega)]
      refine Ret.t (by omega) ?_
      refine Ret.bind (R := fun M2 => DPM N (itF (rE N x) S (8 * p + 8)) M2 ∧ wayF M M2) ?_ (fun M2 hM => Ret.pure ⟨rfl, by rw [show 8 * (p + 1) = 8 * p + 8 by omega]; exact hM.1, hM.2⟩)
      refine Ret.loop 8 (fun q w => w.1 = (q : Int) ∧ DPM N (itF (rE N x) S (8 * p + q)) w.2 ∧ wayF M w.2) ⟨rfl, u2, u3⟩ ?_ ?_
      · rintro q w hq ⟨w1, w2, w3⟩
        obtain ⟨n1, n2, n3⟩ := nR hp hq
        have hcw := cw w.2 w3
        have w8' := w8 hp hq
        have hRf := part (8 * p + q) (by omega)
        have es2 : itF (rE N x) S (8 * p + (q + 1)) = rE N x (8 * p + q) (itF (rE N x) S (8 * p + q)) := rfl
        have hro := fun hoe => partF (8 * p + q) (by omega) hoe
        have e413 : w.2 413 (8 * p + q) = rdK T v 8 p q := by rw [w3 413 (by omega) (by omega)]; exact hsq p q hp hq
        have rk := rdK_8 ho.1 v p q
        have hxe : w.2 416 (8 * p + q) = x (8 * p + q) := by rw [w3 416 (by omega) (by omega)]; exact hx _ (by omega)
        have hxz := hx0 (8 * p + q) (by omega)
        rw [es2]
        generalize itF (rE N x) S (8 * p + q) = Sf at w2 hRf hro ⊢
        rw [w1, w32e (n := (q : Int) + 1) (by omega) (by omega), M_miss8 hcw.1 ho hcw.2 hok hp, ob_some, M_miss8 hcw.1 ho hcw.2 hok hq, ob_some, w8'.1, Int.toNat_natCast, Int.toNat_natCast, Int.toNat_natCast, e413, letI_e]
        refine Ret.t (by omega) ?_
        have sp : sprV v tg ta p = -misV v tg ta p := rfl
        have sq : sprV v tg ta q = -misV v tg ta q := rfl
        refine Ret.bind (R := fun M2 => DPM N (rE N x (8 * p + q) Sf) M2 ∧ wayF M M2) ?_ (fun M2 hM => Ret.pure ⟨rfl, hM⟩)
        have skip : ¬ N.ok (8 * p + q) = true → Ret (some w.2) (fun M2 : KM => DPM N (rE N x (8 * p + q) Sf) M2 ∧ wayF M M2) := fun hno => Ret.pure (by rw [rE_no hno]; exact ⟨w2, w3⟩)
        refine Ret.br (fun hm1 => Ret.br (fun hm2 => skip fun hoe => ?_) fun hm2 => ?_) (fun hm1 => skip fun hoe => ?_)
        · have := n3.mp hoe; omega
        · refine Ret.t (by omega) ?_
          have d1 := w2 p hp
          have d2 := w2 q hq
          have r1 := hRf p hp
          have r2 := hRf q hq
          have efr : N.tl (8 * p + q, false) = p := n1.2.1
          have eto : N.hd (8 * p + q, false) = q := n1.2.2
          have efr' : N.hd (8 * p + q, true) = p := n1.2.1
          have eto' : N.tl (8 * p + q, true) = q := n1.2.2
          have ect : N.ct (8 * p + q, false) = rdK T v 8 p q := n2
          have ect' : N.ct (8 * p + q, true) = -rdK T v 8 p q := by show -N.w (8 * p + q) = _; rw [n2]
          by_cases hmu : rdK T v 8 p q < 100000000
          · have hoe : N.ok (8 * p + q) = true := n3.mpr ⟨by omega, by omega, hmu⟩
            have rk2 : rdK T v 8 p q ≤ 25344 := by omega
            refine Ret.bind (R := fun M2 => DPM N (rlx N (8 * p + q, false) Sf) M2 ∧ wayF M M2) ?_ ?_
            · refine Ret.t hmu (Ret.t (by omega) (Ret.t (by omega) ?_))
              rw [d1.1, d2.1, w32e (n := Sf.1 p + rdK T v 8 p q) (by omega) (by omega)]
              refine Ret.br (fun hlt => Ret.t (by omega) (Ret.t (by omega) (Ret.letM (Ret.t (by omega) (Ret.letM (Ret.pure ⟨?_, fun c h7 h8 => ?_⟩)))))) (fun hge => Ret.pure ⟨?_, w3⟩)
              · rw [rlx_yes (by rw [efr, eto, ect]; omega), efr, eto, ect]
                exact DPM_set w2 efr eto
              · funext z; rw [mupd_ne _ _ h8, mupd_ne _ _ h7, w3 c h7 h8]
              · rw [rlx_no (by rw [efr, eto, ect]; omega)]; exact w2
            · rintro M2 ⟨g1, g2⟩
              have hxe2 : M2 416 (8 * p + q) = x (8 * p + q) := by rw [g2 416 (by omega) (by omega)]; exact hx _ (by omega)
              rw [hxe2]
              unfold rE
              rw [if_pos hoe]
              refine Ret.t (by omega) (Ret.br (fun hx1 => Ret.pure ?_) (fun hx1 => Ret.t (by omega) ?_))
              · rw [if_neg (show ¬ 0 < x (8 * p + q) by omega)]; exact ⟨g1, g2⟩
              · rw [if_pos (show 0 < x (8 * p + q) by omega)]
                have hR2 := hro hoe
                generalize rlx N (8 * p + q, false) Sf = S2 at g1 hR2 ⊢
                have f1 := g1 p hp
                have f2 := g1 q hq
                have r3 := hR2 p hp
                have r4 := hR2 q hq
                rw [f1.1, f2.1, w32e (n := S2.1 q - rdK T v 8 p q) (by omega) (by omega)]
                have stay : ¬ (S2.1 q < 100000000 ∧ S2.1 q - rdK T v 8 p q < S2.1 p) → Ret (some M2) (fun M2 : KM => DPM N (rlx N (8 * p + q, true) S2) M2 ∧ wayF M M2) := fun hno => Ret.pure (by rw [rlx_no (by rw [efr', eto', ect']; omega)]; exact ⟨g1, g2⟩)
                refine Ret.br (fun hlt => Ret.t (by omega) (Ret.t (by omega) (Ret.br (fun hl2 => Ret.t (by omega) (Ret.t (by omega) (Ret.letM (Ret.t (by omega) (Ret.letM (Ret.pure ⟨?_, fun c h7 h8 => ?_⟩)))))) (fun hl2 => stay fun q => hl2 q.2)))) (fun hge => stay fun q => hge q.1)
                · rw [rlx_yes (by rw [efr', eto', ect']; omega), efr', eto', ect', show S2.1 q + -rdK T v 8 p q = S2.1 q - rdK T v 8 p q by omega]
                  exact DPM_set g1 eto' efr'
                · funext z; rw [mupd_ne _ _ h8, mupd_ne _ _ h7, g2 c h7 h8]
          · have hno : ¬ N.ok (8 * p + q) = true := fun hoe => hmu (n3.mp hoe).2.2
            have hz : x (8 * p + q) = 0 := hxz (by cases hq2 : N.ok (8 * p + q) with
              | false => rfl
              | true => exact absurd hq2 hno)
            refine Ret.bind (R := fun M2 => M2 = w.2) (Ret.f hmu (Ret.pure rfl)) ?_
            rintro M2 rfl
            rw [hxe, hz]
            exact Ret.t (by omega) (Ret.t (by omega) (skip hno))
        · have := n3.mp hoe; omega
      · rintro w ⟨w1, w2, w3⟩
        rw [w1]
        exact Ret.f (by omega) (Ret.pure ⟨w2, w3⟩)
    · rintro u ⟨u1, u2, u3⟩
      rw [u1]
      exact Ret.f (by omega) (Ret.pure ⟨u2, u3⟩)
  · rintro t ⟨k1, k2, k3⟩
    rw [k1]
    exact Ret.f (by omega) (Ret.pure ⟨k2, k3⟩)
