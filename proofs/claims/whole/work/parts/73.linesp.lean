/-! LINES: the second side: rules; a line -/
def pRu (rb bs r k j : Nat) : Prop := pExm rb bs k j ∨ ((k = 400 ∨ k = 401 ∨ k = 403) ∧ j = 7 * rb + r)
theorem pRu_LM {rb bs r : Nat} (hb : 560 * rb ≤ bs) (hr : r < 7) : ∀ k j, pRu rb bs r k j → pLM rb k j := fun k j h => by
  rcases h with h | ⟨h, e⟩
  · exact pExm_LM hb k j h
  · exact Or.inr (Or.inr (Or.inr (Or.inr (Or.inl ⟨h, by omega, by omega⟩))))
/-- a rule that was read -/
def RUL (W : Nat → Int) (n rb bs r : Nat) (x : Nat × Nat × RL) (M : KM) : Prop := RM W n (x.1 - 1) M ∧ 1 ≤ x.1 ∧ kdJ W n (x.1 - 1) = 59 ∧ M 388 rb = (x.2.1 : Int) ∧ M 382 39 = ((bs + x.2.2.length : Nat) : Int) ∧ M 400 (7 * rb + r) = (bs : Int) ∧ M 401 (7 * rb + r) = ((bs + x.2.2.length : Nat) : Int) ∧ M 403 (7 * rb + r) = 1 ∧ (∀ i q, x.2.2[i]? = some q → M 406 (bs + i) = q.1 ∧ M 407 (bs + i) = q.2)
/-- .. or was not: told so, or told so at the ";" -/
def NUL (W : Nat → Int) (n : Nat) (e : Int × Nat) (M : KM) : Prop := (fM e.1 e.2 M ∧ e.1 ≠ 0) ∨ ∃ s : PSt, RM W n s.1 M ∧ kdJ W n s.1 ≠ 59 ∧ e = (f2 W n s.1, plS W n s.1)
theorem M_readRule {W : Nat → Int} {n J rb j ln r U bs cb : Nat} {T : TW} {R : Nat → RL} {NP NR : List (List Int)} {dr : Bool} {M : KM} (hJ : lastT W n J) (hn : n ≤ 1600) (hV : ∀ p, tkK W n p = 2 → 0 ≤ tkV W n p ∧ tkV W n p ≤ 9999) (hW : TXR W) (hrb : rb < 2) (hP : LTP T R NP NR ln) (hr : RM W n j M) (h : LMd rb ln T R NP NR dr M) (hj : j ≤ J) (hr7 : r < 7) (hU : T 0 6 = (U : Int)) (hbs : M 382 39 = (bs : Int)) (hcb : bs = 560 * rb + cb) :
    Ret (f_M_readRule (r : Int) M) (fun q => Sum.elim (fun e => NUL W n e q) (fun x => RUL W n rb bs r x q ∧ cb + x.2.2.length ≤ 9 * x.2.1 ∧ x.2.1 ≤ 60) (rulP W n j U) ∧ Fp (pRu rb bs r) M q) := by
  have o := hP.1.1
  have b0 := h.1
  have rw0 := h.rw
  have hcb9 : cb ≤ 9 * U := by have := h.2.2.2.2.2.2.1.2; omega
  unfold f_M_readRule
  rw [letM_e, mupd_ne2 _ _ (show (38 : Nat) ≠ 42 by omega), b0, w32e (n := 7 * (rb : Int)) (by omega) (by omega), w32e (n := 7 * (rb : Int) + r) (by omega) (by omega), show (7 * (rb : Int) + r).toNat = 7 * rb + r by omega]
  refine Ret.t ⟨by omega, by omega⟩ ?_
  rw [letM_e, mupd_ne _ _ (show (382 : Nat) ≠ 403 by omega), mupd_ne2 _ _ (show (38 : Nat) ≠ 42 by omega), b0, w32e (n := 7 * (rb : Int)) (by omega) (by omega), w32e (n := 7 * (rb : Int) + r) (by omega) (by omega), show (7 * (rb : Int) + r).toNat = 7 * rb + r by omega, mupd_ne _ _ (show (382 : Nat) ≠ 403 by omega), mupd_ne2 _ _ (show (39 : Nat) ≠ 42 by omega), hbs]
  refine Ret.t (by omega) ?_
  have f3 : Fp (pRu rb bs r) M (mupd (mupd (mupd M 382 42 0) 403 (7 * rb + r) 1) 400 (7 * rb + r) (bs : Int)) := ((Fp.rf.upd (Or.inl (Or.inl ⟨rfl, by omega⟩))).upd (Or.inr ⟨by omega, rfl⟩)).upd (Or.inr ⟨by omega, rfl⟩)
  have e42 : mupd (mupd (mupd M 382 42 0) 403 (7 * rb + r) 1) 400 (7 * rb + r) (bs : Int) 382 42 = 0 := by rw [mupd_ne _ _ (by omega), mupd_ne _ _ (by omega), mupd_same]
  have e403 : mupd (mupd (mupd M 382 42 0) 403 (7 * rb + r) 1) 400 (7 * rb + r) (bs : Int) 403 (7 * rb + r) = 1 := by rw [mupd_ne _ _ (by omega), mupd_same]
  have e400 : mupd (mupd (mupd M 382 42 0) 403 (7 * rb + r) 1) 400 (7 * rb + r) (bs : Int) 400 (7 * rb + r) = (bs : Int) := mupd_same _ _ _ _
  have eO : ∀ i, i ≠ 42 → mupd (mupd (mupd M 382 42 0) 403 (7 * rb + r) 1) 400 (7 * rb + r) (bs : Int) 382 i = M 382 i := fun i hi => by rw [mupd_ne _ _ (by omega), mupd_ne _ _ (by omega), mupd_ne2 _ _ hi]
  have eC : ∀ c, c ≠ 382 → c ≠ 403 → c ≠ 400 → mupd (mupd (mupd M 382 42 0) 403 (7 * rb + r) 1) 400 (7 * rb + r) (bs : Int) c = M c := fun c h1 h2 h3 => by funext z; rw [mupd_ne _ _ h3, mupd_ne _ _ h2, mupd_ne _ _ h1]
  generalize mupd (mupd (mupd M 382 42 0) 403 (7 * rb + r) 1) 400 (7 * rb + r) (bs : Int) = M3 at f3 e42 e403 e400 eO eC
  refine Ret.letM ?_
  -- e
  refine Ret.bind (R := fun q => Sum.elim (fun e : Int × Nat => NUL W n e q) (fun x : Nat × Nat × RL => (RM W n (x.1 - 1) q ∧ 1 ≤ x.1 ∧ kdJ W n (x.1 - 1) = 59 ∧ q 388 rb = (x.2.1 : Int) ∧ q 382 39 = ((bs + x.2.2.length : Nat) : Int) ∧ ∀ i y, x.2.2[i]? = some y → q 406 (bs + i) = y.1 ∧ q 407 (bs + i) = y.2) ∧ cb + x.2.2.length ≤ 9 * x.2.1 ∧ x.2.1 ≤ 60) (rulP W n j U) ∧ Fp (pExm rb bs) M3 q) ?_ ?_
  · rw [M_e_eB]
    refine Ret.letM (Ret.letM ?_)
    have hx0 : MX W n rb bs (j, 0, U, []) [] [] 0 (mupd (mupd M3 382 41 0) 382 40 0) := by
      refine ⟨hr.congr (fun i z1 z2 => by rw [mupd_ne2 _ _ (by omega), mupd_ne2 _ _ (by omega), eO i (by omega)]) (by funext z; rw [mupd_ne _ _ (by omega), mupd_ne _ _ (by omega), eC 384 (by omega) (by omega) (by omega)]), ⟨by rw [mupd_ne2 _ _ (by omega), mupd_ne2 _ _ (by omega), eO 38 (by omega)]; exact b0, by rw [mupd_ne _ _ (by omega), mupd_ne _ _ (by omega), eC 388 (by omega) (by omega) (by omega)]; exact rw0.2.2.2.2.2.2.1.trans hU, by rw [mupd_ne2 _ _ (by omega), mupd_ne2 _ _ (by omega), e42]; rfl⟩, ⟨by rw [mupd_ne2 _ _ (by omega), mupd_ne2 _ _ (by omega), eO 39 (by omega), hbs]; rfl, fun i q hi => by cases hi⟩, ⟨by rw [mupd_ne2 _ _ (by omega), mupd_same]; rfl, fun i q hi => by cases hi⟩, by rw [mupd_same]; rfl⟩
    have f0 : Fp (pExm rb bs) M3 (mupd (mupd M3 382 41 0) 382 40 0) := (Fp.rf.upd (Or.inl ⟨rfl, by omega⟩)).upd (Or.inl ⟨rfl, by omega⟩)
    refine Ret.bind (MX_push hx0 (by show 0 < 90; omega) 8 0) ?_
    rintro q3 ⟨m1, m2⟩
    obtain ⟨M', w1, w2, w3⟩ := rulP_bad (U := U) hJ hn hV hW hrb hcb m1 hj (by omega) hcb9
    rw [w1, ob_some]
    refine Ret.pure ⟨?_, (f0.tr m2).tr w2⟩
    cases hx : rulP W n j U with
    | inl e => rw [hx] at w3; exact w3
    | inr x =>
      rw [hx] at w3
      obtain ⟨v1, v2, v3, v4, v5, v6, v7, v8, v9, v10, v11, v12⟩ := w3
      exact ⟨⟨v1, v2, v4, v5, v8, v9⟩, v10, v7⟩
  rintro q4 ⟨c1, c2⟩
  have k38 : q4 382 38 = (rb : Int) := by rw [c2 382 38 (by unfold pExm; omega), eO 38 (by omega)]; exact b0
  rw [k38, w32e (n := 7 * (rb : Int)) (by omega) (by omega), w32e (n := 7 * (rb : Int) + r) (by omega) (by omega), show (7 * (rb : Int) + r).toNat = 7 * rb + r by omega]
  refine Ret.t (by omega) (Ret.letM (Ret.pure ⟨?_, (f3.tr (c2.mono fun k j h => Or.inl h)).upd (Or.inr ⟨by omega, rfl⟩)⟩))
  cases hx : rulP W n j U with
  | inl e =>
    rw [hx] at c1
    rcases c1 with ⟨d1, d2⟩ | ⟨s, d1, d2, d3⟩
    · exact Or.inl ⟨fM_upd d1 (by omega), d2⟩
    · exact Or.inr ⟨s, d1.upd (by omega) (by omega), d2, d3⟩
  | inr x =>
    rw [hx] at c1
    obtain ⟨⟨v1, v2, v4, v5, v8, v9⟩, v10, v7⟩ := c1
    refine ⟨⟨v1.upd (by omega) (by omega), v2, v4, by rw [mupd_ne _ _ (by omega)]; exact v5, by rw [mupd_ne _ _ (by omega)]; exact v8, ?_, ?_, ?_, fun i y hi => ?_⟩, v10, v7⟩
    · rw [mupd_ne _ _ (by omega), c2 400 _ (by unfold pExm; omega)]; exact e400
    · rw [mupd_same]; exact v8
    · rw [mupd_ne _ _ (by omega), c2 403 _ (by unfold pExm; omega)]; exact e403
    · rw [mupd_ne _ _ (by omega), mupd_ne _ _ (by omega)]; exact v9 i y hi
/-- a told rule among the others -/
theorem LM_rule {W : Nat → Int} {n rb ln r bs cb : Nat} {T : TW} {R : Nat → RL} {NP NR : List (List Int)} {dr : Bool} {M M' : KM} {x : Nat × Nat × RL} (hrb : rb < 2) (hP : LTP T R NP NR ln) (h : LMd rb ln T R NP NR dr M) (hr7 : r < 7) (hbs : M 382 39 = (bs : Int)) (hcb : bs = 560 * rb + cb) (hx : RUL W n rb bs r x M') (hc : cb + x.2.2.length ≤ 9 * x.2.1) (hU : x.2.1 ≤ 60) (hf : Fp (pRu rb bs r) M M') :
    (∀ q : Nat, q ≠ r → q < 7 → ((560 * rb : Nat) : Int) ≤ M 400 (7 * rb + q) → M 401 (7 * rb + q) ≤ (bs : Int) → ∀ L, MRule rb M q L → MRule rb M' q L) ∧ MRule rb M' r x.2.2 ∧ (∀ c, c ≠ 382 → c ≠ 388 → (¬ (400 ≤ c ∧ c ≤ 409)) → M' c = M c) ∧ (∀ c, (c = 400 ∨ c = 401 ∨ c = 403) → ∀ q, q ≠ r → M' c (7 * rb + q) = M c (7 * rb + q)) ∧ M' 402 = M 402 ∧ M' 404 = M 404 ∧ M' 405 = M 405 ∧ M' 382 38 = M 382 38 := by
  obtain ⟨v1, v2, v3, v4, v5, v6, v7, v8, v9⟩ := hx
  have kq : ∀ c, (c = 400 ∨ c = 401 ∨ c = 403) → ∀ q, q ≠ r → M' c (7 * rb + q) = M c (7 * rb + q) := fun c hc q hq => hf c _ (by unfold pRu pExm; omega)
  refine ⟨fun q hq hq7 h1 h2 L hL => ?_, ?_, fun c h1 h2 h3 => hf.row fun z hz => by unfold pRu pExm at hz; omega, kq, hf.row fun z hz => by unfold pRu pExm at hz; omega, hf.row fun z hz => by unfold pRu pExm at hz; omega, hf.row fun z hz => by unfold pRu pExm at hz; omega, hf 382 38 (by unfold pRu pExm; omega)⟩
  · refine MRule_congr hL (kq 400 (by omega) q hq) (kq 401 (by omega) q hq) fun i hi => ?_
    have h3 := hL.2.1
    have h0 := hL.1
    exact ⟨hf 406 _ (by unfold pRu pExm; omega), hf 407 _ (by unfold pRu pExm; omega)⟩
  · unfold MRule
    rw [v6, v7, Int.toNat_natCast]
    exact ⟨by omega, by omega, by omega, v9⟩
def RIQ (W : Nat → Int) (n rb j ln U : Nat) (T : TW) (R : Nat → RL) (NP NR : List (List Int)) (dr : Bool) (M q : KM) : Prop := Sum.elim (fun e => NUL W n e q) (fun w : List Int × Nat × Nat × RL => (RM W n (w.2.1 - 1) q ∧ 1 ≤ w.2.1 ∧ kdJ W n (w.2.1 - 1) = 59) ∧ LMd rb ln (mupd (mupd T 0 6 (w.2.2.1 : Int)) 0 2 (T 0 2 + 1)) (rset R (T 0 2).toNat w.2.2.2) NP (NR ++ [w.1]) dr q) (sB (newNm W n j NR) fun nm => sB (rulP W n (j + 1) U) fun x => .inr (nm, x)) ∧ Fp (pLM rb) M q
theorem M_readRight {W : Nat → Int} {n J rb j ln U bs cb : Nat} {T : TW} {R : Nat → RL} {NP NR : List (List Int)} {dr : Bool} {M : KM} (hJ : lastT W n J) (hn : n ≤ 1600) (hV : ∀ p, tkK W n p = 2 → 0 ≤ tkV W n p ∧ tkV W n p ≤ 9999) (hW : TXR W) (hrb : rb < 2) (hP : LTP T R NP NR ln) (hr : RM W n j M) (h : LMd rb ln T R NP NR dr M) (hj : j ≤ J) (h6 : T 0 2 < 6) (hU : T 0 6 = (U : Int)) (hbs : M 382 39 = (bs : Int)) (hcb : bs = 560 * rb + cb) :
    Ret (f_M_readRight M) (RIQ W n rb j ln U T R NP NR dr M) := by
  have o := hP.1.1
  have l2 := hP.2.2.1
  obtain ⟨m, hm⟩ := Int.eq_ofNat_of_zero_le o.2.2.2.2.1
  have rw0 := h.rw
  have b0 := h.1
  unfold f_M_readRight
  rw [b0, Int.toNat_natCast, rw0.2.2.1, w32e (n := 6 * (rb : Int)) (by omega) (by omega), w32e (n := 6 * (rb : Int) + T 0 2) (by omega) (by omega), hm]
  have hh := M_hereR (o := 6 * rb) hr hP.2.2.2.2.1 h.2.2.2.1 (by omega)
  rw [show (6 * (rb : Int)) + (m : Int) = ((6 * rb + m : Nat) : Int) by omega, show (6 * (rb : Int)) = ((6 * rb : Nat) : Int) by omega, show (m : Int) = (NR.length : Int) by omega, hh, ob_some]
  refine Ret.t (by omega) (Ret.t (by omega) ?_)
  refine Ret.bind (M_fresh (N := NR) hr hW) ?_
  rintro q2 ⟨a1, a2⟩
  rw [Int.toNat_natCast]
  refine Ret.t (by omega) ?_
  have f3 : Fp (fun k j => pTm k j ∨ (k = 405 ∧ (j : Int) = 6 * rb + T 0 2)) M (mupd q2.2 405 (6 * rb + m) q2.1) := (a2.mono fun k j h => Or.inl h).upd (Or.inr ⟨rfl, by omega⟩)
  have f3N : Fp (pNx T rb) M (mupd q2.2 405 (6 * rb + m) q2.1) := f3.mono fun k j h => h.elim Or.inl fun h => Or.inr (Or.inr (Or.inr h))
  have f3L : Fp (pLM rb) M (mupd q2.2 405 (6 * rb + m) q2.1) := f3.mono fun k j h => by
    rcases h with h | ⟨h, e⟩
    · exact pTm_LM k j h
    · exact Or.inr (Or.inr (Or.inr (Or.inr (Or.inr (Or.inr (Or.inr (Or.inl ⟨h, by omega, by omega⟩)))))))
  have L3 := h.nx hP f3N
  have e39 : mupd q2.2 405 (6 * rb + m) q2.1 382 39 = (bs : Int) := by rw [f3 382 39 (by unfold pTm; omega)]; exact hbs
  have e405 : mupd q2.2 405 (6 * rb + m) q2.1 405 (6 * rb + m) = q2.1 := mupd_same _ _ _ _
  cases hx : newNm W n j NR with
  | inl e =>
    rw [hx] at a1
    have a1' : fM e.1 e.2 (mupd q2.2 405 (6 * rb + m) q2.1) := fM_upd a1 (by omega)
    generalize mupd q2.2 405 (6 * rb + m) q2.1 = M3 at f3L L3 e39 e405 a1'
    have hb := fM_bad a1' (newNm_bad hx)
    refine Ret.letM ?_
    rw [M_isGood, ob_some, if_neg hb]
    refine Ret.bind (R := fun t => t = M3) (Ret.t rfl (Ret.pure rfl)) ?_
    rintro t rfl
    rw [L3.1, Int.toNat_natCast, L3.rw.2.2.1, hm]
    refine Ret.t (by omega) (Ret.t (by omega) (Ret.letM (Ret.pure ?_)))
    unfold RIQ
    rw [hx]
    exact ⟨Or.inl ⟨fM_upd a1' (by omega), newNm_bad hx⟩, f3L.upd (Or.inr (Or.inl ⟨by omega, by omega, rfl⟩))⟩
  | inr nm =>
    rw [hx] at a1
    have r3 : RM W n (j + 1) (mupd q2.2 405 (6 * rb + m) q2.1) := a1.2.upd (by omega) (by omega)
    have j1 := newNm_J hJ hj hx
    have e405 := e405.trans a1.1
    generalize mupd q2.2 405 (6 * rb + m) q2.1 = M3 at f3L L3 e39 e405 r3
    refine Ret.letM ?_
    rw [M_isGood, ob_some, r3.2.2, L3.1, Int.toNat_natCast, L3.rw.2.2.1, hm]
    refine Ret.bind (R := fun t => Sum.elim (fun e => NUL W n e t) (fun x => RUL W n rb bs m x t ∧ cb + x.2.2.length ≤ 9 * x.2.1 ∧ x.2.1 ≤ 60) (rulP W n (j + 1) U) ∧ Fp (pRu rb bs m) M3 t) (Ret.f (by decide) (Ret.t (by omega) (Ret.bind (M_readRule hJ hn hV hW hrb hP r3 L3 j1 (by omega) hU e39 hcb) fun q hq => Ret.pure hq))) ?_
    rintro t ⟨t1, t2⟩
    have k38 : t 382 38 = (rb : Int) := by rw [t2 382 38 (by unfold pRu pExm; omega)]; exact L3.1
    have k387 : t 387 rb = (m : Int) := by rw [t2 387 rb (by unfold pRu pExm; omega), L3.rw.2.2.1, hm]
    rw [k38, Int.toNat_natCast, k387, w32e (n := (m : Int) + 1) (by omega) (by omega)]
    have fr : Fp (pLM rb) M (mupd t 387 rb ((m : Int) + 1)) := (f3L.tr (t2.mono (pRu_LM (by omega) (by omega)))).upd (Or.inr (Or.inl ⟨by omega, by omega, rfl⟩))
    refine Ret.t (by omega) (Ret.t (by omega) (Ret.letM (Ret.pure ?_)))
    unfold RIQ
    rw [hx]
    refine ⟨?_, fr⟩
    show Sum.elim _ _ (sB (rulP W n (j + 1) U) fun x => .inr (nm, x))
    cases hx2 : rulP W n (j + 1) U with
    | inl e =>
      rw [hx2] at t1
      rcases t1 with ⟨d1, d2⟩ | ⟨s, d1, d2, d3⟩
      · exact Or.inl ⟨fM_upd d1 (by omega), d2⟩
      · exact Or.inr ⟨s, d1.upd (by omega) (by omega), d2, d3⟩
    | inr x =>
      rw [hx2] at t1
      obtain ⟨ru, g1, g2⟩ := t1
      obtain ⟨w1, w2, w3, w4, w5, w6, w7, w8⟩ := LM_rule hrb hP L3 (by omega) e39 hcb ru g1 g2 t2
      obtain ⟨v1, v2, v3, v4, v5, v6, v7, v8, v9⟩ := ru
      obtain ⟨z1, ⟨⟨t1, t2', t3, t4, t5, t6, t7, t8⟩, u1, u2, u3, u4⟩, z3, z4, z5, z6, z7, z8, z9⟩ := L3
      rw [e39] at z7 z8 z9
      have kc : ∀ c, c ≠ 387 → mupd t 387 rb ((m : Int) + 1) c = t c := fun c hc => by funext z; rw [mupd_ne _ _ hc]
      have mr : ∀ (q : Nat) (L : RL), MRule rb t q L → MRule rb (mupd t 387 rb ((m : Int) + 1)) q L := fun q L hL => MRule_congr hL (by rw [kc 400 (by omega)]) (by rw [kc 401 (by omega)]) fun i hi => ⟨by rw [kc 406 (by omega)], by rw [kc 407 (by omega)]⟩
      have o6 : (m : Int) < 6 := by omega
      refine ⟨⟨v1.upd (by omega) (by omega), v2, v3⟩, by rw [kc 382 (by omega)]; exact k38, ⟨⟨?_, ?_, ?_, ?_, ?_, ?_, ?_, ?_⟩, fun p hp => ?_, fun f hf => ?_, fun q hq => ?_, fun q => ?_⟩, fun i u hu => ?_, fun i u hu => ?_, ?_, ?_, ?_, fun q hq => ?_, fun q => ?_⟩
      · rw [kc 385 (by omega), w3 385 (by omega) (by omega) (by omega)]; exact t1
      · rw [kc 386 (by omega), w3 386 (by omega) (by omega) (by omega)]; exact t2'
      · rw [mupd_same]; show _ = T 0 2 + 1; omega
      · rw [kc 390 (by omega), w3 390 (by omega) (by omega) (by omega)]; exact t4
      · rw [kc 391 (by omega), w3 391 (by omega) (by omega) (by omega)]; exact t5
      · rw [kc 389 (by omega), w3 389 (by omega) (by omega) (by omega)]; exact t6
      · rw [kc 388 (by omega)]; exact v4
      · rw [kc 403 (by omega), w4 403 (by omega) 6 (by omega)]; exact t8
      · rw [kc 393 (by omega), kc 394 (by omega), kc 395 (by omega), kc 396 (by omega), w3 393 (by omega) (by omega) (by omega), w3 394 (by omega) (by omega) (by omega), w3 395 (by omega) (by omega) (by omega), w3 396 (by omega) (by omega) (by omega)]; exact u1 p hp
      · rw [kc 397 (by omega), kc 398 (by omega), kc 399 (by omega), w3 397 (by omega) (by omega) (by omega), w3 398 (by omega) (by omega) (by omega), w3 399 (by omega) (by omega) (by omega)]; exact u2 f hf
      · have hq : (q : Int) < T 0 2 + 1 := hq
        show MRule rb _ q (if q = (T 0 2).toNat then x.2.2 else R q)
        by_cases hqm : q = m
        · rw [if_pos (by omega), hqm]; exact mr _ _ w2
        · rw [if_neg (by omega)]
          have hq2 : (q : Int) < T 0 2 := by omega
          have := z8 q hq2
          exact mr _ _ (w1 q hqm (by omega) this.1 this.2 _ (u3 q hq2))
      · have q : T 0 7 = 1 := q
        show MRule rb _ 6 (if 6 = (T 0 2).toNat then x.2.2 else R 6)
        rw [if_neg (by omega)]
        have := z9 q
        exact mr _ _ (w1 6 (by omega) (by omega) this.1 this.2 _ (u4 q))
      · rw [kc 404 (by omega), w6]; exact z3 i u hu
      · rw [kc 405 (by omega), w7]
        by_cases hl : i < NR.length
        · rw [List.getElem?_append_left hl] at hu; exact z4 i u hu
        · rw [List.getElem?_append_right (by omega)] at hu
          have hz : i - NR.length < 1 := (List.getElem?_eq_some_iff.mp hu).1
          have hi2 : i = NR.length := by omega
          rw [hi2, Nat.sub_self] at hu
          have : nm = u := Option.some.inj hu
          rw [show i = m by omega, ← this]; exact e405
      · rw [kc 402 (by omega), w5]; exact z5
      · rw [kc 392 (by omega), w3 392 (by omega) (by omega) (by omega)]; exact z6
      · rw [kc 382 (by omega), v5]
        show _ ∧ _ ≤ _ + 9 * (x.2.1 : Int)
        omega
      · have hq : (q : Int) < T 0 2 + 1 := hq
        rw [kc 400 (by omega), kc 401 (by omega), kc 382 (by omega), v5]
        by_cases hqm : q = m
        · rw [hqm, v6, v7]; omega
        · rw [w4 400 (by omega) q hqm, w4 401 (by omega) q hqm]
          have := z8 q (by omega)
          omega
      · have q : T 0 7 = 1 := q
        rw [kc 400 (by omega), kc 401 (by omega), kc 382 (by omega), v5, w4 400 (by omega) 6 (by omega), w4 401 (by omega) 6 (by omega)]
        have := z9 q
        omega
theorem LM_odds {W : Nat → Int} {n rb ln bs cb : Nat} {T : TW} {R : Nat → RL} {NP NR : List (List Int)} {dr : Bool} {M M' : KM} {x : Nat × Nat × RL} (hrb : rb < 2) (hP : LTP T R NP NR ln) (h : LMd rb ln T R NP NR dr M) (hbs : M 382 39 = (bs : Int)) (hcb : bs = 560 * rb + cb) (hx : RUL W n rb bs 6 x M') (hc : cb + x.2.2.length ≤ 9 * x.2.1) (hU : x.2.1 ≤ 60) (hf : Fp (pRu rb bs 6) M M') : LMd rb ln (mupd (mupd T 0 6 (x.2.1 : Int)) 0 7 1) (rset R 6 x.2.2) NP NR dr M' := by
  have o := hP.1.1
  obtain ⟨w1, w2, w3, w4, w5, w6, w7, w8⟩ := LM_rule hrb hP h (by omega) hbs hcb hx hc hU hf
  obtain ⟨v1, v2, v3, v4, v5, v6, v7, v8, v9⟩ := hx
  obtain ⟨z1, ⟨⟨t1, t2', t3, t4, t5, t6, t7, t8⟩, u1, u2, u3, u4⟩, z3, z4, z5, z6, z7, z8, z9⟩ := h
  rw [hbs] at z7 z8 z9
  refine ⟨by rw [w8]; exact z1, ⟨⟨?_, ?_, ?_, ?_, ?_, ?_, v4, v8⟩, fun p hp => ?_, fun f hf => ?_, fun q hq => ?_, fun _ => ?_⟩, fun i u hu => by rw [w6]; exact z3 i u hu, fun i u hu => by rw [w7]; exact z4 i u hu, by rw [w5]; exact z5, ?_, ?_, fun q hq => ?_, fun q => ?_⟩
  · rw [w3 385 (by omega) (by omega) (by omega)]; exact t1
  · rw [w3 386 (by omega) (by omega) (by omega)]; exact t2'
  · rw [w3 387 (by omega) (by omega) (by omega)]; exact t3
  · rw [w3 390 (by omega) (by omega) (by omega)]; exact t4
  · rw [w3 391 (by omega) (by omega) (by omega)]; exact t5
  · rw [w3 389 (by omega) (by omega) (by omega)]; exact t6
  · rw [w3 393 (by omega) (by omega) (by omega), w3 394 (by omega) (by omega) (by omega), w3 395 (by omega) (by omega) (by omega), w3 396 (by omega) (by omega) (by omega)]; exact u1 p hp
  · rw [w3 397 (by omega) (by omega) (by omega), w3 398 (by omega) (by omega) (by omega), w3 399 (by omega) (by omega) (by omega)]; exact u2 f hf
  · have hq : (q : Int) < T 0 2 := hq
    show MRule rb M' q (if q = 6 then x.2.2 else R q)
    rw [if_neg (by omega)]
    have := z8 q hq
    exact w1 q (by omega) (by omega) this.1 this.2 _ (u3 q hq)
  · show MRule rb M' 6 (if 6 = 6 then x.2.2 else R 6)
    rw [if_pos rfl]; exact w2
  · rw [w3 392 (by omega) (by omega) (by omega)]; exact z6
  · rw [v5]
    show _ ∧ _ ≤ _ + 9 * (x.2.1 : Int)
    omega
  · have hq : (q : Int) < T 0 2 := hq
    rw [v5, w4 400 (by omega) q (by omega), w4 401 (by omega) q (by omega)]
    have := z8 q hq
    omega
  · rw [v5, v6, v7]; omega
