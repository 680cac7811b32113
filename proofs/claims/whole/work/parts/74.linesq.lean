/-! A LINE on the second side -/
theorem N_endR {W : Nat → Int} {n rb ln : Nat} {α : Type} {x : (Int × Nat) ⊕ α} {g : α → Nat} {T : α → TW} {R : α → Nat → RL} {NP NR : α → List (List Int)} {dr : α → Bool} {M0 M : KM} (hW : TXR W) (hT : TXM W n M) (hx : Sum.elim (fun e : Int × Nat => NUL W n e M) (fun y => (RM W n (g y - 1) M ∧ 1 ≤ g y ∧ kdJ W n (g y - 1) = 59) ∧ LMd rb ln (T y) (R y) (NP y) (NR y) (dr y) M ∧ (((NP y).length : Int) = T y 0 0 ∧ ((NR y).length : Int) = T y 0 2)) x) (hf : Fp (pLM rb) M0 M) : Ret (Option.bind (f_M_isSignHere 59 M) (fun q25 => Option.bind (f_M_must q25 M) (fun q26 => some q26))) (oN W n rb ln (sB x fun y => .inr (g y, T y, R y, NP y, NR y, dr y)) M0) := by
  cases x with
  | inl e =>
    rcases hx with ⟨h1, h2⟩ | ⟨s, h1, h2, h3⟩
    · obtain ⟨y, hy⟩ := isSign_any hT h1.2.2 59
      rw [hy, ob_some, M_must_bad (fM_bad h1 h2)]
      exact Ret.pure ⟨⟨h1, h2⟩, hf⟩
    · rw [M_isSignHere h1 (c := 59) (by decide), ob_some]
      refine Ret.bind (M_must h1 hW) ?_
      rintro q ⟨q1, q2⟩
      rw [if_neg h2] at q1
      refine Ret.pure ⟨?_, hf.tr (q2.mono pTm_LM)⟩
      subst h3
      exact ⟨q1, by show f2 W n s.1 ≠ 0; have := f2_R W n s.1; omega⟩
  | inr y =>
    obtain ⟨⟨h1, h2, h3⟩, h4, h5⟩ := hx
    rw [M_isSignHere h1 (c := 59) (by decide), ob_some]
    refine Ret.bind (M_must h1 hW) ?_
    rintro q ⟨q1, q2⟩
    rw [if_pos h3, show g y - 1 + 1 = g y by omega] at q1
    exact Ret.pure ⟨⟨q1, h4.nx2 h5 (q2.mono pTm_N)⟩, hf.tr (q2.mono pTm_LM)⟩
theorem word_nm {W : Nat → Int} {n j i : Nat} {M : KM} {u : List Int} (h : RM W n j M) (hk : kdJ W n j = 128 + (i : Int)) (hu : WDS[i]? = some u) : M 382 10 = nmM u ∧ M 382 8 = 3 := by
  obtain ⟨h1, ⟨p1, p2, p3, p4, p5⟩, h3⟩ := h
  have hk : tkK W n (plS W n j) = 128 + (i : Int) := hk
  rcases tkK_R W n (plS W n j) with ⟨z, _⟩ | ⟨hp, z | ⟨z, _⟩ | ⟨z, _⟩ | ⟨z1, z2, _⟩ | ⟨q, q1, z, q2, q3⟩⟩
  · omega
  · omega
  · omega
  · omega
  · omega
  · have e : q = i := by omega
    subst e
    rw [q2] at hu
    refine ⟨by rw [p5 (Or.inr (by omega)), Option.some.inj hu], ?_⟩
    rw [p3]
    unfold tkT
    rw [if_neg (by omega), if_neg (by omega), if_neg (by omega), if_neg (by omega), if_pos (by omega)]
/-- no more of its sort -/
def fulB (W : Nat → Int) (n j ln : Nat) (T : TW) (dr : Bool) : Bool := if kdJ W n j = 138 then decide (0 < ln) else if kdJ W n j = 128 then decide (T 0 0 = 8) else if kdJ W n j = 133 then decide (T 0 1 = 20) else if kdJ W n j = 136 then decide (T 0 2 = 6) else if kdJ W n j = 137 then decide (T 0 7 = 1) else if kdJ W n j = 139 then dr else true
theorem M_isFull {W : Nat → Int} {n rb j ln : Nat} {T : TW} {R : Nat → RL} {NP NR : List (List Int)} {dr : Bool} {M : KM} (hrb : rb < 2) (hP : LTP T R NP NR ln) (hr : RM W n j M) (h : LMd rb ln T R NP NR dr M) : f_M_isFull M = some (if fulB W n j ln T dr = true then 1 else 0) := by
  have o := hP.1.1
  have b0 := h.1
  have rw0 := h.rw
  have e402 := h.2.2.2.2.1
  have e392 := h.2.2.2.2.2.1
  have fin : ∀ {c : Prop} {dc : Decidable c} {y : Int}, (if c then some (1 : Int) else some 0) = some y → Ret (if 0 ≤ (rb : Int) ∧ (rb : Int) < 2 then Option.bind (if c then some (1 : Int) else some 0) (fun t => (if 0 ≤ t ∧ t ≤ 1 then some t else none)) else none) (fun z => z = y) := fun {c dc y} e => by
    rw [e]
    refine Ret.t (by omega) (Ret.t ?_ (Ret.pure rfl))
    by_cases hc : c
    · rw [if_pos hc] at e; have := Option.some.inj e; omega
    · rw [if_neg hc] at e; have := Option.some.inj e; omega
  refine Ret.some_of ?_
  unfold f_M_isFull fulB
  rw [M_isWord hr (i := 10) (u := [97, 103, 101, 115]) rfl (by decide), ob_some, M_isWord hr (i := 0) (u := [112, 101, 114, 115, 111, 110]) rfl (by decide), ob_some, M_isWord hr (i := 5) (u := [102, 114, 105, 101, 110, 100]) rfl (by decide), ob_some, M_isWord hr (i := 8) (u := [114, 105, 103, 104, 116]) rfl (by decide), ob_some, M_isWord hr (i := 9) (u := [111, 100, 100, 115]) rfl (by decide), ob_some, M_isWord hr (i := 11) (u := [100, 114, 97, 119]) rfl (by decide), ob_some, b0, Int.toNat_natCast, w32e (n := 7 * (rb : Int)) (by omega) (by omega), w32e (n := 7 * (rb : Int) + 6) (by omega) (by omega), show (7 * (rb : Int) + 6).toNat = 7 * rb + 6 by omega, rw0.1, rw0.2.1, rw0.2.2.1, rw0.2.2.2.2.2.2.2, e402, e392]
  by_cases h138 : kdJ W n j = 138
  · rw [if_pos (show kdJ W n j = 128 + ((10 : Nat) : Int) by omega), if_pos h138]
    refine Ret.f (by decide) (Ret.t (by omega) ?_)
    refine Ret.bind (R := fun t => t = if decide (0 < ln) = true then 1 else 0) (Ret.br (fun z => Ret.pure (by rw [decide_eq_false (by omega)]; rfl)) fun z => Ret.pure (by rw [decide_eq_true (by omega)]; rfl)) ?_
    rintro t rfl
    exact Ret.t (by split <;> omega) (Ret.pure rfl)
  rw [if_neg (show ¬ kdJ W n j = 128 + ((10 : Nat) : Int) by omega), if_neg h138]
  refine Ret.t rfl ?_
  by_cases h128 : kdJ W n j = 128
  · rw [if_pos (show kdJ W n j = 128 + ((0 : Nat) : Int) by omega), if_pos h128]
    refine Ret.f (by decide) (Ret.t (by omega) ?_)
    refine Ret.bind (R := fun t => t = if decide (T 0 0 = 8) = true then 1 else 0) (Ret.br (fun z => Ret.pure (by rw [decide_eq_true z]; rfl)) fun z => Ret.pure (by rw [decide_eq_false z]; rfl)) ?_
    rintro t rfl
    exact Ret.t (by split <;> omega) (Ret.pure rfl)
  rw [if_neg (show ¬ kdJ W n j = 128 + ((0 : Nat) : Int) by omega), if_neg h128]
  refine Ret.t rfl ?_
  by_cases h133 : kdJ W n j = 133
  · rw [if_pos (show kdJ W n j = 128 + ((5 : Nat) : Int) by omega), if_pos h133]
    refine Ret.f (by decide) (Ret.t (by omega) ?_)
    refine Ret.bind (R := fun t => t = if decide (T 0 1 = 20) = true then 1 else 0) (Ret.br (fun z => Ret.pure (by rw [decide_eq_true z]; rfl)) fun z => Ret.pure (by rw [decide_eq_false z]; rfl)) ?_
    rintro t rfl
    exact Ret.t (by split <;> omega) (Ret.pure rfl)
  rw [if_neg (show ¬ kdJ W n j = 128 + ((5 : Nat) : Int) by omega), if_neg h133]
  refine Ret.t rfl ?_
  by_cases h136 : kdJ W n j = 136
  · rw [if_pos (show kdJ W n j = 128 + ((8 : Nat) : Int) by omega), if_pos h136]
    refine Ret.f (by decide) (Ret.t (by omega) ?_)
    refine Ret.bind (R := fun t => t = if decide (T 0 2 = 6) = true then 1 else 0) (Ret.br (fun z => Ret.pure (by rw [decide_eq_true z]; rfl)) fun z => Ret.pure (by rw [decide_eq_false z]; rfl)) ?_
    rintro t rfl
    exact Ret.t (by split <;> omega) (Ret.pure rfl)
  rw [if_neg (show ¬ kdJ W n j = 128 + ((8 : Nat) : Int) by omega), if_neg h136]
  refine Ret.t rfl ?_
  by_cases h137 : kdJ W n j = 137
  · rw [if_pos (show kdJ W n j = 128 + ((9 : Nat) : Int) by omega), if_pos h137]
    refine Ret.f (by decide) (Ret.t (by omega) (Ret.t (by omega) (Ret.pure ?_)))
    by_cases z : T 0 7 = 1
    · rw [decide_eq_true z, z]; rfl
    · rw [decide_eq_false z]
      show T 0 7 = 0
      omega
  rw [if_neg (show ¬ kdJ W n j = 128 + ((9 : Nat) : Int) by omega), if_neg h137]
  refine Ret.t rfl ?_
  refine Ret.bind (R := fun t => t = if (if kdJ W n j = 139 then dr else true) = true then 1 else 0) ?_ ?_
  · by_cases h139 : kdJ W n j = 139
    · rw [if_pos (show kdJ W n j = 128 + ((11 : Nat) : Int) by omega), if_pos h139]
      refine Ret.f (by decide) (Ret.t (by omega) ?_)
      cases dr with
      | true => exact Ret.f (by decide) (Ret.pure rfl)
      | false => exact Ret.t rfl (Ret.pure rfl)
    · rw [if_neg (show ¬ kdJ W n j = 128 + ((11 : Nat) : Int) by omega), if_neg h139]
      exact Ret.t rfl (Ret.pure rfl)
  · rintro t rfl
    exact Ret.t (by split <;> omega) (Ret.pure rfl)
theorem fulB_flt {W : Nat → Int} {n j ln : Nat} {T : TW} {R : Nat → RL} {NP NR : List (List Int)} {dr : Bool} (hP : LTP T R NP NR ln) (h : fulB W n j ln T dr = true) : lnP W n j ln T R NP NR dr = ftP W n j := by
  have o := hP.1.1
  unfold fulB at h
  unfold lnP
  by_cases h128 : kdJ W n j = 128
  · rw [if_neg (by omega), if_pos h128] at h
    have := of_decide_eq_true h
    rw [if_pos h128]
    unfold perP
    rw [if_pos (by omega)]
  rw [if_neg h128]
  by_cases h133 : kdJ W n j = 133
  · rw [if_neg (by omega), if_neg h128, if_pos h133] at h
    have := of_decide_eq_true h
    rw [if_pos h133]
    unfold friP
    rw [if_pos (by omega)]
  rw [if_neg h133]
  by_cases h136 : kdJ W n j = 136
  · rw [if_neg (by omega), if_neg h128, if_neg h133, if_pos h136] at h
    have := of_decide_eq_true h
    rw [if_pos h136]
    unfold rigP
    rw [if_pos (by omega)]
  rw [if_neg h136]
  by_cases h137 : kdJ W n j = 137
  · rw [if_neg (by omega), if_neg h128, if_neg h133, if_neg h136, if_pos h137] at h
    have := of_decide_eq_true h
    rw [if_pos h137]
    unfold oddP
    rw [if_pos this]
  rw [if_neg h137]
  by_cases h138 : kdJ W n j = 138
  · rw [if_pos h138] at h
    have := of_decide_eq_true h
    rw [if_pos h138]
    unfold ageP
    rw [if_pos this]
  rw [if_neg h138]
  by_cases h139 : kdJ W n j = 139
  · rw [if_neg h138, if_neg h128, if_neg h133, if_neg h136, if_neg h137, if_pos h139] at h
    rw [if_pos h139]
    unfold draP
    rw [if_pos h]
  rw [if_neg h139]
theorem tkNm1_e {W : Nat → Int} {n j : Nat} {k lo hi : Int} (hk : kdJ W n j = k) : tkNum W n j k lo hi = tkNm1 W n (j + 1) lo hi := by
  unfold tkNum tkNm1
  rw [if_pos hk]
theorem sB_r {α β : Type} (y : α) (f : α → (Int × Nat) ⊕ β) : sB (.inr y) f = f y := rfl
theorem tkNm1_bad {W : Nat → Int} {n j : Nat} {lo hi : Int} {e : Int × Nat} (h : tkNm1 W n j lo hi = .inl e) : e.1 ≠ 0 := by
  unfold tkNm1 at h
  have := f2_R W n j
  split at h
  · split at h
    · cases h
    · cases h; show (4 : Int) ≠ 0; omega
  · cases h; show f2 W n j ≠ 0; omega
/-- a cell of the bank in which nothing else is told -/
theorem LMd.set {rb ln : Nat} {T T' : TW} {R : Nat → RL} {NP NR : List (List Int)} {dr dr' : Bool} {M M' : KM} (h : LMd rb ln T R NP NR dr M) (hf : ∀ c, c ≠ 389 → c ≠ 390 → c ≠ 391 → c ≠ 402 → M' c = M c) (e0 : T' 0 0 = T 0 0) (e1 : T' 0 1 = T 0 1) (e2 : T' 0 2 = T 0 2) (e6 : T' 0 6 = T 0 6) (e7 : T' 0 7 = T 0 7) (er : ∀ a i, 1 ≤ a → T' a i = T a i) (h3 : M' 390 rb = T' 0 3) (h4 : M' 391 rb = T' 0 4) (h5 : M' 389 rb = T' 0 5) (hd : M' 402 rb = (if dr' = true then 1 else 0)) : LMd rb ln T' R NP NR dr' M' := by
  obtain ⟨z1, ⟨⟨t1, t2', t3, t4, t5, t6, t7, t8⟩, u1, u2, u3, u4⟩, z3, z4, z5, z6, z7, z8, z9⟩ := h
  have mr : ∀ (q : Nat) (L : RL), MRule rb M q L → MRule rb M' q L := fun q L hL => MRule_congr hL (by rw [hf 400 (by omega) (by omega) (by omega) (by omega)]) (by rw [hf 401 (by omega) (by omega) (by omega) (by omega)]) fun i hi => ⟨by rw [hf 406 (by omega) (by omega) (by omega) (by omega)], by rw [hf 407 (by omega) (by omega) (by omega) (by omega)]⟩
  have e382 := hf 382 (by omega) (by omega) (by omega) (by omega)
  have e400 := hf 400 (by omega) (by omega) (by omega) (by omega)
  have e401 := hf 401 (by omega) (by omega) (by omega) (by omega)
  refine ⟨by rw [e382]; exact z1, ⟨⟨by rw [hf 385 (by omega) (by omega) (by omega) (by omega), e0]; exact t1, by rw [hf 386 (by omega) (by omega) (by omega) (by omega), e1]; exact t2', by rw [hf 387 (by omega) (by omega) (by omega) (by omega), e2]; exact t3, h3, h4, h5, by rw [hf 388 (by omega) (by omega) (by omega) (by omega), e6]; exact t7, by rw [hf 403 (by omega) (by omega) (by omega) (by omega), e7]; exact t8⟩, fun p hp => ?_, fun f hff => ?_, fun q hq => mr _ _ (u3 q (by rw [← e2]; exact hq)), fun q => mr _ _ (u4 (by rw [← e7]; exact q))⟩, fun i u hu => by rw [hf 404 (by omega) (by omega) (by omega) (by omega)]; exact z3 i u hu, fun i u hu => by rw [hf 405 (by omega) (by omega) (by omega) (by omega)]; exact z4 i u hu, hd, by rw [hf 392 (by omega) (by omega) (by omega) (by omega)]; exact z6, by rw [e382, e6]; exact z7, fun r hr => by rw [e400, e401, e382]; exact z8 r (by rw [← e2]; exact hr), fun q => by rw [e400, e401, e382]; exact z9 (by rw [← e7]; exact q)⟩
  · rw [e0] at hp
    rw [hf 393 (by omega) (by omega) (by omega) (by omega), hf 394 (by omega) (by omega) (by omega) (by omega), hf 395 (by omega) (by omega) (by omega) (by omega), hf 396 (by omega) (by omega) (by omega) (by omega), er 1 p (by omega), er 2 p (by omega), er 3 p (by omega), er 4 p (by omega)]
    exact u1 p hp
  · rw [e1] at hff
    rw [hf 397 (by omega) (by omega) (by omega) (by omega), hf 398 (by omega) (by omega) (by omega) (by omega), hf 399 (by omega) (by omega) (by omega) (by omega), er 5 f (by omega), er 6 f (by omega), er 7 f (by omega)]
    exact u2 f hff
theorem M_readLine {W : Nat → Int} {n J rb j ln : Nat} {T : TW} {R : Nat → RL} {NP NR : List (List Int)} {dr : Bool} {M : KM} (hJ : lastT W n J) (hn : n ≤ 1600) (hV : ∀ p, tkK W n p = 2 → 0 ≤ tkV W n p ∧ tkV W n p ≤ 9999) (hW : TXR W) (hrb : rb < 2) (hP : LTP T R NP NR ln) (hr : RM W n j M) (h : LMd rb ln T R NP NR dr M) (hj : j ≤ J) (hln : ln < 2000) : Ret (f_M_readLine M) (oN W n rb (ln + 1) (lnP W n j ln T R NP NR dr) M) := by
  have o := hP.1.1
  have l1 := hP.2.1
  have l2 := hP.2.2.1
  have hP1 : LTP T R NP NR (ln + 1) := ⟨hP.1, hP.2.1, hP.2.2.1, hP.2.2.2.1, hP.2.2.2.2.1, fun q => by omega⟩
  unfold f_M_readLine
  have mis : lnP W n j ln T R NP NR dr = ftP W n j → Ret (Option.bind (f_M_misplaced M) (fun q => some q)) (fun t => oN W n rb (ln + 1) (lnP W n j ln T R NP NR dr) M t ∧ t 382 4 ≠ 0) := fun e => by
    rw [e]
    refine Ret.bind (M_misplaced hr) fun q hq => ?_
    have f0 := f2_R W n j
    exact Ret.pure ⟨⟨⟨hq.1, by show f2 W n j ≠ 0; omega⟩, hq.2.mono fun k j h => pTm_LM k j (pFm_m k j h)⟩, fM_bad hq.1 (by omega)⟩
  by_cases hf : fulB W n j ln T dr = true
  · -- nothing of that kind can stand here
    have e := fulB_flt hP hf
    refine Ret.bind (R := fun t => oN W n rb (ln + 1) (lnP W n j ln T R NP NR dr) M t ∧ t 382 4 ≠ 0) (Ret.br (fun h3 => ?_) fun h3 => mis e) ?_
    · rw [M_isFull hrb hP hr h, ob_some, if_pos hf]
      exact Ret.f (by decide) (mis e)
    · rintro t ⟨t1, t2⟩
      rw [M_isGood, ob_some, if_neg t2]
      exact Ret.t rfl (Ret.pure t1)
  have hk : kdJ W n j = 138 ∨ kdJ W n j = 128 ∨ kdJ W n j = 133 ∨ kdJ W n j = 136 ∨ kdJ W n j = 137 ∨ kdJ W n j = 139 := by
    apply Classical.byContradiction
    intro hh
    apply hf
    unfold fulB
    rw [if_neg (by omega), if_neg (by omega), if_neg (by omega), if_neg (by omega), if_neg (by omega), if_neg (by omega)]
  have hkg : good (kdJ W n j) := ⟨by omega, by omega⟩
  have j1 := next_J hJ hj hkg
  have hw3 : M 382 8 = 3 := by
    rcases hk with z | z | z | z | z | z
    · exact (word_nm hr (i := 10) (by omega) rfl).2
    · exact (word_nm hr (i := 0) (by omega) rfl).2
    · exact (word_nm hr (i := 5) (by omega) rfl).2
    · exact (word_nm hr (i := 8) (by omega) rfl).2
    · exact (word_nm hr (i := 9) (by omega) rfl).2
    · exact (word_nm hr (i := 11) (by omega) rfl).2
  refine Ret.bind (R := fun t => t = M) (Ret.t hw3 ?_) ?_
  · rw [M_isFull hrb hP hr h, ob_some, if_neg hf]
    exact Ret.t rfl (Ret.pure rfl)
  rintro t rfl
  rw [M_isGood, ob_some, hr.2.2]
  refine Ret.f (by decide) ?_
  refine Ret.bind (M_go hr hW) ?_
  rintro q6 ⟨a1, a2⟩
  have L6 := h.nx hP (a2.mono fun k j h => Or.inl (pGo_m k j h))
  have e392 := L6.2.2.2.2.2.1
  rw [L6.1, Int.toNat_natCast, e392, w32e (n := (ln : Int) + 1) (by omega) (by omega)]
  refine Ret.t (by omega) (Ret.t (by omega) ?_)
  have r7 : RM W n (j + 1) (mupd q6 392 rb ((ln : Int) + 1)) := a1.upd (by omega) (by omega)
  have f7 : Fp (pLM rb) t (mupd q6 392 rb ((ln : Int) + 1)) := (a2.mono fun k j h => pTm_LM k j (pGo_m k j h)).upd (Or.inr (Or.inl ⟨by omega, by omega, rfl⟩))
  have L7 : LMd rb (ln + 1) T R NP NR dr (mupd q6 392 rb ((ln : Int) + 1)) := by
    obtain ⟨z1, z2, z3, z4, z5, z6, z7, z8, z9⟩ := L6
    have kc : ∀ c, c ≠ 392 → mupd q6 392 rb ((ln : Int) + 1) c = q6 c := fun c hc => by funext z; rw [mupd_ne _ _ hc]
    refine ⟨by rw [kc 382 (by omega)]; exact z1, TM_congr z2 (fun c h1 h2 => by rw [kc c (by omega)]) (fun c h1 h2 p hp => by rw [kc c (by omega)]) (fun c h1 h2 p hp => by rw [kc c (by omega)]) (by rw [kc 403 (by omega)]) (fun r hr hm => MRule_congr hm (by rw [kc 400 (by omega)]) (by rw [kc 401 (by omega)]) fun i hi => ⟨by rw [kc 406 (by omega)], by rw [kc 407 (by omega)]⟩) (fun _ hm => MRule_congr hm (by rw [kc 400 (by omega)]) (by rw [kc 401 (by omega)]) fun i hi => ⟨by rw [kc 406 (by omega)], by rw [kc 407 (by omega)]⟩), fun i u hu => by rw [kc 404 (by omega)]; exact z3 i u hu, fun i u hu => by rw [kc 405 (by omega)]; exact z4 i u hu, by rw [kc 402 (by omega)]; exact z5, by rw [mupd_same]; rfl, by rw [kc 382 (by omega)]; exact z7, fun r hr => by rw [kc 400 (by omega), kc 401 (by omega), kc 382 (by omega)]; exact z8 r hr, fun q => by rw [kc 400 (by omega), kc 401 (by omega), kc 382 (by omega)]; exact z9 q⟩
  generalize mupd q6 392 rb ((ln : Int) + 1) = M7 at r7 f7 L7
  refine Ret.letM ?_
  have fulE : ∀ (c : Prop) [Decidable c], fulB W n j ln T dr = decide c → ¬ c := fun c _ he hc => hf (by rw [he]; exact decide_eq_true hc)
  have txm : ∀ {q : KM}, Fp (pLM rb) t q → TXM W n q := fun hq => hr.1.1.congr (hq 382 3 (by unfold pLM; omega)) (hq.row fun z hz => by unfold pLM at hz; omega)
  obtain ⟨U, hU⟩ := Int.eq_ofNat_of_zero_le (show 0 ≤ T 0 6 by omega)
  obtain ⟨bs, hbs⟩ := Int.eq_ofNat_of_zero_le (show 0 ≤ M7 382 39 by have := L7.2.2.2.2.2.2.1.1; omega)
  have hcb : bs = 560 * rb + (bs - 560 * rb) := by have := L7.2.2.2.2.2.2.1.1; omega
  have ll : (NP.length : Int) = T 0 0 ∧ (NR.length : Int) = T 0 2 := ⟨l1, l2⟩
  rcases hk with z | z | z | z | z | z
  · -- ages
    have nm := (word_nm hr (i := 10) (u := [97, 103, 101, 115]) (by omega) rfl).1.trans (show nmM [97, 103, 101, 115] = 1634166131 by decide)
    have hl0 : ¬ 0 < ln := fulE (0 < ln) (by unfold fulB; rw [if_pos z])
    rw [nm]
    refine Ret.bind (R := fun t12 => Sum.elim (fun e : Int × Nat => fM e.1 e.2 t12 ∧ e.1 ≠ 0) (fun y : Int × Int => RM W n (j + 4) t12 ∧ LMd rb (ln + 1) (mupd (mupd T 0 3 y.1) 0 4 y.2) R NP NR dr t12) (sB (tkNum W n j 138 0 150) fun lo => sB (tkNum W n (j + 2) 134 lo 150) fun hi => .inr (lo, hi)) ∧ Fp (pLM rb) t t12) (Ret.t (by decide) ?_) ?_
    · refine Ret.bind (M_numeral r7 hW 0 150) ?_
      rintro q8 ⟨b1, b2⟩
      rw [L7.1, Int.toNat_natCast]
      refine Ret.t (by omega) ?_
      have fr9 : Fp (pLM rb) t (mupd q8.2 390 rb q8.1) := (f7.tr (b2.mono pTm_LM)).upd (Or.inr (Or.inl ⟨by omega, by omega, rfl⟩))
      have e9 : mupd q8.2 390 rb q8.1 390 rb = q8.1 := mupd_same _ _ _ _
      have k38 : mupd q8.2 390 rb q8.1 382 38 = (rb : Int) := by rw [mupd_ne _ _ (by omega), b2 382 38 (by unfold pTm; omega)]; exact L7.1
      rw [tkNm1_e z]
      cases hx : tkNm1 W n (j + 1) 0 150 with
      | inl e =>
        rw [hx] at b1
        have b3 : fM e.1 e.2 (mupd q8.2 390 rb q8.1) := fM_upd b1.1 (by omega)
        have hb := tkNm1_bad hx
        generalize mupd q8.2 390 rb q8.1 = M9 at fr9 e9 b3 k38
        refine Ret.letM ?_
        rw [k38, Int.toNat_natCast]
        refine Ret.t (by omega) ?_
        rw [M_after_bad (fM_bad b3 hb), ob_some]
        exact Ret.t (by omega) (Ret.letM (Ret.pure ⟨⟨fM_upd b3 (by omega), hb⟩, fr9.upd (Or.inr (Or.inl ⟨by omega, by omega, rfl⟩))⟩))
      | inr lo =>
        rw [hx] at b1
        obtain ⟨b3, b4⟩ := b1
        have L8 := L7.nx hP1 (b2.mono pTm_N)
        rw [b3] at e9
        have L9 : LMd rb (ln + 1) (mupd T 0 3 lo) R NP NR dr (mupd q8.2 390 rb q8.1) := L8.set (fun c h1 h2 h3 h4 => by funext z; rw [mupd_ne _ _ h2]) rfl rfl rfl rfl rfl (fun a i ha => by rw [mupd_ne _ _ (by omega)]) (by rw [mupd_same, b3]; rfl) (by rw [mupd_ne _ _ (by omega)]; exact L8.rw.2.2.2.2.1) (by rw [mupd_ne _ _ (by omega)]; exact L8.rw.2.2.2.2.2.1) (by rw [mupd_ne _ _ (by omega)]; exact L8.2.2.2.2.1)
        have r9 : RM W n (j + 1 + 1) (mupd q8.2 390 rb q8.1) := b4.upd (by omega) (by omega)
        have e9 : mupd q8.2 390 rb q8.1 390 rb = lo := by rw [mupd_same, b3]
        generalize mupd q8.2 390 rb q8.1 = M9 at fr9 e9 L9 r9 k38
        refine Ret.letM ?_
        rw [k38, Int.toNat_natCast, e9]
        refine Ret.t (by omega) ?_
        refine Ret.bind (M_after r9 hW (i := 6) (u := [116, 111]) rfl (by decide) lo 150) ?_
        rintro q10 ⟨c1, c2⟩
        refine Ret.t (by omega) (Ret.letM (Ret.pure ⟨?_, (fr9.tr (c2.mono pTm_LM)).upd (Or.inr (Or.inl ⟨by omega, by omega, rfl⟩))⟩))
        show Sum.elim _ _ (sB (tkNum W n (j + 2) 134 lo 150) fun hi => .inr (lo, hi))
        have c1 : Sum.elim (fun e : Int × Nat => fM e.1 e.2 q10.2 ∧ q10.1 = lo) (fun y => q10.1 = y ∧ RM W n (j + 4) q10.2) (tkNum W n (j + 2) 134 lo 150) := c1
        cases hx2 : tkNum W n (j + 2) 134 lo 150 with
        | inl e =>
          rw [hx2] at c1
          exact ⟨fM_upd c1.1 (by omega), tkNum_bad hx2⟩
        | inr hi =>
          rw [hx2] at c1
          obtain ⟨c3, c4⟩ := c1
          have L10 := L9.nx2 (by exact ll) (c2.mono pTm_N)
          exact ⟨c4.upd (by omega) (by omega), L10.set (fun c h1 h2 h3 h4 => by funext z; rw [mupd_ne _ _ h3]) rfl rfl rfl rfl rfl (fun a i ha => by rw [mupd_ne _ _ (by omega)]) (by rw [mupd_ne _ _ (by omega)]; exact L10.rw.2.2.2.1) (by rw [mupd_same, c3]; rfl) (by rw [mupd_ne _ _ (by omega)]; exact L10.rw.2.2.2.2.2.1) (by rw [mupd_ne _ _ (by omega)]; exact L10.2.2.2.2.1)⟩
    · rintro t12 ⟨b1, b2⟩
      have skip : ∀ {c : Int} {F : KM → Option KM}, klcmp 1634166131 c ≠ 0 → Ret (if klcmp 1634166131 c = 0 then F t12 else some t12) (fun s => s = t12) := fun hc => Ret.f hc (Ret.pure rfl)
      refine Ret.bind (R := fun s => s = t12) (Ret.f (by decide) (Ret.pure rfl)) ?_
      rintro s rfl
      refine Ret.bind (R := fun s' => s' = s) (Ret.f (by decide) (Ret.pure rfl)) ?_
      rintro s' rfl
      refine Ret.bind (R := fun s => s = s') (Ret.f (by decide) (Ret.pure rfl)) ?_
      rintro s rfl
      refine Ret.bind (R := fun s' => s' = s) (Ret.f (by decide) (Ret.pure rfl)) ?_
      rintro s' rfl
      refine Ret.bind (R := fun s => s = s') (Ret.f (by decide) (Ret.pure rfl)) ?_
      rintro s rfl
      have := N_end (W := W) (n := n) (rb := rb) (ln := ln + 1) (x := sB (tkNum W n j 138 0 150) fun lo => sB (tkNum W n (j + 2) 134 lo 150) fun hi => .inr (lo, hi)) (g := fun _ => j + 4) (T := fun y => mupd (mupd T 0 3 y.1) 0 4 y.2) (R := fun _ => R) (NP := fun _ => NP) (NR := fun _ => NR) (dr := fun _ => dr) (M0 := t) (M := s) hW (txm b2) ?_ b2
      · have e : lnP W n j ln T R NP NR dr = sB (sB (tkNum W n j 138 0 150) fun lo => sB (tkNum W n (j + 2) 134 lo 150) fun hi => .inr (lo, hi)) fun y => enP W n (j + 4) (mupd (mupd T 0 3 y.1) 0 4 y.2) R NP NR dr := by
          unfold lnP
          rw [if_neg (by omega), if_neg (by omega), if_neg (by omega), if_neg (by omega), if_pos z]
          unfold ageP
          rw [if_neg hl0]
          simp only [sB_sB]
          rfl
        rw [e]
        exact this
      · cases hx : (sB (tkNum W n j 138 0 150) fun lo => sB (tkNum W n (j + 2) 134 lo 150) fun hi => .inr (lo, hi) : (Int × Nat) ⊕ (Int × Int)) with
        | inl e => rw [hx] at b1; exact b1
        | inr y => rw [hx] at b1; exact ⟨b1, ll⟩
  · -- a person
    have nm := (word_nm hr (i := 0) (u := [112, 101, 114, 115, 111, 110]) (by omega) rfl).1.trans (show nmM [112, 101, 114, 115, 111, 110] = 123581014175598 by decide)
    have h8 : ¬ T 0 0 = 8 := fulE (T 0 0 = 8) (by unfold fulB; rw [if_neg (by omega), if_pos z])
    rw [nm]
    refine Ret.bind (R := fun s => s = M7) (Ret.f (by decide) (Ret.pure rfl)) ?_
    rintro s rfl
    refine Ret.bind (R := fun q => (Sum.elim (fun e : Int × Nat => fM e.1 e.2 q ∧ e.1 ≠ 0) (fun y : (((List Int × Int) × Int) × Int × Nat) × Int × Nat => RM W n y.2.2 q ∧ LMd rb (ln + 1) (perT T y.1.1.1.2 y.1.1.2 y.1.2.1 y.2.1) R (NP ++ [y.1.1.1.1]) NR dr q) (perX W n (j + 1) T NP)) ∧ Fp (pLM rb) s q) (Ret.t (by decide) (Ret.bind (M_readPerson hW hrb hP1 r7 L7 (by omega)) fun q hq => Ret.pure hq)) ?_
    rintro t12 ⟨b1, b2⟩
    refine Ret.bind (R := fun s' => s' = t12) (Ret.f (by decide) (Ret.pure rfl)) ?_
    rintro s' rfl
    refine Ret.bind (R := fun s => s = s') (Ret.f (by decide) (Ret.pure rfl)) ?_
    rintro s2 rfl
    refine Ret.bind (R := fun s' => s' = s2) (Ret.f (by decide) (Ret.pure rfl)) ?_
    rintro s3 rfl
    refine Ret.bind (R := fun s => s = s3) (Ret.f (by decide) (Ret.pure rfl)) ?_
    rintro s4 rfl
    have := N_end (W := W) (n := n) (rb := rb) (ln := ln + 1) (x := perX W n (j + 1) T NP) (g := fun y => y.2.2) (T := fun y => perT T y.1.1.1.2 y.1.1.2 y.1.2.1 y.2.1) (R := fun _ => R) (NP := fun y => NP ++ [y.1.1.1.1]) (NR := fun _ => NR) (dr := fun _ => dr) (M0 := t) (M := s4) hW (txm (f7.tr b2)) ?_ (f7.tr b2)
    · have e : lnP W n j ln T R NP NR dr = sB (perX W n (j + 1) T NP) fun y => enP W n y.2.2 (perT T y.1.1.1.2 y.1.1.2 y.1.2.1 y.2.1) R (NP ++ [y.1.1.1.1]) NR dr := by
        unfold lnP
        rw [if_pos z]
        unfold perP perX
        rw [if_neg (by omega)]
        simp only [sB_sB]
        rfl
      rw [e]
      exact this
    · cases hx : perX W n (j + 1) T NP with
      | inl e => rw [hx] at b1; exact b1
      | inr y =>
        rw [hx] at b1
        refine ⟨b1, ?_, l2⟩
        show ((NP ++ [y.1.1.1.1]).length : Int) = T 0 0 + 1
        rw [List.length_append]
        show ((NP.length + 1 : Nat) : Int) = _
        omega
  · -- friends
    have nm := (word_nm hr (i := 5) (u := [102, 114, 105, 101, 110, 100]) (by omega) rfl).1.trans (show nmM [102, 114, 105, 101, 110, 100] = 112641580559972 by decide)
    have h20 : ¬ T 0 1 = 20 := fulE (T 0 1 = 20) (by unfold fulB; rw [if_neg (by omega), if_neg (by omega), if_pos z])
    rw [nm]
    refine Ret.bind (R := fun s => s = M7) (Ret.f (by decide) (Ret.pure rfl)) ?_
    rintro s rfl
    refine Ret.bind (R := fun s' => s' = s) (Ret.f (by decide) (Ret.pure rfl)) ?_
    rintro s rfl
    refine Ret.bind (R := fun q => (Sum.elim (fun e : Int × Nat => fM e.1 e.2 q ∧ e.1 ≠ 0) (fun y : ((Unit × Int) × Int) × Int => RM W n (j + 1 + 1 + 1 + 1 + 2) q ∧ LMd rb (ln + 1) (friT T y.1.1.2 y.1.2 y.2) R NP NR dr q) (friX W n (j + 1) T NP)) ∧ Fp (pLM rb) s q) (Ret.t (by decide) (Ret.bind (M_readFriend hW hrb hP1 r7 L7 (by omega)) fun q hq => Ret.pure hq)) ?_
    rintro t12 ⟨b1, b2⟩
    refine Ret.bind (R := fun s' => s' = t12) (Ret.f (by decide) (Ret.pure rfl)) ?_
    rintro s' rfl
    refine Ret.bind (R := fun s => s = s') (Ret.f (by decide) (Ret.pure rfl)) ?_
    rintro s2 rfl
    refine Ret.bind (R := fun s' => s' = s2) (Ret.f (by decide) (Ret.pure rfl)) ?_
    rintro s3 rfl
    have := N_end (W := W) (n := n) (rb := rb) (ln := ln + 1) (x := friX W n (j + 1) T NP) (g := fun _ => j + 6) (T := fun y => friT T y.1.1.2 y.1.2 y.2) (R := fun _ => R) (NP := fun _ => NP) (NR := fun _ => NR) (dr := fun _ => dr) (M0 := t) (M := s3) hW (txm (f7.tr b2)) ?_ (f7.tr b2)
    · have e : lnP W n j ln T R NP NR dr = sB (friX W n (j + 1) T NP) fun y => enP W n (j + 6) (friT T y.1.1.2 y.1.2 y.2) R NP NR dr := by
        unfold lnP
        rw [if_neg (by omega), if_pos z]
        unfold friP friX
        rw [if_neg (by omega)]
        simp only [sB_sB, sB_r]
        cases ha : knNm W n (j + 1) NP with
        | inl e => rfl
        | inr a =>
          simp only [sB_r]
          show (if kdJ W n (j + 2) = 134 then _ else _) = sB (if kdJ W n (j + 2) = 134 then .inr ((), a) else ftP W n (j + 2)) _
          by_cases h134 : kdJ W n (j + 2) = 134
          · rw [if_pos h134, if_pos h134, sB_r]
            show sB (knNm W n (j + 3) NP) _ = sB (knNm W n (j + 3) NP) _
            cases hb : knNm W n (j + 3) NP with
            | inl e => rfl
            | inr b =>
              simp only [sB_r]
              show (if a = b ∨ frB T a b = true then _ else _) = sB (if a = b ∨ frB T a b = true then .inl (3, plS W n (j + 3)) else .inr (((), a), b)) _
              by_cases hab : a = b ∨ frB T a b = true
              · rw [if_pos hab, if_pos hab]; rfl
              · rw [if_neg hab, if_neg hab, sB_r]; rfl
          · rw [if_neg h134, if_neg h134]; rfl
      rw [e]
      exact this
    · cases hx : friX W n (j + 1) T NP with
      | inl e => rw [hx] at b1; exact b1
      | inr y => rw [hx] at b1; exact ⟨b1, ll⟩
  · -- a right
    have nm := (word_nm hr (i := 8) (u := [114, 105, 103, 104, 116]) (by omega) rfl).1.trans (show nmM [114, 105, 103, 104, 116] = 491394656372 by decide)
    have h6 : ¬ T 0 2 = 6 := fulE (T 0 2 = 6) (by unfold fulB; rw [if_neg (by omega), if_neg (by omega), if_neg (by omega), if_pos z])
    rw [nm]
    refine Ret.bind (R := fun s => s = M7) (Ret.f (by decide) (Ret.pure rfl)) ?_
    rintro s rfl
    refine Ret.bind (R := fun s' => s' = s) (Ret.f (by decide) (Ret.pure rfl)) ?_
    rintro s rfl
    refine Ret.bind (R := fun s' => s' = s) (Ret.f (by decide) (Ret.pure rfl)) ?_
    rintro s rfl
    refine Ret.bind (R := RIQ W n rb (j + 1) (ln + 1) U T R NP NR dr s) (Ret.t (by decide) (Ret.bind (M_readRight hJ hn hV hW hrb hP1 r7 L7 j1 (by omega) hU hbs hcb) fun q hq => Ret.pure hq)) ?_
    rintro t12 ⟨b1, b2⟩
    refine Ret.bind (R := fun s' => s' = t12) (Ret.f (by decide) (Ret.pure rfl)) ?_
    rintro s' rfl
    refine Ret.bind (R := fun s => s = s') (Ret.f (by decide) (Ret.pure rfl)) ?_
    rintro s2 rfl
    have := N_endR (W := W) (n := n) (rb := rb) (ln := ln + 1) (x := sB (newNm W n (j + 1) NR) fun nm => sB (rulP W n (j + 1 + 1) U) fun x => .inr (nm, x)) (g := fun w => w.2.1) (T := fun w => mupd (mupd T 0 6 (w.2.2.1 : Int)) 0 2 (T 0 2 + 1)) (R := fun w => rset R (T 0 2).toNat w.2.2.2) (NP := fun _ => NP) (NR := fun w => NR ++ [w.1]) (dr := fun _ => dr) (M0 := t) (M := s2) hW (txm (f7.tr b2)) ?_ (f7.tr b2)
    · have e : lnP W n j ln T R NP NR dr = sB (sB (newNm W n (j + 1) NR) fun nm => sB (rulP W n (j + 1 + 1) U) fun x => .inr (nm, x)) fun w => .inr (w.2.1, mupd (mupd T 0 6 (w.2.2.1 : Int)) 0 2 (T 0 2 + 1), rset R (T 0 2).toNat w.2.2.2, NP, NR ++ [w.1], dr) := by
        unfold lnP
        rw [if_neg (by omega), if_neg (by omega), if_pos z]
        unfold rigP
        rw [if_neg (by omega), show (T 0 6).toNat = U by omega]
        simp only [sB_sB]
        rfl
      rw [e]
      exact this
    · cases hx : (sB (newNm W n (j + 1) NR) fun nm => sB (rulP W n (j + 1 + 1) U) fun x => .inr (nm, x) : (Int × Nat) ⊕ (List Int × Nat × Nat × RL)) with
      | inl e => rw [hx] at b1; exact b1
      | inr w =>
        rw [hx] at b1
        refine ⟨b1.1, b1.2, l1, ?_⟩
        show ((NR ++ [w.1]).length : Int) = T 0 2 + 1
        rw [List.length_append]
        show ((NR.length + 1 : Nat) : Int) = _
        omega
  · -- odds
    have nm := (word_nm hr (i := 9) (u := [111, 100, 100, 115]) (by omega) rfl).1.trans (show nmM [111, 100, 100, 115] = 1868850291 by decide)
    have h7 : ¬ T 0 7 = 1 := fulE (T 0 7 = 1) (by unfold fulB; rw [if_neg (by omega), if_neg (by omega), if_neg (by omega), if_neg (by omega), if_pos z])
    rw [nm]
    refine Ret.bind (R := fun s => s = M7) (Ret.f (by decide) (Ret.pure rfl)) ?_
    rintro s rfl
    refine Ret.bind (R := fun s' => s' = s) (Ret.f (by decide) (Ret.pure rfl)) ?_
    rintro s rfl
    refine Ret.bind (R := fun s' => s' = s) (Ret.f (by decide) (Ret.pure rfl)) ?_
    rintro s rfl
    refine Ret.bind (R := fun s' => s' = s) (Ret.f (by decide) (Ret.pure rfl)) ?_
    rintro s rfl
    refine Ret.bind (R := fun q => Sum.elim (fun e => NUL W n e q) (fun x => RUL W n rb bs 6 x q ∧ bs - 560 * rb + x.2.2.length ≤ 9 * x.2.1 ∧ x.2.1 ≤ 60) (rulP W n (j + 1) U) ∧ Fp (pRu rb bs 6) s q) (Ret.t (by decide) (Ret.bind (M_readRule (r := 6) hJ hn hV hW hrb hP1 r7 L7 j1 (by omega) hU hbs hcb) fun q hq => Ret.pure hq)) ?_
    rintro t12 ⟨b1, b2⟩
    refine Ret.bind (R := fun s' => s' = t12) (Ret.f (by decide) (Ret.pure rfl)) ?_
    rintro s' rfl
    have b2L := f7.tr (b2.mono (pRu_LM (by omega) (by omega)))
    have := N_endR (W := W) (n := n) (rb := rb) (ln := ln + 1) (x := rulP W n (j + 1) U) (g := fun w => w.1) (T := fun w => mupd (mupd T 0 6 (w.2.1 : Int)) 0 7 1) (R := fun w => rset R 6 w.2.2) (NP := fun _ => NP) (NR := fun _ => NR) (dr := fun _ => dr) (M0 := t) (M := s') hW (txm b2L) ?_ b2L
    · have e : lnP W n j ln T R NP NR dr = sB (rulP W n (j + 1) U) fun w => .inr (w.1, mupd (mupd T 0 6 (w.2.1 : Int)) 0 7 1, rset R 6 w.2.2, NP, NR, dr) := by
        unfold lnP
        rw [if_neg (by omega), if_neg (by omega), if_neg (by omega), if_pos z]
        unfold oddP
        rw [if_neg h7, show (T 0 6).toNat = U by omega]
      rw [e]
      exact this
    · cases hx : rulP W n (j + 1) U with
      | inl e => rw [hx] at b1; exact b1
      | inr w =>
        rw [hx] at b1
        obtain ⟨ru, g1, g2⟩ := b1
        exact ⟨⟨ru.1, ru.2.1, ru.2.2.1⟩, LM_odds hrb hP1 L7 hbs hcb ru g1 g2 b2, ll⟩
  · -- draw
    have nm := (word_nm hr (i := 11) (u := [100, 114, 97, 119]) (by omega) rfl).1.trans (show nmM [100, 114, 97, 119] = 1685217655 by decide)
    have hdr : ¬ dr = true := fun q => hf (by unfold fulB; rw [if_neg (by omega), if_neg (by omega), if_neg (by omega), if_neg (by omega), if_neg (by omega), if_pos z]; exact q)
    rw [nm]
    refine Ret.bind (R := fun s => s = M7) (Ret.f (by decide) (Ret.pure rfl)) ?_
    rintro s rfl
    refine Ret.bind (R := fun s' => s' = s) (Ret.f (by decide) (Ret.pure rfl)) ?_
    rintro s rfl
    refine Ret.bind (R := fun s' => s' = s) (Ret.f (by decide) (Ret.pure rfl)) ?_
    rintro s rfl
    refine Ret.bind (R := fun s' => s' = s) (Ret.f (by decide) (Ret.pure rfl)) ?_
    rintro s rfl
    refine Ret.bind (R := fun s' => s' = s) (Ret.f (by decide) (Ret.pure rfl)) ?_
    rintro s rfl
    refine Ret.bind (R := fun q => Sum.elim (fun e : Int × Nat => fM e.1 e.2 q ∧ e.1 ≠ 0) (fun y : Int => RM W n (j + 2) q ∧ LMd rb (ln + 1) (mupd T 0 5 y) R NP NR true q) (tkNum W n j 139 0 999) ∧ Fp (pLM rb) t q) (Ret.t (by decide) ?_) ?_
    · rw [L7.1, Int.toNat_natCast]
      refine Ret.t ⟨by omega, by omega⟩ ?_
      have r21 : RM W n (j + 1) (mupd s 402 rb 1) := r7.upd (by omega) (by omega)
      have f21 : Fp (pLM rb) t (mupd s 402 rb 1) := f7.upd (Or.inr (Or.inr (Or.inr (Or.inr (Or.inr (Or.inl ⟨rfl, rfl⟩))))))
      have L21 : LMd rb (ln + 1) T R NP NR true (mupd s 402 rb 1) := L7.set (fun c h1 h2 h3 h4 => by funext z; rw [mupd_ne _ _ h4]) rfl rfl rfl rfl rfl (fun a i ha => rfl) (by rw [mupd_ne _ _ (by omega)]; exact L7.rw.2.2.2.1) (by rw [mupd_ne _ _ (by omega)]; exact L7.rw.2.2.2.2.1) (by rw [mupd_ne _ _ (by omega)]; exact L7.rw.2.2.2.2.2.1) (by rw [mupd_same]; rfl)
      generalize mupd s 402 rb 1 = M21 at r21 f21 L21
      refine Ret.letM ?_
      refine Ret.bind (M_numeral r21 hW 0 999) ?_
      rintro q22 ⟨b1, b2⟩
      rw [L21.1, Int.toNat_natCast]
      refine Ret.t (by omega) (Ret.letM (Ret.pure ⟨?_, (f21.tr (b2.mono pTm_LM)).upd (Or.inr (Or.inl ⟨by omega, by omega, rfl⟩))⟩))
      rw [tkNm1_e z]
      cases hx : tkNm1 W n (j + 1) 0 999 with
      | inl e => rw [hx] at b1; exact ⟨fM_upd b1.1 (by omega), tkNm1_bad hx⟩
      | inr y =>
        rw [hx] at b1
        have L22 := L21.nx hP1 (b2.mono pTm_N)
        exact ⟨b1.2.upd (by omega) (by omega), L22.set (fun c h1 h2 h3 h4 => by funext z; rw [mupd_ne _ _ h1]) rfl rfl rfl rfl rfl (fun a i ha => by rw [mupd_ne _ _ (by omega)]) (by rw [mupd_ne _ _ (by omega)]; exact L22.rw.2.2.2.1) (by rw [mupd_ne _ _ (by omega)]; exact L22.rw.2.2.2.2.1) (by rw [mupd_same, b1.1]; rfl) (by rw [mupd_ne _ _ (by omega)]; exact L22.2.2.2.2.1)⟩
    rintro t24 ⟨b1, b2⟩
    have := N_end (W := W) (n := n) (rb := rb) (ln := ln + 1) (x := tkNum W n j 139 0 999) (g := fun _ => j + 2) (T := fun y => mupd T 0 5 y) (R := fun _ => R) (NP := fun _ => NP) (NR := fun _ => NR) (dr := fun _ => true) (M0 := t) (M := t24) hW (txm b2) ?_ b2
    · have e : lnP W n j ln T R NP NR dr = sB (tkNum W n j 139 0 999) fun y => enP W n (j + 2) (mupd T 0 5 y) R NP NR true := by
        unfold lnP
        rw [if_neg (by omega), if_neg (by omega), if_neg (by omega), if_neg (by omega), if_neg (by omega), if_pos z]
        unfold draP
        rw [if_neg hdr]
      rw [e]
      exact this
    · cases hx : tkNum W n j 139 0 999 with
      | inl e => rw [hx] at b1; exact b1
      | inr y => rw [hx] at b1; exact ⟨b1, ll⟩
