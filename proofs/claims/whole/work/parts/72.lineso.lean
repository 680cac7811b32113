/-! LINES: the second side: friends, rules -/
theorem G_goif {α : Type} {W : Nat → Int} {n : Nat} {x : (Int × Nat) ⊕ α} {g : α → Nat} {H : α → Prop} {M : KM} (hW : TXR W) (h : GB2 W n x g H M) : Ret (Option.bind (f_M_isGood M) (fun q => (if q = (0 : Int) then some M else Option.bind (f_M_goOn M) (fun q4 => some q4)))) (fun t => GB2 W n x (fun y => g y + 1) H t ∧ Fp pTm M t) := by
  rw [M_isGood, ob_some]
  cases x with
  | inl e =>
    rw [if_neg (fM_bad h.1 h.2)]
    exact Ret.t rfl (Ret.pure ⟨h, Fp.rf⟩)
  | inr y =>
    rw [if_pos h.1.2.2]
    exact Ret.f (by decide) (Ret.bind (M_go h.1 hW) fun q hq => Ret.pure ⟨⟨hq.1, h.2⟩, hq.2.mono pGo_m⟩)
theorem G_word {α : Type} {W : Nat → Int} {n : Nat} {x : (Int × Nat) ⊕ α} {g : α → Nat} {H : α → Prop} {M : KM} (hW : TXR W) (h : GB2 W n x g H M) {i : Nat} {u : List Int} (hu : WDS[i]? = some u) {c : Int} (hc : nmM u = c) : Ret (Option.bind (f_M_isWord c M) (fun q6 => f_M_must q6 M)) (fun t => GB2 W n (sB x fun y => if kdJ W n (g y) = 128 + (i : Int) then .inr y else ftP W n (g y)) (fun y => g y + 1) H t ∧ Fp pTm M t) := by
  cases x with
  | inl e =>
    obtain ⟨y, hy⟩ := isWord_any c M
    rw [hy, ob_some, M_must_bad (fM_bad h.1 h.2)]
    exact Ret.pure ⟨h, Fp.rf⟩
  | inr y =>
    rw [M_isWord h.1 hu hc, ob_some]
    refine (M_must h.1 hW).mono ?_
    rintro t ⟨t1, t2⟩
    refine ⟨?_, t2⟩
    show GB2 W n (if kdJ W n (g y) = 128 + (i : Int) then .inr y else ftP W n (g y)) _ _ t
    by_cases hk : kdJ W n (g y) = 128 + (i : Int)
    · rw [if_pos hk] at t1 ⊢
      exact ⟨t1, h.2⟩
    · rw [if_neg hk] at t1 ⊢
      exact ⟨t1, by show f2 W n (g y) ≠ 0; have := f2_R W n (g y); omega⟩
theorem G_known {α : Type} {W : Nat → Int} {n rb : Nat} {x : (Int × Nat) ⊕ α} {g : α → Nat} {H : α → Prop} {NP : List (List Int)} {M : KM} (h : GB2 W n x g H M) (hN : ltrN NP) (hn : nmRM 404 (8 * rb) NP M) (h8 : NP.length ≤ 8) (hrb : rb < 2) (hb : M 382 38 = (rb : Int)) (hp : M 385 rb = (NP.length : Int)) : Ret (f_M_known M) (fun q => GB2 W n (sB x fun y => sB (knNm W n (g y) NP) fun z => .inr (y, z)) (fun w : α × Int => g w.1) (fun w : α × Int => H w.1 ∧ q.1 = w.2) q.2 ∧ Fp pTm M q.2) := by
  cases x with
  | inl e =>
    rw [M_known_bad (fM_bad h.1 h.2)]
    exact Ret.pure ⟨h, Fp.rf⟩
  | inr y =>
    refine (M_known h.1 hN hn h8 hrb hb hp).mono ?_
    rintro q ⟨q1, q2⟩
    refine ⟨?_, q2.mono pFm_m⟩
    show GB2 W n (sB (knNm W n (g y) NP) fun z => .inr (y, z)) _ _ q.2
    cases hx : knNm W n (g y) NP with
    | inl e => rw [hx] at q1; exact ⟨q1.1, knNm_bad hx⟩
    | inr z =>
      rw [hx] at q1
      obtain ⟨a1, a2⟩ := q1
      exact ⟨by rw [a2]; exact h.1, h.2, a1⟩
theorem M_areFriends {rb ln : Nat} {T : TW} {R : Nat → RL} {NP NR : List (List Int)} {dr : Bool} {M : KM} (hrb : rb < 2) (hP : LTP T R NP NR ln) (h : LMd rb ln T R NP NR dr M) (a b : Int) : f_M_areFriends a b M = some (if frB T a b = true then 1 else 0) := by
  have o := hP.1.1
  have u2 := h.2.1.2.2.1
  refine Ret.some_of ?_
  unfold f_M_areFriends
  rw [h.1, Int.toNat_natCast, h.rw.2.1, w32e (n := 20 * (rb : Int)) (by omega) (by omega)]
  refine Ret.bind (R := fun e : Unit ⊕ Unit => Sum.elim (fun _ => frB T a b = true) (fun _ => ¬ frB T a b = true) e) (Ret.loop (T 0 1).toNat (fun i s => s = (i : Int) ∧ ∀ f, f < i → ¬ (T 5 f = a ∧ T 6 f = b)) ⟨rfl, fun f hf => absurd hf (Nat.not_lt_zero _)⟩ ?_ ?_) ?_
  · rintro i s hi ⟨rfl, k2⟩
    have hi' : (i : Int) < T 0 1 := by omega
    obtain ⟨v1, v2, v3⟩ := u2 i hi'
    rw [w32e (n := 20 * (rb : Int) + i) (by omega) (by omega), show (20 * (rb : Int) + i).toNat = 20 * rb + i by omega, v1, v2, w32e (n := (i : Int) + 1) (by omega) (by omega)]
    refine Ret.t (by omega) (Ret.t hi' (Ret.t (by omega) (Ret.br (fun ha => Ret.t (by omega) (Ret.br (fun hb => Ret.pure ?_) fun hb => Ret.pure ⟨rfl, fun f hf => ?_⟩)) fun ha => Ret.pure ⟨rfl, fun f hf => ?_⟩)))
    · show frB T a b = true
      unfold frB
      rw [List.any_eq_true]
      exact ⟨i, List.mem_range.mpr hi, by rw [ha, hb]; simp⟩
    · by_cases hfi : f = i
      · subst hfi; exact fun z => hb z.2
      · exact k2 f (by omega)
    · by_cases hfi : f = i
      · subst hfi; exact fun z => ha z.1
      · exact k2 f (by omega)
  · rintro s ⟨rfl, k2⟩
    refine Ret.t (by omega) (Ret.f (by omega) (Ret.pure fun hb => ?_))
    unfold frB at hb
    rw [List.any_eq_true] at hb
    obtain ⟨f, f1, f2⟩ := hb
    rw [Bool.and_eq_true, decide_eq_true_eq, decide_eq_true_eq] at f2
    exact k2 f (List.mem_range.mp f1) f2
  · rintro (y | u) he
    · have he : frB T a b = true := he
      exact Ret.pure (by rw [if_pos he])
    · have he : ¬ frB T a b = true := he
      exact Ret.pure (by rw [if_neg he])
def pFr (T : TW) (rb k j : Nat) : Prop := pTm k j ∨ ((397 ≤ k ∧ k ≤ 399) ∧ (j : Int) = 20 * rb + T 0 1)
theorem pFr_N {T : TW} {rb : Nat} : ∀ k j, pFr T rb k j → pNx T rb k j := fun k j h => h.elim Or.inl fun h => Or.inr (Or.inr (Or.inl h))
theorem pFr_LM {T : TW} {rb : Nat} (h0 : 0 ≤ T 0 1 ∧ T 0 1 < 20) : ∀ k j, pFr T rb k j → pLM rb k j := fun k j h => by
  rcases h with h | ⟨h, e⟩
  · exact pTm_LM k j h
  · exact Or.inr (Or.inr (Or.inr (Or.inl ⟨h.1, h.2, by omega, by omega⟩)))
theorem LM_friend {rb ln m : Nat} {T : TW} {R : Nat → RL} {NP NR : List (List Int)} {dr : Bool} {M : KM} (h : LMd rb ln T R NP NR dr M) (ho : okT T R) (hm : T 0 1 = (m : Int)) {a b pr : Int} (h1 : M 397 (20 * rb + m) = a) (h2 : M 398 (20 * rb + m) = b) (h3 : M 399 (20 * rb + m) = pr) : LMd rb ln (friT T a b pr) R NP NR dr (mupd M 386 rb ((m : Int) + 1)) := by
  obtain ⟨a1, ⟨⟨t1, t2, t3, t4, t5, t6, t7, t8⟩, u1, u2, u3, u4⟩, a3, a4, a5, a6, a7, a8, a9⟩ := h
  have kc : ∀ c, c ≠ 386 → mupd M 386 rb ((m : Int) + 1) c = M c := fun c hc => by funext z; rw [mupd_ne _ _ hc]
  refine ⟨by rw [kc 382 (by omega)]; exact a1, ⟨⟨by rw [kc 385 (by omega)]; exact t1, by rw [mupd_same]; show _ = T 0 1 + 1; omega, by rw [kc 387 (by omega)]; exact t3, by rw [kc 390 (by omega)]; exact t4, by rw [kc 391 (by omega)]; exact t5, by rw [kc 389 (by omega)]; exact t6, by rw [kc 388 (by omega)]; exact t7, by rw [kc 403 (by omega)]; exact t8⟩, fun p hp => ?_, fun f hf => ?_, fun r hr => ?_, fun q => ?_⟩, fun i u hu => by rw [kc 404 (by omega)]; exact a3 i u hu, fun i u hu => by rw [kc 405 (by omega)]; exact a4 i u hu, by rw [kc 402 (by omega)]; exact a5, by rw [kc 392 (by omega)]; exact a6, by rw [kc 382 (by omega)]; exact a7, fun r hr => by rw [kc 400 (by omega), kc 401 (by omega), kc 382 (by omega)]; exact a8 r hr, fun q => by rw [kc 400 (by omega), kc 401 (by omega), kc 382 (by omega)]; exact a9 q⟩
  · rw [kc 393 (by omega), kc 394 (by omega), kc 395 (by omega), kc 396 (by omega)]
    exact u1 p hp
  · have hf : (f : Int) < T 0 1 + 1 := hf
    rw [kc 397 (by omega), kc 398 (by omega), kc 399 (by omega)]
    show _ = (if (5 : Nat) = 5 ∧ f = (T 0 1).toNat then a else T 5 f) ∧ _ = (if (6 : Nat) = 6 ∧ f = (T 0 1).toNat then b else T 6 f) ∧ _ = (if (7 : Nat) = 7 ∧ f = (T 0 1).toNat then pr else T 7 f)
    by_cases hq : f = m
    · rw [if_pos ⟨rfl, by omega⟩, if_pos ⟨rfl, by omega⟩, if_pos ⟨rfl, by omega⟩, hq]
      exact ⟨h1, h2, h3⟩
    · rw [if_neg (by omega), if_neg (by omega), if_neg (by omega)]
      exact u2 f (by omega)
  · exact MRule_congr (u3 r hr) (by rw [kc 400 (by omega)]) (by rw [kc 401 (by omega)]) fun i hi => ⟨by rw [kc 406 (by omega)], by rw [kc 407 (by omega)]⟩
  · exact MRule_congr (u4 q) (by rw [kc 400 (by omega)]) (by rw [kc 401 (by omega)]) fun i hi => ⟨by rw [kc 406 (by omega)], by rw [kc 407 (by omega)]⟩
def friX (W : Nat → Int) (n j : Nat) (T : TW) (NP : List (List Int)) : (Int × Nat) ⊕ (((Unit × Int) × Int) × Int) := sB (sB (sB (sB (sB (.inr () : (Int × Nat) ⊕ Unit) fun y => sB (knNm W n j NP) fun z => .inr (y, z)) fun y => if kdJ W n (j + 1) = 128 + ((6 : Nat) : Int) then .inr y else ftP W n (j + 1)) fun y => sB (knNm W n (j + 1 + 1) NP) fun z => .inr (y, z)) fun y : (Unit × Int) × Int => if y.1.2 = y.2 ∨ frB T y.1.2 y.2 = true then .inl (3, plS W n (j + 1 + 1)) else .inr y) fun y => sB (tkNum W n (j + 1 + 1 + 1) (128 + ((7 : Nat) : Int)) 0 99) fun z => .inr (y, z)
theorem M_readFriend {W : Nat → Int} {n rb j ln : Nat} {T : TW} {R : Nat → RL} {NP NR : List (List Int)} {dr : Bool} {M : KM} (hW : TXR W) (hrb : rb < 2) (hP : LTP T R NP NR ln) (hr : RM W n j M) (h : LMd rb ln T R NP NR dr M) (h20 : T 0 1 < 20) :
    Ret (f_M_readFriend M) (fun q => (Sum.elim (fun e : Int × Nat => fM e.1 e.2 q ∧ e.1 ≠ 0) (fun y : ((Unit × Int) × Int) × Int => RM W n (j + 1 + 1 + 1 + 2) q ∧ LMd rb ln (friT T y.1.1.2 y.1.2 y.2) R NP NR dr q) (friX W n j T NP)) ∧ Fp (pLM rb) M q) := by
  have o := hP.1.1
  have l1 := hP.2.1
  have l3 := hP.2.2.2.1
  obtain ⟨m, hm⟩ := Int.eq_ofNat_of_zero_le o.2.2.1
  have rw0 := h.rw
  have b0 := h.1
  unfold f_M_readFriend
  rw [b0, Int.toNat_natCast, rw0.2.1, w32e (n := 20 * (rb : Int)) (by omega) (by omega), w32e (n := 20 * (rb : Int) + T 0 1) (by omega) (by omega), hm, show 20 * (rb : Int) + (m : Int) = ((20 * rb + m : Nat) : Int) by omega]
  refine Ret.t (by omega) (Ret.letI ?_)
  have G0 : GB2 W n (.inr () : (Int × Nat) ⊕ Unit) (fun _ => j) (fun _ => True) M := ⟨hr, trivial⟩
  refine Ret.bind (G_known G0 l3 h.2.2.1 (by omega) hrb b0 (by rw [rw0.1]; omega)) ?_
  rintro q2 ⟨a1, a2⟩
  have L2 := h.nx hP (a2.mono pTm_N)
  rw [← bnd]
  refine Ret.bind (G_goif hW a1) ?_
  rintro t5 ⟨c1, c2⟩
  have f5 := a2.tr c2
  rw [← bnd]
  refine Ret.bind (G_word hW c1 (i := 6) (u := [116, 111]) rfl (by decide)) ?_
  rintro q7 ⟨d1, d2⟩
  have f7 := f5.tr d2
  have L7 := h.nx hP (f7.mono pTm_N)
  refine Ret.bind (G_known d1 l3 L7.2.2.1 (by omega) hrb L7.1 (by rw [L7.rw.1]; omega)) ?_
  rintro q8 ⟨e1, e2⟩
  have f8 := f7.tr e2
  have L8 := h.nx hP (f8.mono pTm_N)
  rw [← bnd]
  -- are they friends already
  refine Ret.bind (R := fun t13 => GB2 W n (sB (sB (sB (sB (.inr () : (Int × Nat) ⊕ Unit) fun y => sB (knNm W n j NP) fun z => .inr (y, z)) fun y => if kdJ W n (j + 1) = 128 + ((6 : Nat) : Int) then .inr y else ftP W n (j + 1)) fun y => sB (knNm W n (j + 1 + 1) NP) fun z => .inr (y, z)) fun y : (Unit × Int) × Int => if y.1.2 = y.2 ∨ frB T y.1.2 y.2 = true then .inl (3, plS W n (j + 1 + 1)) else .inr y) (fun _ => j + 1 + 1) (fun y => q2.1 = y.1.2 ∧ q8.1 = y.2) t13 ∧ Fp pTm M t13) ?_ ?_
  · rw [M_isGood, ob_some]
    generalize hx2 : (sB (sB (sB (.inr () : (Int × Nat) ⊕ Unit) fun y => sB (knNm W n j NP) fun z => .inr (y, z)) fun y => if kdJ W n (j + 1) = 128 + ((6 : Nat) : Int) then .inr y else ftP W n (j + 1)) fun y => sB (knNm W n (j + 1 + 1) NP) fun z => .inr (y, z)) = x2 at e1 ⊢
    cases x2 with
    | inl e =>
      rw [if_neg (fM_bad e1.1 e1.2)]
      exact Ret.t rfl (Ret.pure ⟨e1, f8⟩)
    | inr y =>
      obtain ⟨r1, ⟨-, r2⟩, r3⟩ := e1
      rw [if_pos r1.2.2]
      refine Ret.f (by decide) ?_
      have r1 : RM W n (j + 1 + 1) q8.2 := r1
      have p6 := r1.2.1.1
      show Ret _ (fun t13 => GB2 W n (if y.1.2 = y.2 ∨ frB T y.1.2 y.2 = true then .inl (3, plS W n (j + 1 + 1)) else .inr y) _ _ t13 ∧ Fp pTm M t13)
      have fl : (y.1.2 = y.2 ∨ frB T y.1.2 y.2 = true) → Ret (Option.bind (f_M_fails 3 (q8.2 382 6) q8.2) (fun q => some q)) (fun t13 => GB2 W n (if y.1.2 = y.2 ∨ frB T y.1.2 y.2 = true then (.inl (3, plS W n (j + 1 + 1)) : (Int × Nat) ⊕ ((Unit × Int) × Int)) else .inr y) (fun _ => j + 1 + 1) (fun y => q2.1 = y.1.2 ∧ q8.1 = y.2) t13 ∧ Fp pTm M t13) := fun hh => by
        rw [if_pos hh, p6]
        exact Ret.bind (M_fails r1.2.2 (by rw [p6]; omega) 3 _) fun q hq => Ret.pure ⟨⟨hq.1, by show (3 : Int) ≠ 0; omega⟩, f8.tr (hq.2.mono pFm_m)⟩
      have r2 : q2.1 = y.1.2 := r2
      have r3 : q8.1 = y.2 := r3
      rw [r2, r3] at fl ⊢
      rw [M_areFriends hrb hP L8, ob_some]
      refine Ret.br (fun hab => fl (Or.inl hab)) fun hab => ?_
      by_cases hb : frB T y.1.2 y.2 = true
      · rw [if_pos hb]
        exact Ret.f (by decide) (fl (Or.inr hb))
      · rw [if_neg hb]
        refine Ret.t rfl (Ret.pure ⟨?_, f8⟩)
        rw [if_neg (fun z => z.elim hab hb)]
        exact ⟨r1, rfl, rfl⟩
  rintro t13 ⟨g1, g2⟩
  rw [← bnd]
  refine Ret.bind (G_goif hW g1) ?_
  rintro t16 ⟨i1, i2⟩
  have f16 := g2.tr i2
  rw [Int.toNat_natCast]
  refine Ret.t (by omega) (Ret.letM (Ret.t (by omega) ?_))
  have f18 : Fp (pFr T rb) M (mupd (mupd t16 397 (20 * rb + m) q2.1) 398 (20 * rb + m) q8.1) := ((f16.mono fun k j h => Or.inl h).upd (Or.inr ⟨by omega, by omega⟩)).upd (Or.inr ⟨by omega, by omega⟩)
  have G18 := (i1.upd (k := 397) (i := 20 * rb + m) (v := q2.1) (H' := fun y => q2.1 = y.1.2 ∧ q8.1 = y.2) (by omega) (by omega) (fun y _ hy => hy)).upd (k := 398) (i := 20 * rb + m) (v := q8.1) (H' := fun y => mupd (mupd t16 397 (20 * rb + m) q2.1) 398 (20 * rb + m) q8.1 397 (20 * rb + m) = y.1.2 ∧ mupd (mupd t16 397 (20 * rb + m) q2.1) 398 (20 * rb + m) q8.1 398 (20 * rb + m) = y.2) (by omega) (by omega) (fun y _ hy => ⟨by rw [mupd_ne _ _ (by omega), mupd_same]; exact hy.1, by rw [mupd_same]; exact hy.2⟩)
  generalize mupd (mupd t16 397 (20 * rb + m) q2.1) 398 (20 * rb + m) q8.1 = M18 at f18 G18
  refine Ret.letM ?_
  refine Ret.bind (G_after hW G18 (i := 7) (u := [112, 114, 105, 99, 101]) rfl (by decide) 0 99) ?_
  rintro q19 ⟨k1, k2⟩
  refine Ret.t (by omega) ?_
  have f20 : Fp (pFr T rb) M (mupd q19.2 399 (20 * rb + m) q19.1) := (f18.tr (k2.mono fun k j h => Or.inl h)).upd (Or.inr ⟨by omega, by omega⟩)
  have k19 : ∀ c, c ≠ 382 → q19.2 c = M18 c := fun c hc => k2.row fun z hz => by unfold pTm at hz; omega
  have G20 := k1.upd (k := 399) (i := 20 * rb + m) (v := q19.1) (H' := fun y => (mupd q19.2 399 (20 * rb + m) q19.1 397 (20 * rb + m) = y.1.1.2 ∧ mupd q19.2 399 (20 * rb + m) q19.1 398 (20 * rb + m) = y.1.2) ∧ mupd q19.2 399 (20 * rb + m) q19.1 399 (20 * rb + m) = y.2) (by omega) (by omega) (fun y _ hy => ⟨⟨by rw [mupd_ne _ _ (by omega), k19 397 (by omega)]; exact hy.1.1, by rw [mupd_ne _ _ (by omega), k19 398 (by omega)]; exact hy.1.2⟩, by rw [mupd_same]; exact hy.2⟩)
  generalize mupd q19.2 399 (20 * rb + m) q19.1 = M20 at f20 G20
  refine Ret.letM ?_
  have L20 := h.nx hP (f20.mono pFr_N)
  rw [L20.1, Int.toNat_natCast, L20.rw.2.1, hm, w32e (n := (m : Int) + 1) (by omega) (by omega)]
  refine Ret.t (by omega) (Ret.t (by omega) (Ret.letM (Ret.pure ⟨?_, (f20.mono (pFr_LM ⟨o.2.2.1, h20⟩)).upd (Or.inr (Or.inl ⟨by omega, by omega, rfl⟩))⟩)))
  have G20 : GB2 W n (friX W n j T NP) _ _ M20 := G20
  cases hx : friX W n j T NP with
  | inl e => rw [hx] at G20; exact ⟨fM_upd G20.1 (by omega), G20.2⟩
  | inr y =>
    rw [hx] at G20
    obtain ⟨r1, ⟨r2, r3⟩, r4⟩ := G20
    exact ⟨r1.upd (by omega) (by omega), LM_friend L20 hP.1 hm r2 r3 r4⟩
