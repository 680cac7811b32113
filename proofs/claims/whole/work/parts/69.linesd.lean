/-! LINES: the first side: people, friends -/
theorem X_opt {W : Nat → Int} {n J j ln : Nat} {T : TW} {R : Nat → RL} {NP NR : List (List Int)} {dr : Bool} {M M0 : KM} {k lo hi d : Int} {K : KM → Option (Int × KM)} {B : Int × Nat → (Int × Nat) ⊕ LST} (hJ : lastT W n J) (h : LCd W n J j ln T R NP NR dr M) (h0 : Fp pLC M0 M) (hk : k ≠ 0 ∧ k ≠ 3) (hd : M 14 9 = d) {P : KM → Prop} (hP0 : P M) (hPf : ∀ q, Fp pTn M q → P q)
    (hK : ∀ (q : KM) (y : Int × Nat), LCd W n J y.2 ln T R NP NR dr q → q 14 9 = y.1 → Fp pLC M0 q → P q → Ret (K q) (oL W n J ln (B y) M0)) :
    Ret (if M 14 5 = k then Option.bind (f_Reader_takeNumber k lo hi M) (fun q8 => (if q8.1 = (0 : Int) then some ((0 : Int), q8.2) else K q8.2)) else K M) (oL W n J ln (sB (opNm W n j k lo hi d) B) M0) := by
  unfold opNm
  rw [h.1.2.2.1]
  refine Ret.br (fun hc => ?_) fun hc => ?_
  · rw [if_pos hc]
    refine Ret.bind (L_num hJ h hk lo hi) ?_
    rintro q ⟨q1, q2⟩
    cases hx : tkNum W n j k lo hi with
    | inl e =>
      rw [hx] at q1
      exact Ret.t q1.1 (Ret.pure ⟨⟨rfl, q1.2⟩, h0.tr (q2.mono pTn_L)⟩)
    | inr y =>
      rw [hx] at q1
      obtain ⟨a1, a2, a3⟩ := q1
      exact Ret.f (by omega) (hK q.2 (y, j + 2) a2 a3 (h0.tr (q2.mono pTn_L)) (hPf _ q2))
  · rw [if_neg hc]
    exact hK M (d, j) h hd h0 hP0
theorem X_addPerson {W : Nat → Int} {n J j ln : Nat} {T : TW} {R : Nat → RL} {NP NR : List (List Int)} {dr : Bool} {M : KM} {u : List Int} (hP : LTP T R NP NR ln) (h : LCd W n J j ln T R NP NR dr M) (hu : nmRC 32 (NP ++ [u]) M) (h8 : T 0 0 < 8) (age coin nd fa : Int) : Ret (f_Town_addPerson age coin nd fa M) (fun q => LCd W n J j ln (perT T age coin nd fa) R (NP ++ [u]) NR dr q ∧ Fp pLC M q) := by
  have o := hP.1.1
  obtain ⟨⟨⟨t1, t2, t3, t4, t5, t6, t7⟩, u1, u2, u3, u4, u5⟩, d2, d3⟩ := h.2.1
  have t1 : M 15 0 = T 0 0 := t1
  obtain ⟨m, hm⟩ := Int.eq_ofNat_of_zero_le o.1
  unfold f_Town_addPerson
  rw [t1, hm, putM_nat _ _ _ _ (show m < 8 by omega), letM_e, mupd_ne _ _ (show (15 : Nat) ≠ 16 by omega), t1, hm, putM_nat _ _ _ _ (show m < 8 by omega), letM_e, mupd_ne _ _ (show (15 : Nat) ≠ 17 by omega), mupd_ne _ _ (show (15 : Nat) ≠ 16 by omega), t1, hm, putM_nat _ _ _ _ (show m < 8 by omega), letM_e, mupd_ne _ _ (show (15 : Nat) ≠ 18 by omega), mupd_ne _ _ (show (15 : Nat) ≠ 17 by omega), mupd_ne _ _ (show (15 : Nat) ≠ 16 by omega), t1, hm, putM_nat _ _ _ _ (show m < 8 by omega), letM_e, mupd_ne _ _ (show (15 : Nat) ≠ 19 by omega), mupd_ne _ _ (show (15 : Nat) ≠ 18 by omega), mupd_ne _ _ (show (15 : Nat) ≠ 17 by omega), mupd_ne _ _ (show (15 : Nat) ≠ 16 by omega), t1, hm, w32e (by omega) (by omega)]
  have kc : ∀ c, c ≠ 15 → c ≠ 16 → c ≠ 17 → c ≠ 18 → c ≠ 19 → mupd (mupd (mupd (mupd (mupd M 16 m age) 17 m coin) 18 m nd) 19 m fa) 15 0 ((m : Int) + 1) c = M c := fun c h1 h2 h3 h4 h5 => by funext z; rw [mupd_ne _ _ h1, mupd_ne _ _ h5, mupd_ne _ _ h4, mupd_ne _ _ h3, mupd_ne _ _ h2]
  have k15 : ∀ i, i ≠ 0 → mupd (mupd (mupd (mupd (mupd M 16 m age) 17 m coin) 18 m nd) 19 m fa) 15 0 ((m : Int) + 1) 15 i = M 15 i := fun i hi => by rw [mupd_ne2 _ _ hi, mupd_ne _ _ (by omega), mupd_ne _ _ (by omega), mupd_ne _ _ (by omega), mupd_ne _ _ (by omega)]
  have e16 : ∀ p, mupd (mupd (mupd (mupd (mupd M 16 m age) 17 m coin) 18 m nd) 19 m fa) 15 0 ((m : Int) + 1) 16 p = if p = m then age else M 16 p := fun p => by rw [mupd_ne _ _ (by omega), mupd_ne _ _ (by omega), mupd_ne _ _ (by omega), mupd_ne _ _ (by omega), mupd_at]; exact ifc (by omega)
  have e17 : ∀ p, mupd (mupd (mupd (mupd (mupd M 16 m age) 17 m coin) 18 m nd) 19 m fa) 15 0 ((m : Int) + 1) 17 p = if p = m then coin else M 17 p := fun p => by rw [mupd_ne _ _ (by omega), mupd_ne _ _ (by omega), mupd_ne _ _ (by omega), mupd_at, mupd_ne _ _ (by omega)]; exact ifc (by omega)
  have e18 : ∀ p, mupd (mupd (mupd (mupd (mupd M 16 m age) 17 m coin) 18 m nd) 19 m fa) 15 0 ((m : Int) + 1) 18 p = if p = m then nd else M 18 p := fun p => by rw [mupd_ne _ _ (by omega), mupd_ne _ _ (by omega), mupd_at, mupd_ne _ _ (by omega), mupd_ne _ _ (by omega)]; exact ifc (by omega)
  have e19 : ∀ p, mupd (mupd (mupd (mupd (mupd M 16 m age) 17 m coin) 18 m nd) 19 m fa) 15 0 ((m : Int) + 1) 19 p = if p = m then fa else M 19 p := fun p => by rw [mupd_ne _ _ (by omega), mupd_at, mupd_ne _ _ (by omega), mupd_ne _ _ (by omega), mupd_ne _ _ (by omega)]; exact ifc (by omega)
  have e0 : mupd (mupd (mupd (mupd (mupd M 16 m age) 17 m coin) 18 m nd) 19 m fa) 15 0 ((m : Int) + 1) 15 0 = (m : Int) + 1 := mupd_same _ _ _ _
  have fr : Fp pLC M (mupd (mupd (mupd (mupd (mupd M 16 m age) 17 m coin) 18 m nd) 19 m fa) 15 0 ((m : Int) + 1)) := ((((Fp.rf.upd ⟨by omega, by omega⟩).upd ⟨by omega, by omega⟩).upd ⟨by omega, by omega⟩).upd ⟨by omega, by omega⟩).upd ⟨by omega, by omega⟩
  generalize mupd (mupd (mupd (mupd (mupd M 16 m age) 17 m coin) 18 m nd) 19 m fa) 15 0 ((m : Int) + 1) = M' at *
  have kr : ∀ (s : Int) (K : RL), CRule 15 M s K → CRule 15 M' s K := fun s K hs => CRule_congr hs (by rw [kc 24 (by omega) (by omega) (by omega) (by omega) (by omega)]) (kc 25 (by omega) (by omega) (by omega) (by omega) (by omega))
  refine Ret.letM (Ret.pure ⟨h.set (fun c h1 h2 => kc c (by omega) (by omega) (by omega) (by omega) (by omega)) (by rw [kc 14 (by omega) (by omega) (by omega) (by omega) (by omega)]) (by rw [kc 14 (by omega) (by omega) (by omega) (by omega) (by omega)]) ⟨⟨⟨?_, ?_, ?_, ?_, ?_, ?_, ?_⟩, fun p hp => ?_, fun f hf => ?_, fun q hq => ?_, ⟨fun z => ?_, fun z => ?_⟩, ?_⟩, fun i w hw => ?_, fun i w hw => ?_⟩ (by rw [kc 14 (by omega) (by omega) (by omega) (by omega) (by omega)]; exact h.2.2.1) (by rw [kc 14 (by omega) (by omega) (by omega) (by omega) (by omega)]) (by rw [kc 24 (by omega) (by omega) (by omega) (by omega) (by omega)]; exact h.2.2.2.2) (by rw [kc 14 (by omega) (by omega) (by omega) (by omega) (by omega)]; exact ⟨rfl, rfl⟩), fr⟩)
  · show M' 15 0 = T 0 0 + 1; rw [e0, hm]
  · show M' 15 5 = _; rw [k15 5 (by omega)]; exact t2
  · show M' 15 9 = _; rw [k15 9 (by omega)]; exact t3
  · show M' 15 12 = _; rw [k15 12 (by omega)]; exact t4
  · show M' 15 13 = _; rw [k15 13 (by omega)]; exact t5
  · show M' 15 14 = _; rw [k15 14 (by omega)]; exact t6
  · show M' 15 15 = _; rw [k15 15 (by omega)]; exact t7
  · have hp : (p : Int) < T 0 0 + 1 := hp
    show M' 16 p = (if (1 : Nat) = 1 ∧ p = (T 0 0).toNat then age else T 1 p) ∧ M' 17 p = (if (2 : Nat) = 2 ∧ p = (T 0 0).toNat then coin else T 2 p) ∧ M' 18 p = (if (3 : Nat) = 3 ∧ p = (T 0 0).toNat then nd else T 3 p) ∧ M' 19 p = (if (4 : Nat) = 4 ∧ p = (T 0 0).toNat then fa else T 4 p)
    rw [e16, e17, e18, e19]
    by_cases hq : p = m
    · rw [if_pos hq, if_pos hq, if_pos hq, if_pos hq, if_pos ⟨rfl, by omega⟩, if_pos ⟨rfl, by omega⟩, if_pos ⟨rfl, by omega⟩, if_pos ⟨rfl, by omega⟩]
      exact ⟨rfl, rfl, rfl, rfl⟩
    · rw [if_neg hq, if_neg hq, if_neg hq, if_neg hq, if_neg (by omega), if_neg (by omega), if_neg (by omega), if_neg (by omega)]
      exact u1 p (by omega)
  · show M' 20 f = _ ∧ M' 21 f = _ ∧ M' 22 f = _
    rw [kc 20 (by omega) (by omega) (by omega) (by omega) (by omega), kc 21 (by omega) (by omega) (by omega) (by omega) (by omega), kc 22 (by omega) (by omega) (by omega) (by omega) (by omega)]
    exact u2 f hf
  · show CRule 15 M' (M' 23 q) (R q)
    rw [kc 23 (by omega) (by omega) (by omega) (by omega) (by omega)]
    exact kr _ _ (u3 q hq)
  · show M' 15 11 = -1
    rw [k15 11 (by omega)]; exact u4.1 z
  · show CRule 15 M' (M' 15 11) (R 6)
    rw [k15 11 (by omega)]; exact kr _ _ (u4.2 z)
  · show 0 ≤ M' 24 1 ∧ M' 24 1 ≤ 1600
    rw [kc 24 (by omega) (by omega) (by omega) (by omega) (by omega)]; exact u5
  · rw [kc 32 (by omega) (by omega) (by omega) (by omega) (by omega)]; exact hu i w hw
  · rw [kc 33 (by omega) (by omega) (by omega) (by omega) (by omega)]; exact d3 i w hw
theorem X_personLine {W : Nat → Int} {n J j ln : Nat} {T : TW} {R : Nat → RL} {NP NR : List (List Int)} {dr : Bool} {M : KM} (hJ : lastT W n J) (hP : LTP T R NP NR ln) (h : LCd W n J j ln T R NP NR dr M) (hk : kdJ W n j = 128) : Ret (f_Reader_personLine M) (oL W n J ln (perP W n j T R NP NR dr) M) := by
  have o := hP.1.1
  have e0 : M 15 0 = T 0 0 := h.2.1.1.1.1
  unfold f_Reader_personLine perP
  rw [e0]
  by_cases h8 : 8 ≤ T 0 0
  · rw [if_pos h8]
    exact Ret.f (by omega) (L_flt h Fp.rf)
  rw [if_neg h8]
  refine Ret.t (by omega) ?_
  refine Ret.bind (X_step h.1 (good_of hk (by decide)) hJ) ?_
  rintro q1 ⟨a1, a2⟩
  have hc1 := h.tok (a2.mono fun k j h => pTk_n k j (pS_k k j h)) a1 (by omega)
  refine Ret.bind (X_newNameP hJ hP hc1 (by omega)) ?_
  rintro q2 ⟨b1, b2⟩
  have fr2 : Fp pLC M q2.2 := (a2.mono pS_L).tr b2
  cases hx : newNm W n (j + 1) NP with
  | inl e =>
    rw [hx] at b1
    exact Ret.t b1.1 (Ret.pure ⟨⟨rfl, b1.2⟩, fr2⟩)
  | inr nm =>
    rw [hx] at b1
    obtain ⟨g1, hc2, g3, g4⟩ := b1
    refine Ret.f (by omega) ?_
    obtain ⟨⟨t1, t2, t3, t4, t5, t6, t7⟩, -⟩ := hc2.2.1.1
    have t4 : q2.2 15 12 = T 0 3 := t4
    have t5 : q2.2 15 13 = T 0 4 := t5
    rw [t4, t5]
    have keepN : ∀ {A B : KM}, Fp pTn A B → nmRC 32 (NP ++ [nm]) A → nmRC 32 (NP ++ [nm]) B := fun hf hn i u hu => by rw [hf 32 i (by unfold pTn; omega)]; exact hn i u hu
    refine Ret.bind (L_num hJ hc2 (by decide) (T 0 3) (T 0 4)) ?_
    rintro q3 ⟨c1, c2⟩
    show Ret _ (oL W n J ln (sB (tkNum W n (j + 2) 129 (T 0 3) (T 0 4)) fun age => sB (tkNum W n (j + 4) 130 0 999) fun coin => sB (opNm W n (j + 6) 131 (T 0 3) (T 0 4) age) fun nd => sB (opNm W n nd.2 132 0 3 0) fun fa => enP W n fa.2 (perT T age coin nd.1 fa.1) R (NP ++ [nm]) NR dr) M)
    have fr3 : Fp pLC M q3.2 := fr2.tr (c2.mono pTn_L)
    rw [show j + 1 + 1 = j + 2 by omega] at c1
    cases hx2 : tkNum W n (j + 2) 129 (T 0 3) (T 0 4) with
    | inl e =>
      rw [hx2] at c1
      exact Ret.t c1.1 (Ret.pure ⟨⟨rfl, c1.2⟩, fr3⟩)
    | inr age =>
      rw [hx2] at c1
      obtain ⟨d1, hc3, d3⟩ := c1
      refine Ret.f (by omega) ?_
      rw [d3]
      refine Ret.letI ?_
      refine Ret.bind (L_num hJ hc3 (by decide) 0 999) ?_
      rintro q5 ⟨e1, e2⟩
      show Ret _ (oL W n J ln (sB (tkNum W n (j + 4) 130 0 999) fun coin => sB (opNm W n (j + 6) 131 (T 0 3) (T 0 4) age) fun nd => sB (opNm W n nd.2 132 0 3 0) fun fa => enP W n fa.2 (perT T age coin nd.1 fa.1) R (NP ++ [nm]) NR dr) M)
      have fr5 : Fp pLC M q5.2 := fr3.tr (e2.mono pTn_L)
      rw [show j + 2 + 2 = j + 4 by omega] at e1
      cases hx3 : tkNum W n (j + 4) 130 0 999 with
      | inl e =>
        rw [hx3] at e1
        exact Ret.t e1.1 (Ret.pure ⟨⟨rfl, e1.2⟩, fr5⟩)
      | inr coin =>
        rw [hx3] at e1
        obtain ⟨i1, hc5, i3⟩ := e1
        refine Ret.f (by omega) ?_
        rw [i3]
        refine Ret.letI ?_
        have hn5 := keepN e2 (keepN c2 g3)
        have f9 : Fp pTn q5.2 (mupd q5.2 14 9 age) := Fp.rf.upd ⟨rfl, by omega⟩
        have hc7 : LCd W n J (j + 6) ln T R NP NR dr (mupd q5.2 14 9 age) := hc5.tok f9 (RC.congr hc5.1 (mupd_ne2 _ _ (by omega)) (mupd_ne2 _ _ (by omega)) (fun c h1 h2 => by funext z; rw [mupd_ne _ _ (by omega)])) (Nat.le_refl _)
        have hn7 := keepN f9 hn5
        have e9 : mupd q5.2 14 9 age 14 9 = age := mupd_same _ _ _ _
        have fr7 : Fp pLC M (mupd q5.2 14 9 age) := fr5.tr (f9.mono pTn_L)
        generalize mupd q5.2 14 9 age = M7 at hc7 hn7 e9 fr7
        refine Ret.letM ?_
        have e12 : M7 15 12 = T 0 3 := hc7.2.1.1.1.2.2.2.1
        have e13 : M7 15 13 = T 0 4 := hc7.2.1.1.1.2.2.2.2.1
        rw [e12, e13]
        refine X_opt (P := nmRC 32 (NP ++ [nm])) (K := fun M11 => J_Reader_personLine_135 M age coin M11) hJ hc7 fr7 (by decide) e9 hn7 (fun q hq => keepN hq hn7) ?_
        intro M11 y hc11 e11 fr11 hn11
        unfold J_Reader_personLine_135
        rw [e11]
        refine Ret.letI ?_
        have f13 : Fp pTn M11 (mupd M11 14 9 0) := Fp.rf.upd ⟨rfl, by omega⟩
        have hc13 : LCd W n J y.2 ln T R NP NR dr (mupd M11 14 9 0) := hc11.tok f13 (RC.congr hc11.1 (mupd_ne2 _ _ (by omega)) (mupd_ne2 _ _ (by omega)) (fun c h1 h2 => by funext z; rw [mupd_ne _ _ (by omega)])) (Nat.le_refl _)
        have hn13 := keepN f13 hn11
        have fr13 : Fp pLC M (mupd M11 14 9 0) := fr11.tr (f13.mono pTn_L)
        have e9b : mupd M11 14 9 0 14 9 = 0 := mupd_same _ _ _ _
        generalize mupd M11 14 9 0 = M13 at hc13 hn13 fr13 e9b
        refine Ret.letM ?_
        refine X_opt (P := nmRC 32 (NP ++ [nm])) (K := fun M18 => J_Reader_personLine_169 M11 age coin y.1 M18) hJ hc13 fr13 (by decide) e9b hn13 (fun q hq => keepN hq hn13) ?_
        intro M18 z hc18 e18 fr18 hn18
        unfold J_Reader_personLine_169
        rw [e18]
        refine Ret.bind (X_addPerson hP hc18 hn18 (by omega) age coin y.1 z.1) ?_
        rintro q19 ⟨k1, k2⟩
        exact L_end hJ k1 (fr18.tr k2)
theorem X_friendsOfD {W : Nat → Int} {n J j ln : Nat} {T : TW} {R : Nat → RL} {NP NR : List (List Int)} {dr : Bool} {M : KM} (hP : LTP T R NP NR ln) (h : LCd W n J j ln T R NP NR dr M) (a b : Int) : Ret (f_Town_friendsOfD a b M) (fun y => y = -1 ↔ ¬ frB T a b = true) := by
  have o := hP.1.1
  obtain ⟨⟨t1, t2, -⟩, u1, u2, -⟩ := h.2.1.1
  have t2 : M 15 5 = T 0 1 := t2
  unfold f_Town_friendsOfD
  rw [t2]
  refine Ret.bind (R := fun e : Int ⊕ Unit => Sum.elim (fun y : Int => 0 ≤ y ∧ frB T a b = true) (fun _ => ¬ frB T a b = true) e) (Ret.loop (T 0 1).toNat (fun i s => s = (i : Int) ∧ ∀ f, f < i → ¬ (T 5 f = a ∧ T 6 f = b)) ⟨rfl, fun f hf => absurd hf (Nat.not_lt_zero _)⟩ ?_ ?_) ?_
  · rintro i s hi ⟨rfl, k2⟩
    have hi' : (i : Int) < T 0 1 := by omega
    obtain ⟨v1, v2, v3⟩ := u2 i hi'
    have v1 : M 20 i = T 5 i := v1
    have v2 : M 21 i = T 6 i := v2
    rw [Int.toNat_natCast, v1, v2, w32e (n := (i : Int) + 1) (by omega) (by omega)]
    refine Ret.t hi' (Ret.t (by omega) (Ret.t (by omega) (Ret.t (by omega) (Ret.br (fun ha => Ret.t (by omega) (Ret.br (fun hb => Ret.pure ⟨by omega, ?_⟩) fun hb => Ret.pure ⟨rfl, fun f hf => ?_⟩)) fun ha => Ret.pure ⟨rfl, fun f hf => ?_⟩))))
    · unfold frB
      rw [List.any_eq_true]
      exact ⟨i, List.mem_range.mpr hi, by rw [ha, hb]; simp⟩
    · by_cases hfi : f = i
      · subst hfi; exact fun z => hb z.2
      · exact k2 f (by omega)
    · by_cases hfi : f = i
      · subst hfi; exact fun z => ha z.1
      · exact k2 f (by omega)
  · rintro s ⟨rfl, k2⟩
    refine Ret.f (by omega) (Ret.pure fun hb => ?_)
    unfold frB at hb
    rw [List.any_eq_true] at hb
    obtain ⟨f, f1, f2⟩ := hb
    rw [Bool.and_eq_true, decide_eq_true_eq, decide_eq_true_eq] at f2
    exact k2 f (List.mem_range.mp f1) f2
  · rintro (y | u) he
    · have he : 0 ≤ y ∧ frB T a b = true := he
      exact Ret.pure ⟨fun z => by omega, fun z => absurd he.2 z⟩
    · exact Ret.pure ⟨fun _ => he, fun _ => rfl⟩
theorem X_addFriends {W : Nat → Int} {n J j ln : Nat} {T : TW} {R : Nat → RL} {NP NR : List (List Int)} {dr : Bool} {M : KM} (hP : LTP T R NP NR ln) (h : LCd W n J j ln T R NP NR dr M) (h20 : T 0 1 < 20) (a b pr : Int) : Ret (f_Town_addFriends a b pr M) (fun q => LCd W n J j ln (friT T a b pr) R NP NR dr q ∧ Fp pLC M q) := by
  have o := hP.1.1
  obtain ⟨⟨⟨t1, t2, t3, t4, t5, t6, t7⟩, u1, u2, u3, u4, u5⟩, d2, d3⟩ := h.2.1
  have t2 : M 15 5 = T 0 1 := t2
  obtain ⟨m, hm⟩ := Int.eq_ofNat_of_zero_le o.2.2.1
  unfold f_Town_addFriends
  rw [t2, hm, putM_nat _ _ _ _ (show m < 20 by omega), letM_e, mupd_ne _ _ (show (15 : Nat) ≠ 20 by omega), t2, hm, putM_nat _ _ _ _ (show m < 20 by omega), letM_e, mupd_ne _ _ (show (15 : Nat) ≠ 21 by omega), mupd_ne _ _ (show (15 : Nat) ≠ 20 by omega), t2, hm, putM_nat _ _ _ _ (show m < 20 by omega), letM_e, mupd_ne _ _ (show (15 : Nat) ≠ 22 by omega), mupd_ne _ _ (show (15 : Nat) ≠ 21 by omega), mupd_ne _ _ (show (15 : Nat) ≠ 20 by omega), t2, hm, w32e (by omega) (by omega)]
  have kc : ∀ c, c ≠ 15 → c ≠ 20 → c ≠ 21 → c ≠ 22 → mupd (mupd (mupd (mupd M 20 m a) 21 m b) 22 m pr) 15 5 ((m : Int) + 1) c = M c := fun c h1 h2 h3 h4 => by funext z; rw [mupd_ne _ _ h1, mupd_ne _ _ h4, mupd_ne _ _ h3, mupd_ne _ _ h2]
  have k15 : ∀ i, i ≠ 5 → mupd (mupd (mupd (mupd M 20 m a) 21 m b) 22 m pr) 15 5 ((m : Int) + 1) 15 i = M 15 i := fun i hi => by rw [mupd_ne2 _ _ hi, mupd_ne _ _ (by omega), mupd_ne _ _ (by omega), mupd_ne _ _ (by omega)]
  have e20 : ∀ p, mupd (mupd (mupd (mupd M 20 m a) 21 m b) 22 m pr) 15 5 ((m : Int) + 1) 20 p = if p = m then a else M 20 p := fun p => by rw [mupd_ne _ _ (by omega), mupd_ne _ _ (by omega), mupd_ne _ _ (by omega), mupd_at]; exact ifc (by omega)
  have e21 : ∀ p, mupd (mupd (mupd (mupd M 20 m a) 21 m b) 22 m pr) 15 5 ((m : Int) + 1) 21 p = if p = m then b else M 21 p := fun p => by rw [mupd_ne _ _ (by omega), mupd_ne _ _ (by omega), mupd_at, mupd_ne _ _ (by omega)]; exact ifc (by omega)
  have e22 : ∀ p, mupd (mupd (mupd (mupd M 20 m a) 21 m b) 22 m pr) 15 5 ((m : Int) + 1) 22 p = if p = m then pr else M 22 p := fun p => by rw [mupd_ne _ _ (by omega), mupd_at, mupd_ne _ _ (by omega), mupd_ne _ _ (by omega)]; exact ifc (by omega)
  have e5 : mupd (mupd (mupd (mupd M 20 m a) 21 m b) 22 m pr) 15 5 ((m : Int) + 1) 15 5 = (m : Int) + 1 := mupd_same _ _ _ _
  have fr : Fp pLC M (mupd (mupd (mupd (mupd M 20 m a) 21 m b) 22 m pr) 15 5 ((m : Int) + 1)) := (((Fp.rf.upd ⟨by omega, by omega⟩).upd ⟨by omega, by omega⟩).upd ⟨by omega, by omega⟩).upd ⟨by omega, by omega⟩
  generalize mupd (mupd (mupd (mupd M 20 m a) 21 m b) 22 m pr) 15 5 ((m : Int) + 1) = M' at *
  have kr : ∀ (s : Int) (K : RL), CRule 15 M s K → CRule 15 M' s K := fun s K hs => CRule_congr hs (by rw [kc 24 (by omega) (by omega) (by omega) (by omega)]) (kc 25 (by omega) (by omega) (by omega) (by omega))
  refine Ret.letM (Ret.pure ⟨h.set (fun c h1 h2 => kc c (by omega) (by omega) (by omega) (by omega)) (by rw [kc 14 (by omega) (by omega) (by omega) (by omega)]) (by rw [kc 14 (by omega) (by omega) (by omega) (by omega)]) ⟨⟨⟨?_, ?_, ?_, ?_, ?_, ?_, ?_⟩, fun p hp => ?_, fun f hf => ?_, fun q hq => ?_, ⟨fun z => ?_, fun z => ?_⟩, ?_⟩, fun i w hw => ?_, fun i w hw => ?_⟩ (by rw [kc 14 (by omega) (by omega) (by omega) (by omega)]; exact h.2.2.1) (by rw [kc 14 (by omega) (by omega) (by omega) (by omega)]) (by rw [kc 24 (by omega) (by omega) (by omega) (by omega)]; exact h.2.2.2.2) (by rw [kc 14 (by omega) (by omega) (by omega) (by omega)]; exact ⟨rfl, rfl⟩), fr⟩)
  · show M' 15 0 = _; rw [k15 0 (by omega)]; exact t1
  · show M' 15 5 = T 0 1 + 1; rw [e5, hm]
  · show M' 15 9 = _; rw [k15 9 (by omega)]; exact t3
  · show M' 15 12 = _; rw [k15 12 (by omega)]; exact t4
  · show M' 15 13 = _; rw [k15 13 (by omega)]; exact t5
  · show M' 15 14 = _; rw [k15 14 (by omega)]; exact t6
  · show M' 15 15 = _; rw [k15 15 (by omega)]; exact t7
  · show M' 16 p = _ ∧ M' 17 p = _ ∧ M' 18 p = _ ∧ M' 19 p = _
    rw [kc 16 (by omega) (by omega) (by omega) (by omega), kc 17 (by omega) (by omega) (by omega) (by omega), kc 18 (by omega) (by omega) (by omega) (by omega), kc 19 (by omega) (by omega) (by omega) (by omega)]
    exact u1 p hp
  · have hf : (f : Int) < T 0 1 + 1 := hf
    show M' 20 f = (if (5 : Nat) = 5 ∧ f = (T 0 1).toNat then a else T 5 f) ∧ M' 21 f = (if (6 : Nat) = 6 ∧ f = (T 0 1).toNat then b else T 6 f) ∧ M' 22 f = (if (7 : Nat) = 7 ∧ f = (T 0 1).toNat then pr else T 7 f)
    rw [e20, e21, e22]
    by_cases hq : f = m
    · rw [if_pos hq, if_pos hq, if_pos hq, if_pos ⟨rfl, by omega⟩, if_pos ⟨rfl, by omega⟩, if_pos ⟨rfl, by omega⟩]
      exact ⟨rfl, rfl, rfl⟩
    · rw [if_neg hq, if_neg hq, if_neg hq, if_neg (by omega), if_neg (by omega), if_neg (by omega)]
      exact u2 f (by omega)
  · show CRule 15 M' (M' 23 q) (R q)
    rw [kc 23 (by omega) (by omega) (by omega) (by omega)]
    exact kr _ _ (u3 q hq)
  · show M' 15 11 = -1
    rw [k15 11 (by omega)]; exact u4.1 z
  · show CRule 15 M' (M' 15 11) (R 6)
    rw [k15 11 (by omega)]; exact kr _ _ (u4.2 z)
  · show 0 ≤ M' 24 1 ∧ M' 24 1 ≤ 1600
    rw [kc 24 (by omega) (by omega) (by omega) (by omega)]; exact u5
  · rw [kc 32 (by omega) (by omega) (by omega) (by omega)]; exact d2 i w hw
  · rw [kc 33 (by omega) (by omega) (by omega) (by omega)]; exact d3 i w hw
theorem X_isSomebody {W : Nat → Int} {n J j : Nat} {N : List (List Int)} {M : KM} (h : RC W n J j M) {y : Int} (hy : kdJ W n j = 1 → y = nmIx (tkW W n (plS W n j)) N) : Ret (f_Reader_isSomebody y M) (fun q => Sum.elim (fun e : Int × Nat => q.1 = 0 ∧ fC e.1 e.2 q.2) (fun z => q.1 = 1 ∧ y = z ∧ q.2 = M) (knNm W n j N) ∧ Fp pF M q.2) := by
  unfold f_Reader_isSomebody
  rw [h.2.2.1]
  refine Ret.br (fun hk => ?_) fun hk => ?_
  · rw [hy hk]
    by_cases hx : nmIx (tkW W n (plS W n j)) N = -1
    · have ek : knNm W n j N = .inl (5, plS W n j) := by unfold knNm; rw [if_pos hk, if_pos hx]
      rw [ek]
      refine Ret.bind (R := fun q => q.1 = 0 ∧ fC 5 (plS W n j) q.2 ∧ Fp pF M q.2) (Ret.t hx (Ret.bind (X_refuse h 5) ?_)) ?_
      · rintro q ⟨q1, q2, q3⟩
        rw [if_neg (show ¬ kdJ W n j = 0 by omega)] at q2
        exact Ret.t q1 (Ret.pure ⟨rfl, q2, q3⟩)
      · rintro q ⟨q1, q2, q3⟩
        exact Ret.t (by omega) (Ret.pure ⟨⟨q1, q2⟩, q3⟩)
    · have ek : knNm W n j N = .inr (nmIx (tkW W n (plS W n j)) N) := by unfold knNm; rw [if_pos hk, if_neg hx]
      rw [ek]
      refine Ret.bind (R := fun q => q = (1, M)) (Ret.f hx (Ret.pure rfl)) ?_
      rintro q rfl
      exact Ret.t ⟨(by decide : (0 : Int) ≤ 1), Int.le_refl _⟩ (Ret.pure ⟨⟨rfl, rfl, rfl⟩, Fp.rf⟩)
  · have ek : knNm W n j N = .inl (f2 W n j, plS W n j) := by unfold knNm; rw [if_neg hk]
    rw [ek]
    refine Ret.bind (X_refuse h 2) ?_
    rintro q ⟨q1, q2, q3⟩
    exact Ret.t (by omega) (Ret.pure ⟨⟨q1, q2⟩, q3⟩)
theorem X_friendLine {W : Nat → Int} {n J j ln : Nat} {T : TW} {R : Nat → RL} {NP NR : List (List Int)} {dr : Bool} {M : KM} (hJ : lastT W n J) (hP : LTP T R NP NR ln) (h : LCd W n J j ln T R NP NR dr M) (hk : kdJ W n j = 133) : Ret (f_Reader_friendLine M) (oL W n J ln (friP W n j T R NP NR dr) M) := by
  have o := hP.1.1
  have l1 := hP.2.1
  have l3 := hP.2.2.2.1
  have e5 : M 15 5 = T 0 1 := h.2.1.1.1.2.1
  unfold f_Reader_friendLine friP
  rw [e5]
  by_cases h20 : 20 ≤ T 0 1
  · rw [if_pos h20]
    exact Ret.f (by omega) (L_flt h Fp.rf)
  rw [if_neg h20]
  refine Ret.t (by omega) ?_
  refine Ret.bind (X_step h.1 (good_of hk (by decide)) hJ) ?_
  rintro q1 ⟨a1, a2⟩
  have hc1 := h.tok (a2.mono fun k j h => pTk_n k j (pS_k k j h)) a1 (by omega)
  have fr1 : Fp pLC M q1 := a2.mono pS_L
  have e0 : q1 15 0 = (NP.length : Int) := by rw [l1]; exact hc1.2.1.1.1.1
  rw [e0]
  refine Ret.bind (X_placeP hc1.1 l3 hc1.2.1.2.1 (by omega)) ?_
  rintro y1 ⟨-, y2⟩
  refine Ret.bind (X_isSomebody hc1.1 y2) ?_
  rintro q3 ⟨b1, b2⟩
  cases hx : knNm W n (j + 1) NP with
  | inl e =>
    rw [hx] at b1
    exact Ret.t b1.1 (Ret.pure ⟨⟨rfl, b1.2⟩, fr1.tr (b2.mono pF_L)⟩)
  | inr a =>
    rw [hx] at b1
    obtain ⟨b3, b4, b5⟩ := b1
    have kr := knNm_R hx
    refine Ret.f (by omega) ?_
    rw [b5]
    refine Ret.bind (X_step hc1.1 (good_of kr.2.2 (by decide)) hJ) ?_
    rintro q4 ⟨c1, c2⟩
    have hc4 := hc1.tok (c2.mono fun k j h => pTk_n k j (pS_k k j h)) c1 (by omega)
    have fr4 : Fp pLC M q4 := fr1.tr (c2.mono pS_L)
    refine Ret.bind (X_take hc4.1 hJ (k := 134) (by decide)) ?_
    rintro q5 ⟨d1, d2⟩
    rw [show j + 1 + 1 = j + 2 by omega] at d1
    have fr5 : Fp pLC M q5.2 := fr4.tr (d2.mono pTk_L)
    show Ret _ (oL W n J ln (if kdJ W n (j + 2) = 134 then sB (knNm W n (j + 3) NP) (fun b => if a = b ∨ frB T a b = true then .inl (3, plS W n (j + 3)) else sB (tkNum W n (j + 4) 135 0 99) fun pr => enP W n (j + 6) (friT T a b pr) R NP NR dr) else ftP W n (j + 2)) M)
    by_cases h134 : kdJ W n (j + 2) = 134
    · rw [if_pos h134] at d1 ⊢
      refine Ret.f (by omega) ?_
      have hc5 := hc4.tok (d2.mono pTk_n) d1.2 (by omega)
      rw [show j + 2 + 1 = j + 3 by omega] at hc5
      have e0 : q5.2 15 0 = (NP.length : Int) := by rw [l1]; exact hc5.2.1.1.1.1
      rw [e0]
      refine Ret.bind (X_placeP hc5.1 l3 hc5.2.1.2.1 (by omega)) ?_
      rintro y6 ⟨-, y7⟩
      refine Ret.bind (X_isSomebody hc5.1 y7) ?_
      rintro q7 ⟨g1, g2⟩
      cases hx2 : knNm W n (j + 3) NP with
      | inl e =>
        rw [hx2] at g1
        exact Ret.t g1.1 (Ret.pure ⟨⟨rfl, g1.2⟩, fr5.tr (g2.mono pF_L)⟩)
      | inr b =>
        rw [hx2] at g1
        obtain ⟨g3, g4, g5⟩ := g1
        have kr2 := knNm_R hx2
        refine Ret.f (by omega) ?_
        rw [g5, b4, g4]
        have fl : (a = b ∨ frB T a b = true) → Ret (Option.bind (f_Reader_refuse 3 q5.2) (fun q8 => (if 0 ≤ q8.1 ∧ q8.1 ≤ 1 then some (q8.1, q8.2) else none))) (oL W n J ln (if a = b ∨ frB T a b = true then .inl (3, plS W n (j + 3)) else sB (tkNum W n (j + 4) 135 0 99) fun pr => enP W n (j + 6) (friT T a b pr) R NP NR dr) M) := fun hh => by
          rw [if_pos hh]
          refine Ret.bind (X_refuse hc5.1 3) ?_
          rintro q ⟨q1, q2, q3⟩
          rw [if_neg (by rw [kr2.2.2]; decide)] at q2
          exact Ret.t (by omega) (Ret.pure ⟨⟨q1, q2⟩, fr5.tr (q3.mono pF_L)⟩)
        refine Ret.br (fun hab => fl (Or.inl hab)) fun hab => ?_
        refine Ret.bind (X_friendsOfD hP hc5 a b) ?_
        rintro y9 hy9
        refine Ret.br (fun h9 => ?_) fun h9 => fl (Or.inr (Classical.byContradiction fun z => h9 (hy9.mpr z)))
        have nf := hy9.mp h9
        show Ret _ (oL W n J ln (if a = b ∨ frB T a b = true then .inl (3, plS W n (j + 3)) else sB (tkNum W n (j + 4) 135 0 99) fun pr => enP W n (j + 6) (friT T a b pr) R NP NR dr) M)
        rw [if_neg (fun z => z.elim hab nf)]
        refine Ret.bind (X_step hc5.1 (good_of kr2.2.2 (by decide)) hJ) ?_
        rintro q10 ⟨i1, i2⟩
        have hc10 := hc5.tok (i2.mono fun k j h => pTk_n k j (pS_k k j h)) i1 (by omega)
        have fr10 : Fp pLC M q10 := fr5.tr (i2.mono pS_L)
        refine Ret.bind (L_num hJ hc10 (by decide) 0 99) ?_
        rintro q11 ⟨k1, k2⟩
        rw [show j + 3 + 1 = j + 4 by omega] at k1
        have fr11 : Fp pLC M q11.2 := fr10.tr (k2.mono pTn_L)
        cases hx3 : tkNum W n (j + 4) 135 0 99 with
        | inl e =>
          rw [hx3] at k1
          exact Ret.t k1.1 (Ret.pure ⟨⟨rfl, k1.2⟩, fr11⟩)
        | inr pr =>
          rw [hx3] at k1
          obtain ⟨k3, hc11, k5⟩ := k1
          refine Ret.f (by omega) ?_
          rw [k5]
          refine Ret.bind (X_addFriends hP hc11 (by omega) a b pr) ?_
          rintro q12 ⟨m1, m2⟩
          exact L_end hJ m1 (fr11.tr m2)
    · rw [if_neg h134] at d1 ⊢
      exact Ret.t d1.1 (Ret.pure ⟨⟨rfl, d1.2⟩, fr5⟩)
/-- a line -/
theorem X_line {W : Nat → Int} {n J j ln : Nat} {T : TW} {R : Nat → RL} {NP NR : List (List Int)} {dr : Bool} {M : KM} (hJ : lastT W n J) (hV : ∀ p, tkK W n p = 2 → 0 ≤ tkV W n p ∧ tkV W n p ≤ 9999) (hP : LTP T R NP NR ln) (h : LCd W n J j ln T R NP NR dr M) : Ret (f_Reader_line M) (oL W n J ln (lnP W n j ln T R NP NR dr) M) := by
  have wrap : ∀ {x : Option (Int × KM)} {z : (Int × Nat) ⊕ LST}, Ret x (oL W n J ln z M) → Ret (Option.bind x (fun q => (if 0 ≤ q.1 ∧ q.1 ≤ 1 then some (q.1, q.2) else none))) (oL W n J ln z M) := fun {x z} hx => by
    refine Ret.bind hx ?_
    intro q hq
    refine Ret.t ?_ (Ret.pure hq)
    cases z with
    | inl e => have := hq.1.1; omega
    | inr s => have := hq.1.1; omega
  unfold f_Reader_line lnP
  rw [h.1.2.2.1]
  have fl := L_flt (M0 := M) h Fp.rf
  refine Ret.br (fun z => by rw [if_pos z]; exact wrap (X_personLine hJ hP h z)) fun z1 => ?_
  rw [if_neg z1]
  refine Ret.br (fun z => by rw [if_neg (by omega), if_neg (by omega), if_neg (by omega), if_neg (by omega), if_neg (by omega)]; exact fl) fun z2 => ?_
  refine Ret.br (fun z => by rw [if_neg (by omega), if_neg (by omega), if_neg (by omega), if_neg (by omega), if_neg (by omega)]; exact fl) fun z3 => ?_
  refine Ret.br (fun z => by rw [if_neg (by omega), if_neg (by omega), if_neg (by omega), if_neg (by omega), if_neg (by omega)]; exact fl) fun z4 => ?_
  refine Ret.br (fun z => by rw [if_neg (by omega), if_neg (by omega), if_neg (by omega), if_neg (by omega), if_neg (by omega)]; exact fl) fun z5 => ?_
  refine Ret.br (fun z => by rw [if_pos z]; exact wrap (X_friendLine hJ hP h z)) fun z6 => ?_
  rw [if_neg z6]
  refine Ret.br (fun z => by rw [if_neg (by omega), if_neg (by omega), if_neg (by omega), if_neg (by omega)]; exact fl) fun z7 => ?_
  refine Ret.br (fun z => by rw [if_neg (by omega), if_neg (by omega), if_neg (by omega), if_neg (by omega)]; exact fl) fun z8 => ?_
  refine Ret.br (fun z => by rw [if_pos z]; exact wrap (X_rightLine hJ hV hP h z)) fun z9 => ?_
  rw [if_neg z9]
  refine Ret.br (fun z => by rw [if_pos z]; exact wrap (X_oddsLine hJ hV hP h z)) fun z10 => ?_
  rw [if_neg z10]
  refine Ret.br (fun z => by rw [if_pos z]; exact wrap (X_agesLine hJ h)) fun z11 => ?_
  rw [if_neg z11]
  refine Ret.br (fun z => by rw [if_pos z]; exact wrap (X_drawLine hJ h)) fun z12 => ?_
  rw [if_neg z12]; exact fl
