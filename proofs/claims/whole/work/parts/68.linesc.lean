/-! LINES: the first side -/
def LD (T : TW) (R : Nat → RL) (NP NR : List (List Int)) (M : KM) : Prop := TC 15 T R M ∧ nmRC 32 NP M ∧ nmRC 33 NR M
def LCd (W : Nat → Int) (n J j ln : Nat) (T : TW) (R : Nat → RL) (NP NR : List (List Int)) (dr : Bool) (M : KM) : Prop := RC W n J j M ∧ LD T R NP NR M ∧ M 14 7 = (if dr = true then 1 else 0) ∧ M 14 6 = (ln : Int) ∧ M 24 1 ≤ (j : Int)
def pLC (k _ : Nat) : Prop := 14 ≤ k ∧ k ≤ 33
def oL (W : Nat → Int) (n J ln : Nat) (x : (Int × Nat) ⊕ LST) (M : KM) (q : Int × KM) : Prop := Sum.elim (fun e : Int × Nat => q.1 = 0 ∧ fC e.1 e.2 q.2) (fun s : LST => q.1 = 1 ∧ LCd W n J s.1 ln s.2.1 s.2.2.1 s.2.2.2.1 s.2.2.2.2.1 s.2.2.2.2.2 q.2) x ∧ Fp pLC M q.2
theorem pTn_L : ∀ k j, pTn k j → pLC k j := fun k j h => ⟨by have := h.1; omega, by have := h.1; omega⟩
theorem pTk_L : ∀ k j, pTk k j → pLC k j := fun k j h => pTn_L k j (pTk_n k j h)
theorem pS_L : ∀ k j, pS k j → pLC k j := fun k j h => pTk_L k j (pS_k k j h)
theorem pF_L : ∀ k j, pF k j → pLC k j := fun k j h => pTk_L k j (pF_k k j h)
theorem TC15_congr {T : TW} {R : Nat → RL} {M M' : KM} (h : TC 15 T R M) (he : ∀ c, 15 ≤ c → c ≤ 25 → M' c = M c) : TC 15 T R M' := by
  unfold TC CRule at *
  rw [he 15 (by omega) (by omega), he (15 + 1) (by omega) (by omega), he (15 + 2) (by omega) (by omega), he (15 + 3) (by omega) (by omega), he (15 + 4) (by omega) (by omega), he (15 + 5) (by omega) (by omega), he (15 + 6) (by omega) (by omega), he (15 + 7) (by omega) (by omega), he (15 + 8) (by omega) (by omega), he (15 + 9) (by omega) (by omega), he (15 + 10) (by omega) (by omega)]
  exact h
theorem LD.congr {T : TW} {R : Nat → RL} {NP NR : List (List Int)} {M M' : KM} (h : LD T R NP NR M) (he : ∀ c, c ≠ 14 → M' c = M c) : LD T R NP NR M' := ⟨TC15_congr h.1 fun c h1 h2 => he c (by omega), fun i u hu => by rw [he 32 (by omega)]; exact h.2.1 i u hu, fun i u hu => by rw [he 33 (by omega)]; exact h.2.2 i u hu⟩
theorem LCd.tok {W : Nat → Int} {n J j j' ln : Nat} {T : TW} {R : Nat → RL} {NP NR : List (List Int)} {dr : Bool} {M M' : KM} (h : LCd W n J j ln T R NP NR dr M) (hf : Fp pTn M M') (hr : RC W n J j' M') (hj : j ≤ j') : LCd W n J j' ln T R NP NR dr M' := ⟨hr, h.2.1.congr fun c hc => hf.row fun z q => hc q.1, by rw [hf 14 7 (by unfold pTn; omega)]; exact h.2.2.1, by rw [hf 14 6 (by unfold pTn; omega)]; exact h.2.2.2.1, by rw [hf 24 1 (by unfold pTn; omega)]; have := h.2.2.2.2; omega⟩
theorem L_flt {W : Nat → Int} {n J j ln : Nat} {T : TW} {R : Nat → RL} {NP NR : List (List Int)} {dr : Bool} {M M0 : KM} (h : LCd W n J j ln T R NP NR dr M) (h0 : Fp pLC M0 M) : Ret (Option.bind (f_Reader_refuse 2 M) (fun q => (if 0 ≤ q.1 ∧ q.1 ≤ 1 then some (q.1, q.2) else none))) (oL W n J ln (ftP W n j) M0) := by
  refine Ret.bind (X_refuse h.1 2) ?_
  rintro q ⟨q1, q2, q3⟩
  exact Ret.t (by omega) (Ret.pure ⟨⟨q1, q2⟩, h0.tr (q3.mono pF_L)⟩)
theorem L_end {W : Nat → Int} {n J j ln : Nat} {T : TW} {R : Nat → RL} {NP NR : List (List Int)} {dr : Bool} {M M0 : KM} (hJ : lastT W n J) (h : LCd W n J j ln T R NP NR dr M) (h0 : Fp pLC M0 M) : Ret (Option.bind (f_Reader_take 59 M) (fun q => (if 0 ≤ q.1 ∧ q.1 ≤ 1 then some (q.1, q.2) else none))) (oL W n J ln (enP W n j T R NP NR dr) M0) := by
  refine Ret.bind (X_take h.1 hJ (k := 59) (by decide)) ?_
  rintro q ⟨q1, q2⟩
  unfold enP
  by_cases hc : kdJ W n j = 59
  · rw [if_pos hc] at q1 ⊢
    exact Ret.t (by omega) (Ret.pure ⟨⟨q1.1, h.tok (q2.mono pTk_n) q1.2 (by omega)⟩, h0.tr (q2.mono pTk_L)⟩)
  · rw [if_neg hc] at q1 ⊢
    exact Ret.t (by omega) (Ret.pure ⟨q1, h0.tr (q2.mono pTk_L)⟩)
theorem X_newNameP {W : Nat → Int} {n J j ln : Nat} {T : TW} {R : Nat → RL} {NP NR : List (List Int)} {dr : Bool} {M : KM} (hJ : lastT W n J) (hP : LTP T R NP NR ln) (h : LCd W n J j ln T R NP NR dr M) (h8 : T 0 0 < 8) : Ret (f_Reader_takeNewNameP (M 15 0) M) (fun q => Sum.elim (fun e : Int × Nat => q.1 = 0 ∧ fC e.1 e.2 q.2) (fun u => q.1 = 1 ∧ LCd W n J (j + 1) ln T R NP NR dr q.2 ∧ nmRC 32 (NP ++ [u]) q.2 ∧ q.2 24 1 = M 24 1) (newNm W n j NP) ∧ Fp pLC M q.2) := by
  obtain ⟨-, l1, l2, l3, l4, -⟩ := hP
  have e15 : M 15 0 = (NP.length : Int) := by rw [l1]; exact h.2.1.1.1.1
  have h' := h
  obtain ⟨r0, ⟨d1, d2, d3⟩, g1, g2, g3⟩ := h
  unfold f_Reader_takeNewNameP newNm
  rw [e15, r0.2.2.1]
  refine Ret.br (fun hk => ?_) fun hk => ?_
  · rw [if_pos hk]
    refine Ret.bind (X_placeP r0 l3 d2 (by omega)) ?_
    rintro y ⟨y1, y2⟩
    have y2 := y2 hk
    refine Ret.br (fun hy => ?_) fun hy => ?_
    · rw [if_pos (show nmIx (tkW W n (plS W n j)) NP = -1 by omega)]
      have e31 := (r0.1 j (by have := r0.2.2.2; omega)).2.2.2 hk
      refine Ret.bind (R := fun t => t = mupd M 32 NP.length (nmC (tkW W n (plS W n j)))) ?_ ?_
      · refine Ret.f (by omega) (Ret.t (by omega) ?_)
        rw [X_name r0, ob_some, e31, Int.toNat_natCast]
        exact Ret.t (by omega) (Ret.letM (Ret.pure rfl))
      rintro t rfl
      have hc : LCd W n J j ln T R NP NR dr (mupd M 32 NP.length (nmC (tkW W n (plS W n j)))) := by
        refine ⟨RC.congr r0 (by rw [mupd_ne _ _ (by omega)]) (by rw [mupd_ne _ _ (by omega)]) (fun c h1 h2 => by funext z; rw [mupd_ne _ _ (by omega)]), ⟨TC15_congr d1 fun c h1 h2 => by funext z; rw [mupd_ne _ _ (by omega)], fun i u hu => ?_, fun i u hu => by rw [mupd_ne _ _ (by omega)]; exact d3 i u hu⟩, by rw [mupd_ne _ _ (by omega)]; exact g1, by rw [mupd_ne _ _ (by omega)]; exact g2, by rw [mupd_ne _ _ (by omega)]; exact g3⟩
        have := (List.getElem?_eq_some_iff.mp hu).1
        rw [mupd_ne2 _ _ (by omega)]; exact d2 i u hu
      refine Ret.bind (X_step hc.1 (good_of hk (by decide)) hJ) ?_
      rintro q ⟨q1, q2⟩
      refine Ret.pure ⟨⟨rfl, hc.tok (q2.mono fun k j h => pTk_n k j (pS_k k j h)) q1 (by omega), fun i u hu => ?_, by dsimp only; rw [q2 24 1 (by unfold pS; omega), mupd_ne _ _ (by omega)]⟩, (Fp.rf.upd ⟨by omega, by omega⟩).tr (q2.mono pS_L)⟩
      dsimp only
      rw [q2 32 _ (by unfold pS; omega)]
      by_cases hl : i < NP.length
      · rw [List.getElem?_append_left hl] at hu
        rw [mupd_ne2 _ _ (by omega)]; exact d2 i u hu
      · rw [List.getElem?_append_right (by omega)] at hu
        have hz : i - NP.length < 1 := (List.getElem?_eq_some_iff.mp hu).1
        have hi2 : i = NP.length := by omega
        rw [hi2, Nat.sub_self] at hu
        have : tkW W n (plS W n j) = u := Option.some.inj hu
        rw [hi2, mupd_same, this]
    · rw [if_neg (show ¬ nmIx (tkW W n (plS W n j)) NP = -1 by omega)]
      refine Ret.bind (X_refuse r0 3) ?_
      rintro q ⟨q1, q2, q3⟩
      rw [if_neg (by omega)] at q2
      exact Ret.t (by omega) (Ret.pure ⟨⟨q1, q2⟩, q3.mono pF_L⟩)
  · rw [if_neg hk]
    refine Ret.bind (X_refuse r0 2) ?_
    rintro q ⟨q1, q2, q3⟩
    exact Ret.t (by omega) (Ret.pure ⟨⟨q1, q2⟩, q3.mono pF_L⟩)
theorem X_newNameR {W : Nat → Int} {n J j ln : Nat} {T : TW} {R : Nat → RL} {NP NR : List (List Int)} {dr : Bool} {M : KM} (hJ : lastT W n J) (hP : LTP T R NP NR ln) (h : LCd W n J j ln T R NP NR dr M) (h8 : T 0 2 < 6) : Ret (f_Reader_takeNewNameR (M 15 9) M) (fun q => Sum.elim (fun e : Int × Nat => q.1 = 0 ∧ fC e.1 e.2 q.2) (fun u => q.1 = 1 ∧ LCd W n J (j + 1) ln T R NP NR dr q.2 ∧ nmRC 33 (NR ++ [u]) q.2 ∧ q.2 24 1 = M 24 1) (newNm W n j NR) ∧ Fp pLC M q.2) := by
  obtain ⟨-, l1, l2, l3, l4, -⟩ := hP
  have e15 : M 15 9 = (NR.length : Int) := by rw [l2]; exact h.2.1.1.1.2.2.1
  have h' := h
  obtain ⟨r0, ⟨d1, d2, d3⟩, g1, g2, g3⟩ := h
  unfold f_Reader_takeNewNameR newNm
  rw [e15, r0.2.2.1]
  refine Ret.br (fun hk => ?_) fun hk => ?_
  · rw [if_pos hk]
    refine Ret.bind (X_placeR r0 l4 d3 (by omega)) ?_
    rintro y ⟨y1, y2⟩
    have y2 := y2 hk
    refine Ret.br (fun hy => ?_) fun hy => ?_
    · rw [if_pos (show nmIx (tkW W n (plS W n j)) NR = -1 by omega)]
      have e31 := (r0.1 j (by have := r0.2.2.2; omega)).2.2.2 hk
      refine Ret.bind (R := fun t => t = mupd M 33 NR.length (nmC (tkW W n (plS W n j)))) ?_ ?_
      · refine Ret.f (by omega) (Ret.t (by omega) ?_)
        rw [X_name r0, ob_some, e31, Int.toNat_natCast]
        exact Ret.t (by omega) (Ret.letM (Ret.pure rfl))
      rintro t rfl
      have hc : LCd W n J j ln T R NP NR dr (mupd M 33 NR.length (nmC (tkW W n (plS W n j)))) := by
        refine ⟨RC.congr r0 (by rw [mupd_ne _ _ (by omega)]) (by rw [mupd_ne _ _ (by omega)]) (fun c h1 h2 => by funext z; rw [mupd_ne _ _ (by omega)]), ⟨TC15_congr d1 fun c h1 h2 => by funext z; rw [mupd_ne _ _ (by omega)], fun i u hu => by rw [mupd_ne _ _ (by omega)]; exact d2 i u hu, fun i u hu => ?_⟩, by rw [mupd_ne _ _ (by omega)]; exact g1, by rw [mupd_ne _ _ (by omega)]; exact g2, by rw [mupd_ne _ _ (by omega)]; exact g3⟩
        have := (List.getElem?_eq_some_iff.mp hu).1
        rw [mupd_ne2 _ _ (by omega)]; exact d3 i u hu
      refine Ret.bind (X_step hc.1 (good_of hk (by decide)) hJ) ?_
      rintro q ⟨q1, q2⟩
      refine Ret.pure ⟨⟨rfl, hc.tok (q2.mono fun k j h => pTk_n k j (pS_k k j h)) q1 (by omega), fun i u hu => ?_, by dsimp only; rw [q2 24 1 (by unfold pS; omega), mupd_ne _ _ (by omega)]⟩, (Fp.rf.upd ⟨by omega, by omega⟩).tr (q2.mono pS_L)⟩
      dsimp only
      rw [q2 33 _ (by unfold pS; omega)]
      by_cases hl : i < NR.length
      · rw [List.getElem?_append_left hl] at hu
        rw [mupd_ne2 _ _ (by omega)]; exact d3 i u hu
      · rw [List.getElem?_append_right (by omega)] at hu
        have hz : i - NR.length < 1 := (List.getElem?_eq_some_iff.mp hu).1
        have hi2 : i = NR.length := by omega
        rw [hi2, Nat.sub_self] at hu
        have : tkW W n (plS W n j) = u := Option.some.inj hu
        rw [hi2, mupd_same, this]
    · rw [if_neg (show ¬ nmIx (tkW W n (plS W n j)) NR = -1 by omega)]
      refine Ret.bind (X_refuse r0 3) ?_
      rintro q ⟨q1, q2, q3⟩
      rw [if_neg (by omega)] at q2
      exact Ret.t (by omega) (Ret.pure ⟨⟨q1, q2⟩, q3.mono pF_L⟩)
  · rw [if_neg hk]
    refine Ret.bind (X_refuse r0 2) ?_
    rintro q ⟨q1, q2, q3⟩
    exact Ret.t (by omega) (Ret.pure ⟨⟨q1, q2⟩, q3.mono pF_L⟩)
/-- a number, all else as it was -/
theorem L_num {W : Nat → Int} {n J j ln : Nat} {T : TW} {R : Nat → RL} {NP NR : List (List Int)} {dr : Bool} {M : KM} (hJ : lastT W n J) (h : LCd W n J j ln T R NP NR dr M) {k : Int} (hk : k ≠ 0 ∧ k ≠ 3) (lo hi : Int) : Ret (f_Reader_takeNumber k lo hi M) (fun q => Sum.elim (fun e : Int × Nat => q.1 = 0 ∧ fC e.1 e.2 q.2) (fun y => q.1 = 1 ∧ LCd W n J (j + 2) ln T R NP NR dr q.2 ∧ q.2 14 9 = y) (tkNum W n j k lo hi) ∧ Fp pTn M q.2) := by
  refine (X_takeNumber h.1 hJ hk lo hi).mono ?_
  rintro q ⟨q1, q2⟩
  refine ⟨?_, q2⟩
  cases hx : tkNum W n j k lo hi with
  | inl e => rw [hx] at q1; exact q1
  | inr y =>
    rw [hx] at q1
    obtain ⟨a1, a2, a3⟩ := q1
    exact ⟨a1, h.tok q2 a2 (by omega), a3⟩
/-- the draft told anew; tokens as they were -/
theorem LCd.set {W : Nat → Int} {n J j ln : Nat} {T T' : TW} {R R' : Nat → RL} {NP NR NP' NR' : List (List Int)} {dr dr' : Bool} {M M' : KM} (h : LCd W n J j ln T R NP NR dr M) (he : ∀ c, 28 ≤ c → c ≤ 31 → M' c = M c) (h4 : M' 14 4 = M 14 4) (h5 : M' 14 5 = M 14 5) (hd : LD T' R' NP' NR' M') (h7 : M' 14 7 = (if dr' = true then 1 else 0)) (h6 : M' 14 6 = M 14 6) (h24 : M' 24 1 ≤ (j : Int)) (h01 : M' 14 0 = M 14 0 ∧ M' 14 1 = M 14 1 := by simp [mupd]) : LCd W n J j ln T' R' NP' NR' dr' M' := ⟨RC.congr h.1 h4 h5 he h01, hd, h7, by rw [h6]; exact h.2.2.2.1, h24⟩
theorem X_agesLine {W : Nat → Int} {n J j ln : Nat} {T : TW} {R : Nat → RL} {NP NR : List (List Int)} {dr : Bool} {M : KM} (hJ : lastT W n J) (h : LCd W n J j ln T R NP NR dr M) : Ret (f_Reader_agesLine M) (oL W n J ln (ageP W n j ln T R NP NR dr) M) := by
  unfold f_Reader_agesLine ageP
  rw [h.2.2.2.1]
  by_cases hl : 0 < ln
  · rw [if_pos hl]
    exact Ret.f (by omega) (L_flt h Fp.rf)
  rw [if_neg hl]
  refine Ret.t (by omega) ?_
  refine Ret.bind (L_num hJ h (by decide) 0 150) ?_
  rintro q1 ⟨a1, a2⟩
  cases hx : tkNum W n j 138 0 150 with
  | inl e =>
    rw [hx] at a1
    exact Ret.t a1.1 (Ret.pure ⟨⟨rfl, a1.2⟩, a2.mono pTn_L⟩)
  | inr lo =>
    rw [hx] at a1
    obtain ⟨b1, b2, b3⟩ := a1
    refine Ret.f (by omega) ?_
    rw [b3]
    have hc : LCd W n J (j + 2) ln (mupd T 0 3 lo) R NP NR dr (mupd q1.2 15 12 lo) := by
      refine b2.set (fun c h1 h2 => by funext z; rw [mupd_ne _ _ (by omega)]) (by rw [mupd_ne _ _ (by omega)]) (by rw [mupd_ne _ _ (by omega)]) ?_ (by rw [mupd_ne _ _ (by omega)]; exact b2.2.2.1) (by rw [mupd_ne _ _ (by omega)]) (by rw [mupd_ne _ _ (by omega)]; exact b2.2.2.2.2)
      obtain ⟨⟨⟨t1, t2, t3, t4, t5, t6, t7⟩, u1, u2, u3, u4, u5⟩, d2, d3⟩ := b2.2.1
      refine ⟨⟨⟨t1, t2, t3, mupd_same _ _ _ _, t5, t6, t7⟩, u1, u2, u3, u4, u5⟩, d2, d3⟩
    have f1 : Fp pLC M (mupd q1.2 15 12 lo) := (a2.mono pTn_L).upd ⟨by omega, by omega⟩
    have e12 : mupd q1.2 15 12 lo 15 12 = lo := mupd_same _ _ _ _
    generalize mupd q1.2 15 12 lo = M2 at hc f1 e12
    refine Ret.letM ?_
    rw [e12]
    refine Ret.bind (L_num hJ hc (by decide) lo 150) ?_
    rintro q3 ⟨c1, c2⟩
    show Ret _ (oL W n J ln (sB (tkNum W n (j + 2) 134 lo 150) fun hi => enP W n (j + 4) (mupd (mupd T 0 3 lo) 0 4 hi) R NP NR dr) M)
    cases hx2 : tkNum W n (j + 2) 134 lo 150 with
    | inl e =>
      rw [hx2] at c1
      exact Ret.t c1.1 (Ret.pure ⟨⟨rfl, c1.2⟩, f1.tr (c2.mono pTn_L)⟩)
    | inr hi =>
      rw [hx2] at c1
      obtain ⟨d1, d2, d3⟩ := c1
      refine Ret.f (by omega) ?_
      rw [d3]
      have hc2 : LCd W n J (j + 4) ln (mupd (mupd T 0 3 lo) 0 4 hi) R NP NR dr (mupd q3.2 15 13 hi) := by
        refine d2.set (fun c h1 h2 => by funext z; rw [mupd_ne _ _ (by omega)]) (by rw [mupd_ne _ _ (by omega)]) (by rw [mupd_ne _ _ (by omega)]) ?_ (by rw [mupd_ne _ _ (by omega)]; exact d2.2.2.1) (by rw [mupd_ne _ _ (by omega)]) (by rw [mupd_ne _ _ (by omega)]; exact d2.2.2.2.2)
        obtain ⟨⟨⟨t1, t2, t3, t4, t5, t6, t7⟩, u1, u2, u3, u4, u5⟩, d2, d3⟩ := d2.2.1
        refine ⟨⟨⟨t1, t2, t3, t4, mupd_same _ _ _ _, t6, t7⟩, u1, u2, u3, u4, u5⟩, d2, d3⟩
      exact Ret.letM (L_end hJ hc2 ((f1.tr (c2.mono pTn_L)).upd ⟨by omega, by omega⟩))
theorem X_drawLine {W : Nat → Int} {n J j ln : Nat} {T : TW} {R : Nat → RL} {NP NR : List (List Int)} {dr : Bool} {M : KM} (hJ : lastT W n J) (h : LCd W n J j ln T R NP NR dr M) : Ret (f_Reader_drawLine M) (oL W n J ln (draP W n j T R NP NR dr) M) := by
  unfold f_Reader_drawLine draP
  rw [h.2.2.1]
  by_cases hl : dr = true
  · rw [if_pos hl, if_pos hl]
    exact Ret.f (by decide) (L_flt h Fp.rf)
  rw [if_neg hl, if_neg hl]
  refine Ret.t rfl ?_
  refine Ret.bind (L_num hJ h (by decide) 0 999) ?_
  rintro q1 ⟨a1, a2⟩
  cases hx : tkNum W n j 139 0 999 with
  | inl e =>
    rw [hx] at a1
    exact Ret.t a1.1 (Ret.pure ⟨⟨rfl, a1.2⟩, a2.mono pTn_L⟩)
  | inr y =>
    rw [hx] at a1
    obtain ⟨b1, b2, b3⟩ := a1
    refine Ret.f (by omega) (Ret.t (by decide) (Ret.letM ?_))
    have e9 : mupd q1.2 14 7 1 14 9 = y := by rw [mupd_ne2 _ _ (by omega)]; exact b3
    rw [e9]
    have hc : LCd W n J (j + 2) ln (mupd T 0 5 y) R NP NR true (mupd (mupd q1.2 14 7 1) 15 14 y) := by
      refine b2.set (fun c h1 h2 => by funext z; rw [mupd_ne _ _ (by omega), mupd_ne _ _ (by omega)]) (by rw [mupd_ne _ _ (by omega), mupd_ne2 _ _ (by omega)]) (by rw [mupd_ne _ _ (by omega), mupd_ne2 _ _ (by omega)]) ?_ (by rw [mupd_ne _ _ (by omega), mupd_same]; rfl) (by rw [mupd_ne _ _ (by omega), mupd_ne2 _ _ (by omega)]) (by rw [mupd_ne _ _ (by omega), mupd_ne _ _ (by omega)]; exact b2.2.2.2.2)
      obtain ⟨⟨⟨t1, t2, t3, t4, t5, t6, t7⟩, u1, u2, u3, u4, u5⟩, d2, d3⟩ := b2.2.1
      refine ⟨⟨⟨t1, t2, t3, t4, t5, mupd_same _ _ _ _, t7⟩, u1, u2, u3, u4, u5⟩, d2, d3⟩
    exact Ret.letM (L_end hJ hc (((a2.mono pTn_L).upd ⟨by omega, by omega⟩).upd ⟨by omega, by omega⟩))
/-- a rule is told: what stays, what comes -/
theorem CRule_congr {M M' : KM} {s : Int} {K : RL} (h : CRule 15 M s K) (h1 : M' 24 1 = M 24 1) (h2 : M' 25 = M 25) : CRule 15 M' s K := by
  obtain ⟨s1, s2, s3, s4⟩ := h
  have s2 : s + K.length < M 24 1 := s2
  refine ⟨s1, by show s + K.length < M' 24 1; rw [h1]; exact s2, fun i q hi => ?_, ?_⟩
  · show M' 25 _ = _
    rw [h2]; exact s3 i q hi
  · show M' 25 _ = _
    rw [h2]; exact s4
theorem rule_add {st : Nat} {M M' : KM} {L : RL} (hst : M 24 1 = (st : Int)) (hf : Fp (pXs st) M M') (h24 : M' 24 1 = ((st + L.length + 1 : Nat) : Int)) (hc : ∀ i y, L[i]? = some y → M' 25 (st + i) = encC y) (h0 : M' 25 (st + L.length) = 0) :
    (∀ (s : Int) (K : RL), CRule 15 M s K → CRule 15 M' s K) ∧ CRule 15 M' (st : Int) L ∧ M' 14 7 = M 14 7 ∧ M' 14 6 = M 14 6 ∧ (∀ c, (c ≠ 14 ∧ c ≠ 15 ∧ c ≠ 24 ∧ c ≠ 25) → M' c = M c) ∧ (∀ i, i ≠ 15 → M' 15 i = M 15 i) := by
  refine ⟨fun s K hs => ?_, ?_, hf 14 7 (by unfold pXs; omega), hf 14 6 (by unfold pXs; omega), fun c hc => hf.row fun z q => by unfold pXs at q; omega, fun i hi => hf 15 i (by unfold pXs; omega)⟩
  · obtain ⟨s1, s2, s3, s4⟩ := hs
    have s2 : s + K.length < M 24 1 := s2
    rw [hst] at s2
    refine ⟨s1, ?_, fun i q hi => ?_, ?_⟩
    · show s + K.length < M' 24 1
      rw [h24]; omega
    · have hl := (List.getElem?_eq_some_iff.mp hi).1
      show M' 25 _ = _
      rw [hf 25 _ (by unfold pXs; omega)]; exact s3 i q hi
    · show M' 25 _ = _
      rw [hf 25 _ (by unfold pXs; omega)]; exact s4
  · refine ⟨Int.natCast_nonneg _, ?_, fun i q hi => ?_, ?_⟩
    · show (st : Int) + L.length < M' 24 1
      rw [h24]; omega
    · show M' 25 _ = _
      rw [Int.toNat_natCast]; exact hc i q hi
    · show M' 25 _ = _
      rw [Int.toNat_natCast]; exact h0
theorem pXs_L {st : Nat} : ∀ k j, pXs st k j → pLC k j := fun k j h => by unfold pXs at h; unfold pLC; omega
theorem X_oddsLine {W : Nat → Int} {n J j ln : Nat} {T : TW} {R : Nat → RL} {NP NR : List (List Int)} {dr : Bool} {M : KM} (hJ : lastT W n J) (hV : ∀ p, tkK W n p = 2 → 0 ≤ tkV W n p ∧ tkV W n p ≤ 9999) (hP : LTP T R NP NR ln) (h : LCd W n J j ln T R NP NR dr M) (hk : kdJ W n j = 137) : Ret (f_Reader_oddsLine M) (oL W n J ln (oddP W n j T R NP NR dr) M) := by
  have o := hP.1.1
  obtain ⟨⟨⟨t1, t2, t3, t4, t5, t6, t7⟩, u1, u2, u3, u4, u5⟩, d2, d3⟩ := h.2.1
  have t7 : M 15 15 = T 0 6 := t7
  have u5 : 0 ≤ M 24 1 ∧ M 24 1 ≤ 1600 := u5
  unfold f_Reader_oddsLine oddP
  by_cases ho : T 0 7 = 1
  · rw [if_pos ho]
    have hs := (u4.2 ho).1
    have hs : 0 ≤ M 15 11 := hs
    exact Ret.f (by omega) (L_flt h Fp.rf)
  have ho0 : T 0 7 = 0 := by omega
  rw [if_neg ho]
  have e11 : M 15 11 = -1 := u4.1 ho0
  refine Ret.t e11 ?_
  refine Ret.bind (X_step h.1 (good_of hk (by decide)) hJ) ?_
  rintro q1 ⟨a1, a2⟩
  have hc1 := h.tok (a2.mono fun k j h => pTk_n k j (pS_k k j h)) a1 (by omega)
  have e24 : q1 24 1 = M 24 1 := a2 24 1 (by unfold pS; omega)
  obtain ⟨st, hst⟩ := Int.eq_ofNat_of_zero_le u5.1
  obtain ⟨U, hU⟩ := Int.eq_ofNat_of_zero_le (show 0 ≤ T 0 6 by omega)
  have hj := h.2.2.2.2
  rw [e24, hst]
  refine Ret.letM ?_
  have hr2 : RC W n J (j + 1) (mupd q1 15 11 (st : Int)) := RC.congr a1 (by rw [mupd_ne _ _ (by omega)]) (by rw [mupd_ne _ _ (by omega)]) (fun c h1 h2 => by funext z; rw [mupd_ne _ _ (by omega)])
  have hm : mupd q1 15 11 (st : Int) 24 1 = (st : Int) := by rw [mupd_ne _ _ (by omega), e24, hst]
  refine Ret.bind (X_formula (st := st) (U := U) hJ hV hr2 (by rw [mupd_ne2 _ _ (by omega), a2 15 15 (by unfold pS; omega), t7, hU]) hm (by omega)) ?_
  rintro q3 ⟨b1, b2⟩
  rw [show (T 0 6).toNat = U by omega]
  have fr : Fp pLC M q3.2 := ((a2.mono pS_L).upd ⟨by omega, by omega⟩).tr (b2.mono pXs_L)
  cases hx : rulP W n (j + 1) U with
  | inl e =>
    rw [hx] at b1
    obtain ⟨c1, c2⟩ : q3.1 = 0 ∧ fC e.1 e.2 q3.2 := b1
    exact Ret.t (by omega) (Ret.pure ⟨⟨c1, c2⟩, fr⟩)
  | inr r =>
    rw [hx] at b1
    obtain ⟨c1, c2, c3, c4, c5, c6, c7⟩ := b1
    obtain ⟨w1, w2, w3, w4, w5, w6⟩ := rule_add hm b2 c4 c5 c6
    obtain ⟨⟨⟨t1, t2, t3, t4, t5, t6, t7⟩, u1, u2, u3, u4, u5⟩, d2, d3⟩ := hc1.2.1
    have k15 : ∀ i, i ≠ 15 → i ≠ 11 → q3.2 15 i = q1 15 i := fun i h1 h2 => by rw [w6 i h1, mupd_ne2 _ _ h2]
    have kc : ∀ c, c ≠ 14 → c ≠ 15 → c ≠ 24 → c ≠ 25 → q3.2 c = q1 c := fun c h1 h2 h3 h4 => by rw [w5 c ⟨h1, h2, h3, h4⟩]; funext z; rw [mupd_ne _ _ h2]
    have kr : ∀ (s : Int) (K : RL), CRule 15 q1 s K → CRule 15 q3.2 s K := fun s K hs => w1 s K (CRule_congr hs (by rw [mupd_ne _ _ (by omega)]) (by funext z; rw [mupd_ne _ _ (by omega)]))
    have hJ16 := c2.2.2.2
    refine Ret.t (by omega) (Ret.pure ⟨⟨c1, c2, ⟨⟨⟨?_, ?_, ?_, ?_, ?_, ?_, c3⟩, fun p hp => ?_, fun f hf => ?_, fun q hq => ?_, ⟨fun z => absurd z (by show ¬ (1 : Int) = 0; decide), fun _ => ?_⟩, ?_⟩, fun i u hu => ?_, fun i u hu => ?_⟩, ?_, ?_, by show q3.2 24 1 ≤ _; rw [c4]; omega⟩, fr⟩)
    · show q3.2 15 0 = _; rw [k15 0 (by omega) (by omega)]; exact t1
    · show q3.2 15 5 = _; rw [k15 5 (by omega) (by omega)]; exact t2
    · show q3.2 15 9 = _; rw [k15 9 (by omega) (by omega)]; exact t3
    · show q3.2 15 12 = _; rw [k15 12 (by omega) (by omega)]; exact t4
    · show q3.2 15 13 = _; rw [k15 13 (by omega) (by omega)]; exact t5
    · show q3.2 15 14 = _; rw [k15 14 (by omega) (by omega)]; exact t6
    · show q3.2 16 p = _ ∧ q3.2 17 p = _ ∧ q3.2 18 p = _ ∧ q3.2 19 p = _
      rw [kc 16 (by omega) (by omega) (by omega) (by omega), kc 17 (by omega) (by omega) (by omega) (by omega), kc 18 (by omega) (by omega) (by omega) (by omega), kc 19 (by omega) (by omega) (by omega) (by omega)]
      exact u1 p hp
    · show q3.2 20 f = _ ∧ q3.2 21 f = _ ∧ q3.2 22 f = _
      rw [kc 20 (by omega) (by omega) (by omega) (by omega), kc 21 (by omega) (by omega) (by omega) (by omega), kc 22 (by omega) (by omega) (by omega) (by omega)]
      exact u2 f hf
    · have hq : (q : Int) < T 0 2 := hq
      show CRule 15 q3.2 (q3.2 23 q) (if q = 6 then r.2.2 else R q)
      rw [kc 23 (by omega) (by omega) (by omega) (by omega), if_neg (by omega)]
      exact kr _ _ (u3 q hq)
    · show CRule 15 q3.2 (q3.2 15 11) (if 6 = 6 then r.2.2 else R 6)
      rw [if_pos rfl, w6 11 (by omega), mupd_same]
      exact w2
    · show 0 ≤ q3.2 24 1 ∧ q3.2 24 1 ≤ 1600
      rw [c4]; omega
    · rw [kc 32 (by omega) (by omega) (by omega) (by omega)]; exact d2 i u hu
    · rw [kc 33 (by omega) (by omega) (by omega) (by omega)]; exact d3 i u hu
    · rw [w3, mupd_ne _ _ (by omega)]; exact hc1.2.2.1
    · rw [w4, mupd_ne _ _ (by omega)]; exact hc1.2.2.2.1
theorem X_rightLine {W : Nat → Int} {n J j ln : Nat} {T : TW} {R : Nat → RL} {NP NR : List (List Int)} {dr : Bool} {M : KM} (hJ : lastT W n J) (hV : ∀ p, tkK W n p = 2 → 0 ≤ tkV W n p ∧ tkV W n p ≤ 9999) (hP : LTP T R NP NR ln) (h : LCd W n J j ln T R NP NR dr M) (hk : kdJ W n j = 136) : Ret (f_Reader_rightLine M) (oL W n J ln (rigP W n j T R NP NR dr) M) := by
  have o := hP.1.1
  have e9 : M 15 9 = T 0 2 := h.2.1.1.1.2.2.1
  unfold f_Reader_rightLine rigP
  rw [e9]
  by_cases h6 : 6 ≤ T 0 2
  · rw [if_pos h6]
    exact Ret.f (by omega) (L_flt h Fp.rf)
  rw [if_neg h6]
  refine Ret.t (by omega) ?_
  refine Ret.bind (X_step h.1 (good_of hk (by decide)) hJ) ?_
  rintro q1 ⟨a1, a2⟩
  have hc1 := h.tok (a2.mono fun k j h => pTk_n k j (pS_k k j h)) a1 (by omega)
  refine Ret.bind (X_newNameR hJ hP hc1 (by omega)) ?_
  rintro q2 ⟨b1, b2⟩
  have fr2 : Fp pLC M q2.2 := (a2.mono pS_L).tr b2
  cases hx : newNm W n (j + 1) NR with
  | inl e =>
    rw [hx] at b1
    exact Ret.t b1.1 (Ret.pure ⟨⟨rfl, b1.2⟩, fr2⟩)
  | inr nm =>
    rw [hx] at b1
    obtain ⟨g1, hc2, g3, g4⟩ := b1
    refine Ret.f (by omega) ?_
    obtain ⟨⟨⟨t1, t2, t3, t4, t5, t6, t7⟩, u1, u2, u3, u4, u5⟩, d2, d3⟩ := hc2.2.1
    have t3 : q2.2 15 9 = T 0 2 := t3
    have t7 : q2.2 15 15 = T 0 6 := t7
    have u5 : 0 ≤ q2.2 24 1 ∧ q2.2 24 1 ≤ 1600 := u5
    obtain ⟨st, hst⟩ := Int.eq_ofNat_of_zero_le u5.1
    obtain ⟨U, hU⟩ := Int.eq_ofNat_of_zero_le (show 0 ≤ T 0 6 by omega)
    obtain ⟨m, hm2⟩ := Int.eq_ofNat_of_zero_le (show 0 ≤ T 0 2 by omega)
    have hj := h.2.2.2.2
    have e24 : q2.2 24 1 ≤ (j : Int) + 1 + 1 := by have := hc2.2.2.2.2; omega
    refine Ret.bind (R := fun q3 => q3 = mupd (mupd q2.2 23 m (st : Int)) 15 9 ((m : Int) + 1)) ?_ ?_
    · unfold f_Town_addRight
      rw [t3, hst, hm2, putM_nat _ _ _ _ (show m < 6 by omega)]
      rw [letM_e, mupd_ne _ _ (show (15 : Nat) ≠ 23 by omega), t3, hm2, w32e (by omega) (by omega)]
      exact Ret.letM (Ret.pure rfl)
    rintro q3 rfl
    have hr2 : RC W n J (j + 1 + 1) (mupd (mupd q2.2 23 m (st : Int)) 15 9 ((m : Int) + 1)) := RC.congr hc2.1 (by rw [mupd_ne _ _ (by omega), mupd_ne _ _ (by omega)]) (by rw [mupd_ne _ _ (by omega), mupd_ne _ _ (by omega)]) (fun c h1 h2 => by funext z; rw [mupd_ne _ _ (by omega), mupd_ne _ _ (by omega)])
    have hm : mupd (mupd q2.2 23 m (st : Int)) 15 9 ((m : Int) + 1) 24 1 = (st : Int) := by rw [mupd_ne _ _ (by omega), mupd_ne _ _ (by omega), hst]
    have hj2 : q2.2 24 1 ≤ ((j + 1 + 1 : Nat) : Int) := by omega
    have hj3 : M 24 1 ≤ (j : Int) := hj
    have e24b : q2.2 24 1 ≤ (j : Int) := by rw [g4, a2 24 1 (by unfold pS; omega)]; exact hj
    refine Ret.bind (X_formula (st := st) (U := U) hJ hV hr2 (by rw [mupd_ne2 _ _ (by omega), mupd_ne _ _ (by omega), t7, hU]) hm (by omega)) ?_
    rintro q4 ⟨b3, b4⟩
    rw [show (T 0 6).toNat = U by omega]
    have fr : Fp pLC M q4.2 := ((fr2.upd ⟨by omega, by omega⟩).upd ⟨by omega, by omega⟩).tr (b4.mono pXs_L)
    show Ret _ (oL W n J ln (sB (rulP W n (j + 2) U) fun r => .inr (r.1, mupd (mupd T 0 6 (r.2.1 : Int)) 0 2 (T 0 2 + 1), rset R (T 0 2).toNat r.2.2, NP, NR ++ [nm], dr)) M)
    cases hx2 : rulP W n (j + 2) U with
    | inl e =>
      rw [show j + 1 + 1 = j + 2 by omega, hx2] at b3
      obtain ⟨c1, c2⟩ : q4.1 = 0 ∧ fC e.1 e.2 q4.2 := b3
      exact Ret.t (by omega) (Ret.pure ⟨⟨c1, c2⟩, fr⟩)
    | inr r =>
      rw [show j + 1 + 1 = j + 2 by omega, hx2] at b3
      obtain ⟨c1, c2, c3, c4, c5, c6, c7⟩ := b3
      obtain ⟨w1, w2, w3, w4, w5, w6⟩ := rule_add hm b4 c4 c5 c6
      have k15 : ∀ i, i ≠ 15 → i ≠ 9 → q4.2 15 i = q2.2 15 i := fun i h1 h2 => by rw [w6 i h1, mupd_ne2 _ _ h2, mupd_ne _ _ (by omega)]
      have kc : ∀ c, c ≠ 14 → c ≠ 15 → c ≠ 24 → c ≠ 25 → c ≠ 23 → q4.2 c = q2.2 c := fun c h1 h2 h3 h4 h5 => by rw [w5 c ⟨h1, h2, h3, h4⟩]; funext z; rw [mupd_ne _ _ h2, mupd_ne _ _ h5]
      have kr : ∀ (s : Int) (K : RL), CRule 15 q2.2 s K → CRule 15 q4.2 s K := fun s K hs => w1 s K (CRule_congr hs (by rw [mupd_ne _ _ (by omega), mupd_ne _ _ (by omega)]) (by funext z; rw [mupd_ne _ _ (by omega), mupd_ne _ _ (by omega)]))
      have e23 : ∀ q, q4.2 23 q = if q = m then (st : Int) else q2.2 23 q := fun q => by
        rw [w5 23 (by omega), mupd_ne _ _ (by omega), mupd_at]
        exact ifc (by omega)
      have hJ16 := c2.2.2.2
      refine Ret.t (by omega) (Ret.pure ⟨⟨c1, c2, ⟨⟨⟨?_, ?_, ?_, ?_, ?_, ?_, c3⟩, fun p hp => ?_, fun f hf => ?_, fun q hq => ?_, ⟨fun z => ?_, fun z => ?_⟩, ?_⟩, fun i u hu => ?_, fun i u hu => ?_⟩, ?_, ?_, by show q4.2 24 1 ≤ _; rw [c4]; omega⟩, fr⟩)
      · show q4.2 15 0 = _; rw [k15 0 (by omega) (by omega)]; exact t1
      · show q4.2 15 5 = _; rw [k15 5 (by omega) (by omega)]; exact t2
      · show q4.2 15 9 = T 0 2 + 1; rw [w6 9 (by omega), mupd_same, hm2]
      · show q4.2 15 12 = _; rw [k15 12 (by omega) (by omega)]; exact t4
      · show q4.2 15 13 = _; rw [k15 13 (by omega) (by omega)]; exact t5
      · show q4.2 15 14 = _; rw [k15 14 (by omega) (by omega)]; exact t6
      · show q4.2 16 p = _ ∧ q4.2 17 p = _ ∧ q4.2 18 p = _ ∧ q4.2 19 p = _
        rw [kc 16 (by omega) (by omega) (by omega) (by omega) (by omega), kc 17 (by omega) (by omega) (by omega) (by omega) (by omega), kc 18 (by omega) (by omega) (by omega) (by omega) (by omega), kc 19 (by omega) (by omega) (by omega) (by omega) (by omega)]
        exact u1 p hp
      · show q4.2 20 f = _ ∧ q4.2 21 f = _ ∧ q4.2 22 f = _
        rw [kc 20 (by omega) (by omega) (by omega) (by omega) (by omega), kc 21 (by omega) (by omega) (by omega) (by omega) (by omega), kc 22 (by omega) (by omega) (by omega) (by omega) (by omega)]
        exact u2 f hf
      · have hq : (q : Int) < T 0 2 + 1 := hq
        show CRule 15 q4.2 (q4.2 23 q) (if q = (T 0 2).toNat then r.2.2 else R q)
        rw [e23]
        by_cases hqm : q = m
        · rw [if_pos hqm, if_pos (by omega)]; exact w2
        · rw [if_neg hqm, if_neg (by omega)]; exact kr _ _ (u3 q (by omega))
      · show q4.2 15 11 = -1
        rw [k15 11 (by omega) (by omega)]; exact u4.1 z
      · show CRule 15 q4.2 (q4.2 15 11) (if 6 = (T 0 2).toNat then r.2.2 else R 6)
        rw [k15 11 (by omega) (by omega), if_neg (by omega)]
        exact kr _ _ (u4.2 z)
      · show 0 ≤ q4.2 24 1 ∧ q4.2 24 1 ≤ 1600
        rw [c4]; omega
      · rw [kc 32 (by omega) (by omega) (by omega) (by omega) (by omega)]; exact d2 i u hu
      · rw [kc 33 (by omega) (by omega) (by omega) (by omega) (by omega)]; exact g3 i u hu
      · rw [w3, mupd_ne _ _ (by omega), mupd_ne _ _ (by omega)]; exact hc2.2.2.1
      · rw [w4, mupd_ne _ _ (by omega), mupd_ne _ _ (by omega)]; exact hc2.2.2.2.1
