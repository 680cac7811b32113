/-! LINES: the second side -/
def RG (b : Nat) (T : TW) (top : Int) (M : KM) : Prop := (∀ r : Nat, (r : Int) < T 0 2 → ((560 * b : Nat) : Int) ≤ M 400 (7 * b + r) ∧ M 401 (7 * b + r) ≤ top) ∧ (T 0 7 = 1 → ((560 * b : Nat) : Int) ≤ M 400 (7 * b + 6) ∧ M 401 (7 * b + 6) ≤ top)
def LMd (rb ln : Nat) (T : TW) (R : Nat → RL) (NP NR : List (List Int)) (dr : Bool) (M : KM) : Prop := M 382 38 = (rb : Int) ∧ TM rb T R M ∧ nmRM 404 (8 * rb) NP M ∧ nmRM 405 (6 * rb) NR M ∧ M 402 rb = (if dr = true then 1 else 0) ∧ M 392 rb = (ln : Int) ∧ (((560 * rb : Nat) : Int) ≤ M 382 39 ∧ M 382 39 ≤ ((560 * rb : Nat) : Int) + 9 * T 0 6) ∧ RG rb T (M 382 39) M
def pNx (T : TW) (rb k j : Nat) : Prop := pTm k j ∨ (((393 ≤ k ∧ k ≤ 396) ∨ k = 404) ∧ (j : Int) = 8 * rb + T 0 0) ∨ ((397 ≤ k ∧ k ≤ 399) ∧ (j : Int) = 20 * rb + T 0 1) ∨ (k = 405 ∧ (j : Int) = 6 * rb + T 0 2)
def pLM (rb k j : Nat) : Prop := (k = 382 ∧ ((4 ≤ j ∧ j ≤ 10) ∨ (39 ≤ j ∧ j ≤ 42))) ∨ (385 ≤ k ∧ k ≤ 392 ∧ j = rb) ∨ (393 ≤ k ∧ k ≤ 396 ∧ 8 * rb ≤ j ∧ j < 8 * rb + 8) ∨ (397 ≤ k ∧ k ≤ 399 ∧ 20 * rb ≤ j ∧ j < 20 * rb + 20) ∨ ((k = 400 ∨ k = 401 ∨ k = 403) ∧ 7 * rb ≤ j ∧ j < 7 * rb + 7) ∨ (k = 402 ∧ j = rb) ∨ (k = 404 ∧ 8 * rb ≤ j ∧ j < 8 * rb + 8) ∨ (k = 405 ∧ 6 * rb ≤ j ∧ j < 6 * rb + 6) ∨ ((k = 406 ∨ k = 407) ∧ 560 * rb ≤ j ∧ j < 560 * rb + 560) ∨ k = 408 ∨ k = 409
theorem pTm_N {T : TW} {rb : Nat} : ∀ k j, pTm k j → pNx T rb k j := fun k j h => Or.inl h
theorem pTm_LM {rb : Nat} : ∀ k j, pTm k j → pLM rb k j := fun k j h => Or.inl ⟨h.1, Or.inl h.2⟩
theorem pExm_LM {rb bs : Nat} (hb : 560 * rb ≤ bs) : ∀ k j, pExm rb bs k j → pLM rb k j := fun k j h => by
  rcases h with h | h | h | h | h
  · exact Or.inl h
  · exact Or.inr (Or.inl ⟨by omega, by omega, h.2⟩)
  · exact Or.inr (Or.inr (Or.inr (Or.inr (Or.inr (Or.inr (Or.inr (Or.inr (Or.inl ⟨h.1, by omega, h.2.2⟩))))))))
  · exact Or.inr (Or.inr (Or.inr (Or.inr (Or.inr (Or.inr (Or.inr (Or.inr (Or.inr (Or.inl h)))))))))
  · exact Or.inr (Or.inr (Or.inr (Or.inr (Or.inr (Or.inr (Or.inr (Or.inr (Or.inr (Or.inr h)))))))))
theorem TM_congr {rb : Nat} {T : TW} {R : Nat → RL} {M M' : KM} (h : TM rb T R M) (h0 : ∀ c, 385 ≤ c → c ≤ 391 → M' c rb = M c rb) (h1 : ∀ c, 393 ≤ c → c ≤ 396 → ∀ p : Nat, (p : Int) < T 0 0 → M' c (8 * rb + p) = M c (8 * rb + p)) (h2 : ∀ c, 397 ≤ c → c ≤ 399 → ∀ f : Nat, (f : Int) < T 0 1 → M' c (20 * rb + f) = M c (20 * rb + f)) (h3 : M' 403 (7 * rb + 6) = M 403 (7 * rb + 6)) (h4 : ∀ r : Nat, (r : Int) < T 0 2 → MRule rb M r (R r) → MRule rb M' r (R r)) (h5 : T 0 7 = 1 → MRule rb M 6 (R 6) → MRule rb M' 6 (R 6)) : TM rb T R M' := by
  obtain ⟨⟨t1, t2, t3, t4, t5, t6, t7, t8⟩, u1, u2, u3, u4⟩ := h
  refine ⟨⟨?_, ?_, ?_, ?_, ?_, ?_, ?_, ?_⟩, fun p hp => ?_, fun f hf => ?_, fun r hr => h4 r hr (u3 r hr), fun q => h5 q (u4 q)⟩
  · rw [h0 385 (by omega) (by omega)]; exact t1
  · rw [h0 386 (by omega) (by omega)]; exact t2
  · rw [h0 387 (by omega) (by omega)]; exact t3
  · rw [h0 390 (by omega) (by omega)]; exact t4
  · rw [h0 391 (by omega) (by omega)]; exact t5
  · rw [h0 389 (by omega) (by omega)]; exact t6
  · rw [h0 388 (by omega) (by omega)]; exact t7
  · rw [h3]; exact t8
  · rw [h1 393 (by omega) (by omega) p hp, h1 394 (by omega) (by omega) p hp, h1 395 (by omega) (by omega) p hp, h1 396 (by omega) (by omega) p hp]; exact u1 p hp
  · rw [h2 397 (by omega) (by omega) f hf, h2 398 (by omega) (by omega) f hf, h2 399 (by omega) (by omega) f hf]; exact u2 f hf
theorem MRule_congr {rb r : Nat} {L : RL} {M M' : KM} (h : MRule rb M r L) (h0 : M' 400 (7 * rb + r) = M 400 (7 * rb + r)) (h1 : M' 401 (7 * rb + r) = M 401 (7 * rb + r)) (h2 : ∀ i, i < L.length → M' 406 ((M 400 (7 * rb + r)).toNat + i) = M 406 ((M 400 (7 * rb + r)).toNat + i) ∧ M' 407 ((M 400 (7 * rb + r)).toNat + i) = M 407 ((M 400 (7 * rb + r)).toNat + i)) : MRule rb M' r L := by
  obtain ⟨a1, a2, a3, a4⟩ := h
  unfold MRule
  rw [h0, h1]
  exact ⟨a1, a2, a3, fun i q hi => by
    have hl := (List.getElem?_eq_some_iff.mp hi).1
    have := h2 i hl
    rw [this.1, this.2]; exact a4 i q hi⟩
theorem LMd.nx2 {rb ln : Nat} {T : TW} {R : Nat → RL} {NP NR : List (List Int)} {dr : Bool} {M M' : KM} (hP : (NP.length : Int) = T 0 0 ∧ (NR.length : Int) = T 0 2) (h : LMd rb ln T R NP NR dr M) (hf : Fp (pNx T rb) M M') : LMd rb ln T R NP NR dr M' := by
  obtain ⟨l1, l2⟩ := hP
  obtain ⟨a1, a2, a3, a4, a5, a6, a7, a8, a9⟩ := h
  have e39 : M' 382 39 = M 382 39 := hf 382 39 (by unfold pNx pTm; omega)
  have e400 : ∀ j, M' 400 j = M 400 j := fun j => hf 400 j (by unfold pNx pTm; omega)
  have e401 : ∀ j, M' 401 j = M 401 j := fun j => hf 401 j (by unfold pNx pTm; omega)
  have e406 : ∀ j, M' 406 j = M 406 j := fun j => hf 406 j (by unfold pNx pTm; omega)
  have e407 : ∀ j, M' 407 j = M 407 j := fun j => hf 407 j (by unfold pNx pTm; omega)
  refine ⟨by rw [hf 382 38 (by unfold pNx pTm; omega)]; exact a1, TM_congr a2 (fun c h1 h2 => hf c _ (by unfold pNx pTm; omega)) (fun c h1 h2 p hp => hf c _ (by unfold pNx pTm; omega)) (fun c h1 h2 p hp => hf c _ (by unfold pNx pTm; omega)) (hf 403 _ (by unfold pNx pTm; omega)) (fun r hr hm => MRule_congr hm (e400 _) (e401 _) fun i hi => ⟨e406 _, e407 _⟩) (fun _ hm => MRule_congr hm (e400 _) (e401 _) fun i hi => ⟨e406 _, e407 _⟩), fun i u hu => ?_, fun i u hu => ?_, by rw [hf 402 rb (by unfold pNx pTm; omega)]; exact a5, by rw [hf 392 rb (by unfold pNx pTm; omega)]; exact a6, by rw [e39]; exact a7, fun r hr => by rw [e400, e401, e39]; exact a8 r hr, fun q => by rw [e400, e401, e39]; exact a9 q⟩
  · have := (List.getElem?_eq_some_iff.mp hu).1
    rw [hf 404 _ (by unfold pNx pTm; omega)]; exact a3 i u hu
  · have := (List.getElem?_eq_some_iff.mp hu).1
    rw [hf 405 _ (by unfold pNx pTm; omega)]; exact a4 i u hu
theorem LMd.nx {rb ln : Nat} {T : TW} {R : Nat → RL} {NP NR : List (List Int)} {dr : Bool} {M M' : KM} (hP : LTP T R NP NR ln) (h : LMd rb ln T R NP NR dr M) (hf : Fp (pNx T rb) M M') : LMd rb ln T R NP NR dr M' := h.nx2 ⟨hP.2.1, hP.2.2.1⟩ hf
/-- all told by a bad place: it stays -/
theorem fM_keep {f : Int} {p : Nat} {M M' : KM} (h : fM f p M) (h4 : M' 382 4 = M 382 4) (h5 : M' 382 5 = M 382 5) (h6 : M' 382 6 = M 382 6) : fM f p M' := ⟨by rw [h4]; exact h.1, by rw [h5]; exact h.2.1, by rw [h6]; exact h.2.2⟩
theorem fM_upd {f : Int} {p : Nat} {M : KM} (h : fM f p M) {k i : Nat} {v : Int} (hk : k ≠ 382) : fM f p (mupd M k i v) := fM_keep h (by rw [mupd_ne _ _ (by omega)]) (by rw [mupd_ne _ _ (by omega)]) (by rw [mupd_ne _ _ (by omega)])
theorem RM.upd {W : Nat → Int} {n j : Nat} {M : KM} (h : RM W n j M) {k i : Nat} {v : Int} (hk : k ≠ 382) (hk2 : k ≠ 384) : RM W n j (mupd M k i v) := h.congr (fun i _ _ => by rw [mupd_ne _ _ (by omega)]) (by funext z; rw [mupd_ne _ _ (by omega)])
/-- good or bad, both so far -/
def GB2 {α : Type} (W : Nat → Int) (n : Nat) (x : (Int × Nat) ⊕ α) (g : α → Nat) (H : α → Prop) (M : KM) : Prop := Sum.elim (fun e : Int × Nat => fM e.1 e.2 M ∧ e.1 ≠ 0) (fun y => RM W n (g y) M ∧ H y) x
theorem GB2.upd {α : Type} {W : Nat → Int} {n : Nat} {x : (Int × Nat) ⊕ α} {g : α → Nat} {H H' : α → Prop} {M : KM} (h : GB2 W n x g H M) {k i : Nat} {v : Int} (hk : k ≠ 382) (hk2 : k ≠ 384) (hH : ∀ y, x = .inr y → H y → H' y) : GB2 W n x g H' (mupd M k i v) := by
  cases x with
  | inl e => exact ⟨fM_upd h.1 hk, h.2⟩
  | inr y => exact ⟨h.1.upd hk hk2, hH y rfl h.2⟩
/-- a word and a number behind what was read -/
theorem G_after {α : Type} {W : Nat → Int} {n : Nat} {x : (Int × Nat) ⊕ α} {g : α → Nat} {H : α → Prop} {M : KM} (hW : TXR W) (h : GB2 W n x g H M) {i : Nat} {u : List Int} (hu : WDS[i]? = some u) {c : Int} (hc : nmM u = c) (lo hi : Int) : Ret (f_M_after c lo hi M) (fun q => GB2 W n (sB x fun y => sB (tkNum W n (g y) (128 + (i : Int)) lo hi) fun z => .inr (y, z)) (fun w : α × Int => g w.1 + 2) (fun w : α × Int => H w.1 ∧ q.1 = w.2) q.2 ∧ Fp pTm M q.2) := by
  cases x with
  | inl e =>
    obtain ⟨h1, h2⟩ := h
    rw [M_after_bad (fM_bad h1 h2)]
    exact Ret.pure ⟨⟨h1, h2⟩, Fp.rf⟩
  | inr y =>
    obtain ⟨h1, h2⟩ := h
    refine (M_after h1 hW hu hc lo hi).mono ?_
    rintro q ⟨q1, q2⟩
    refine ⟨?_, q2⟩
    show GB2 W n (sB (tkNum W n (g y) (128 + (i : Int)) lo hi) fun z => .inr (y, z)) _ _ q.2
    cases hx : tkNum W n (g y) (128 + (i : Int)) lo hi with
    | inl e =>
      rw [hx] at q1
      exact ⟨q1.1, tkNum_bad hx⟩
    | inr z =>
      rw [hx] at q1
      exact ⟨q1.2, h2, q1.1⟩
/-- .. that may be missing -/
theorem G_opt {α : Type} {W : Nat → Int} {n : Nat} {x : (Int × Nat) ⊕ α} {g : α → Nat} {H : α → Prop} {M : KM} (hW : TXR W) (h : GB2 W n x g H M) {i : Nat} {u : List Int} (hu : WDS[i]? = some u) {c : Int} (hc : nmM u = c) (lo hi : Int) {d : α → Int} {dv : Int} (hd : ∀ y, x = .inr y → H y → d y = dv) {A : Option (Int × KM)} (hA : A = some (dv, M)) {B : KM → Option (Int × KM)} (hB : B M = Option.bind (f_M_after c lo hi M) (fun q => some (q.1, q.2))) :
    Ret (Option.bind (f_M_isGood M) (fun q9 => (if q9 = (0 : Int) then A else Option.bind (f_M_isWord c M) (fun q10 => (if q10 = (0 : Int) then A else B M))))) (fun q => GB2 W n (sB x fun y => sB (opNm W n (g y) (128 + (i : Int)) lo hi (d y)) fun z => .inr (y, z)) (fun w : α × Int × Nat => w.2.2) (fun w : α × Int × Nat => H w.1 ∧ q.1 = w.2.1) q.2 ∧ Fp pTm M q.2) := by
  rw [M_isGood, ob_some, hA]
  cases x with
  | inl e =>
    obtain ⟨h1, h2⟩ := h
    rw [if_neg (fM_bad h1 h2)]
    exact Ret.t rfl (Ret.pure ⟨⟨h1, h2⟩, Fp.rf⟩)
  | inr y =>
    obtain ⟨h1, h2⟩ := h
    rw [if_pos h1.2.2]
    refine Ret.f (by decide) ?_
    rw [M_isWord h1 hu hc, ob_some]
    show Ret _ (fun q : Int × KM => GB2 W n (sB (opNm W n (g y) (128 + (i : Int)) lo hi (d y)) fun z => .inr (y, z)) _ _ q.2 ∧ Fp pTm M q.2)
    by_cases hk : kdJ W n (g y) = 128 + (i : Int)
    · rw [if_pos hk]
      refine Ret.f (by decide) ?_
      rw [hB]
      refine Ret.bind (M_after h1 hW hu hc lo hi) ?_
      rintro q ⟨q1, q2⟩
      refine Ret.pure ⟨?_, q2⟩
      unfold opNm
      rw [if_pos hk]
      cases hx : tkNum W n (g y) (128 + (i : Int)) lo hi with
      | inl e =>
        rw [hx] at q1
        exact ⟨q1.1, tkNum_bad hx⟩
      | inr z =>
        rw [hx] at q1
        exact ⟨q1.2, h2, q1.1⟩
    · rw [if_neg hk]
      refine Ret.t rfl (Ret.pure ⟨?_, Fp.rf⟩)
      unfold opNm
      rw [if_neg hk]
      exact ⟨h1, h2, (hd y rfl h2).symm⟩
theorem sB_sB {α β γ : Type} (x : (Int × Nat) ⊕ α) (f : α → (Int × Nat) ⊕ β) (g : β → (Int × Nat) ⊕ γ) : sB (sB x f) g = sB x (fun y => sB (f y) g) := by
  cases x with
  | inl e => rfl
  | inr y => rfl
/-- the line's end -/
def oN (W : Nat → Int) (n rb ln : Nat) (x : (Int × Nat) ⊕ LST) (M0 M : KM) : Prop := Sum.elim (fun e : Int × Nat => fM e.1 e.2 M ∧ e.1 ≠ 0) (fun s : LST => RM W n s.1 M ∧ LMd rb ln s.2.1 s.2.2.1 s.2.2.2.1 s.2.2.2.2.1 s.2.2.2.2.2 M) x ∧ Fp (pLM rb) M0 M
theorem N_end {W : Nat → Int} {n rb ln : Nat} {α : Type} {x : (Int × Nat) ⊕ α} {g : α → Nat} {T : α → TW} {R : α → Nat → RL} {NP NR : α → List (List Int)} {dr : α → Bool} {M0 M : KM} (hW : TXR W) (hT : TXM W n M) (hx : Sum.elim (fun e : Int × Nat => fM e.1 e.2 M ∧ e.1 ≠ 0) (fun y => (RM W n (g y) M ∧ LMd rb ln (T y) (R y) (NP y) (NR y) (dr y) M) ∧ (((NP y).length : Int) = T y 0 0 ∧ ((NR y).length : Int) = T y 0 2)) x) (hf : Fp (pLM rb) M0 M) : Ret (Option.bind (f_M_isSignHere 59 M) (fun q25 => Option.bind (f_M_must q25 M) (fun q26 => some q26))) (oN W n rb ln (sB x fun y => enP W n (g y) (T y) (R y) (NP y) (NR y) (dr y)) M0) := by
  cases x with
  | inl e =>
    obtain ⟨h1, h2⟩ := hx
    obtain ⟨y, hy⟩ := isSign_any hT h1.2.2 59
    rw [hy, ob_some, M_must_bad (fM_bad h1 h2)]
    exact Ret.pure ⟨⟨h1, h2⟩, hf⟩
  | inr y =>
    obtain ⟨⟨h1, h2⟩, h3⟩ := hx
    rw [M_isSignHere h1 (c := 59) (by decide), ob_some]
    refine Ret.bind (M_must h1 hW) ?_
    rintro q ⟨q1, q2⟩
    refine Ret.pure ⟨?_, hf.tr (q2.mono pTm_LM)⟩
    show Sum.elim _ _ (enP W n (g y) (T y) (R y) (NP y) (NR y) (dr y))
    unfold enP
    by_cases hk : kdJ W n (g y) = 59
    · rw [if_pos hk] at q1 ⊢
      refine ⟨q1, ?_⟩
      exact h2.nx2 h3 (q2.mono pTm_N)
    · rw [if_neg hk] at q1 ⊢
      exact ⟨q1, by show f2 W n (g y) ≠ 0; have := f2_R W n (g y); omega⟩
