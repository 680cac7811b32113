/-! LINES: the second side: a person -/
theorem bnd {α β γ : Type} (x : Option α) (f : α → Option β) (g : β → Option γ) : Option.bind (Option.bind x f) g = Option.bind x (fun y => Option.bind (f y) g) := by cases x <;> rfl
theorem LMd.rw {rb ln : Nat} {T : TW} {R : Nat → RL} {NP NR : List (List Int)} {dr : Bool} {M : KM} (h : LMd rb ln T R NP NR dr M) : M 385 rb = T 0 0 ∧ M 386 rb = T 0 1 ∧ M 387 rb = T 0 2 ∧ M 390 rb = T 0 3 ∧ M 391 rb = T 0 4 ∧ M 389 rb = T 0 5 ∧ M 388 rb = T 0 6 ∧ M 403 (7 * rb + 6) = T 0 7 := h.2.1.1
theorem pNx_k {T : TW} {R : Nat → RL} {rb : Nat} (ho : okT T R) (hrb : rb < 2) (h8 : T 0 0 < 8 ∨ True) {k j : Nat} (h : pNx T rb k j) (h0 : T 0 0 < 8) (h1 : T 0 1 < 20) (h2 : T 0 2 < 6) : pLM rb k j := by
  have o := ho.1
  rcases h with h | ⟨h, e⟩ | ⟨h, e⟩ | ⟨h, e⟩
  · exact pTm_LM k j h
  · rcases h with h | h
    · exact Or.inr (Or.inr (Or.inl ⟨h.1, h.2, by omega, by omega⟩))
    · exact Or.inr (Or.inr (Or.inr (Or.inr (Or.inr (Or.inr (Or.inl ⟨h, by omega, by omega⟩))))))
  · exact Or.inr (Or.inr (Or.inr (Or.inl ⟨h.1, h.2, by omega, by omega⟩)))
  · exact Or.inr (Or.inr (Or.inr (Or.inr (Or.inr (Or.inr (Or.inr (Or.inl ⟨h, by omega, by omega⟩)))))))
def pPe (T : TW) (rb k j : Nat) : Prop := pTm k j ∨ (((393 ≤ k ∧ k ≤ 396) ∨ k = 404) ∧ (j : Int) = 8 * rb + T 0 0)
theorem pPe_N {T : TW} {rb : Nat} : ∀ k j, pPe T rb k j → pNx T rb k j := fun k j h => h.elim Or.inl fun h => Or.inr (Or.inl h)
theorem pPe_LM {T : TW} {rb : Nat} (h0 : 0 ≤ T 0 0 ∧ T 0 0 < 8) : ∀ k j, pPe T rb k j → pLM rb k j := fun k j h => by
  rcases h with h | ⟨h, e⟩
  · exact pTm_LM k j h
  · rcases h with h | h
    · exact Or.inr (Or.inr (Or.inl ⟨h.1, h.2, by omega, by omega⟩))
    · exact Or.inr (Or.inr (Or.inr (Or.inr (Or.inr (Or.inr (Or.inl ⟨h, by omega, by omega⟩))))))
/-- a person's row is told -/
theorem LM_person {rb ln m : Nat} {T : TW} {R : Nat → RL} {NP NR : List (List Int)} {dr : Bool} {M : KM} (hP : LTP T R NP NR ln) (h : LMd rb ln T R NP NR dr M) (hm : T 0 0 = (m : Int)) {nm : List Int} {age coin nd fa : Int} (h1 : M 404 (8 * rb + m) = nmM nm) (h2 : M 393 (8 * rb + m) = age) (h3 : M 394 (8 * rb + m) = coin) (h4 : M 395 (8 * rb + m) = nd) (h5 : M 396 (8 * rb + m) = fa) : LMd rb ln (perT T age coin nd fa) R (NP ++ [nm]) NR dr (mupd M 385 rb ((m : Int) + 1)) := by
  obtain ⟨-, l1, l2, -⟩ := hP
  obtain ⟨a1, ⟨⟨t1, t2, t3, t4, t5, t6, t7, t8⟩, u1, u2, u3, u4⟩, a3, a4, a5, a6, a7, a8, a9⟩ := h
  have kc : ∀ c, c ≠ 385 → mupd M 385 rb ((m : Int) + 1) c = M c := fun c hc => by funext z; rw [mupd_ne _ _ hc]
  refine ⟨by rw [kc 382 (by omega)]; exact a1, ⟨⟨by rw [mupd_same]; show _ = T 0 0 + 1; omega, by rw [kc 386 (by omega)]; exact t2, by rw [kc 387 (by omega)]; exact t3, by rw [kc 390 (by omega)]; exact t4, by rw [kc 391 (by omega)]; exact t5, by rw [kc 389 (by omega)]; exact t6, by rw [kc 388 (by omega)]; exact t7, by rw [kc 403 (by omega)]; exact t8⟩, fun p hp => ?_, fun f hf => ?_, fun r hr => ?_, fun q => ?_⟩, fun i u hu => ?_, fun i u hu => by rw [kc 405 (by omega)]; exact a4 i u hu, by rw [kc 402 (by omega)]; exact a5, by rw [kc 392 (by omega)]; exact a6, by rw [kc 382 (by omega)]; exact a7, fun r hr => by rw [kc 400 (by omega), kc 401 (by omega), kc 382 (by omega)]; exact a8 r hr, fun q => by rw [kc 400 (by omega), kc 401 (by omega), kc 382 (by omega)]; exact a9 q⟩
  · have hp : (p : Int) < T 0 0 + 1 := hp
    rw [kc 393 (by omega), kc 394 (by omega), kc 395 (by omega), kc 396 (by omega)]
    show _ = (if (1 : Nat) = 1 ∧ p = (T 0 0).toNat then age else T 1 p) ∧ _ = (if (2 : Nat) = 2 ∧ p = (T 0 0).toNat then coin else T 2 p) ∧ _ = (if (3 : Nat) = 3 ∧ p = (T 0 0).toNat then nd else T 3 p) ∧ _ = (if (4 : Nat) = 4 ∧ p = (T 0 0).toNat then fa else T 4 p)
    by_cases hq : p = m
    · rw [if_pos ⟨rfl, by omega⟩, if_pos ⟨rfl, by omega⟩, if_pos ⟨rfl, by omega⟩, if_pos ⟨rfl, by omega⟩, hq]
      exact ⟨h2, h3, h4, h5⟩
    · rw [if_neg (by omega), if_neg (by omega), if_neg (by omega), if_neg (by omega)]
      exact u1 p (by omega)
  · rw [kc 397 (by omega), kc 398 (by omega), kc 399 (by omega)]; exact u2 f hf
  · exact MRule_congr (u3 r hr) (by rw [kc 400 (by omega)]) (by rw [kc 401 (by omega)]) fun i hi => ⟨by rw [kc 406 (by omega)], by rw [kc 407 (by omega)]⟩
  · exact MRule_congr (u4 q) (by rw [kc 400 (by omega)]) (by rw [kc 401 (by omega)]) fun i hi => ⟨by rw [kc 406 (by omega)], by rw [kc 407 (by omega)]⟩
  · rw [kc 404 (by omega)]
    by_cases hl : i < NP.length
    · rw [List.getElem?_append_left hl] at hu; exact a3 i u hu
    · rw [List.getElem?_append_right (by omega)] at hu
      have hz : i - NP.length < 1 := (List.getElem?_eq_some_iff.mp hu).1
      have hi2 : i = NP.length := by omega
      rw [hi2, Nat.sub_self] at hu
      have : nm = u := Option.some.inj hu
      rw [show i = m by omega, ← this]; exact h1
def perX (W : Nat → Int) (n j : Nat) (T : TW) (NP : List (List Int)) : (Int × Nat) ⊕ ((((List Int × Int) × Int) × Int × Nat) × Int × Nat) := sB (sB (sB (sB (newNm W n j NP) fun y => sB (tkNum W n (j + 1) (128 + ((1 : Nat) : Int)) (T 0 3) (T 0 4)) fun z => .inr (y, z)) fun y => sB (tkNum W n (j + 1 + 2) (128 + ((2 : Nat) : Int)) 0 999) fun z => .inr (y, z)) fun y => sB (opNm W n (j + 1 + 2 + 2) (128 + ((3 : Nat) : Int)) (T 0 3) (T 0 4) y.1.2) fun z => .inr (y, z)) fun y => sB (opNm W n y.2.2 (128 + ((4 : Nat) : Int)) 0 3 0) fun z => .inr (y, z)
theorem M_readPerson {W : Nat → Int} {n rb j ln : Nat} {T : TW} {R : Nat → RL} {NP NR : List (List Int)} {dr : Bool} {M : KM} (hW : TXR W) (hrb : rb < 2) (hP : LTP T R NP NR ln) (hr : RM W n j M) (h : LMd rb ln T R NP NR dr M) (h8 : T 0 0 < 8) :
    Ret (f_M_readPerson M) (fun q => (Sum.elim (fun e : Int × Nat => fM e.1 e.2 q ∧ e.1 ≠ 0) (fun y : (((List Int × Int) × Int) × Int × Nat) × Int × Nat => RM W n y.2.2 q ∧ LMd rb ln (perT T y.1.1.1.2 y.1.1.2 y.1.2.1 y.2.1) R (NP ++ [y.1.1.1.1]) NR dr q) (perX W n j T NP)) ∧ Fp (pLM rb) M q) := by
  have o := hP.1.1
  have l1 := hP.2.1
  obtain ⟨m, hm⟩ := Int.eq_ofNat_of_zero_le o.1
  have rw0 := h.rw
  have b0 := h.1
  unfold f_M_readPerson f_M_personHere
  rw [b0, Int.toNat_natCast, rw0.1, w32e (n := 8 * (rb : Int)) (by omega) (by omega), w32e (n := 8 * (rb : Int) + T 0 0) (by omega) (by omega), hm, show 8 * (rb : Int) + (m : Int) = ((8 * rb + m : Nat) : Int) by omega]
  refine Ret.t (by omega) (Ret.letI ?_)
  have hh := M_hereP (o := 8 * rb) hr hP.2.2.2.1 h.2.2.1 (by omega)
  rw [if_pos (show 0 ≤ (rb : Int) ∧ (rb : Int) < 2 by omega), show (8 * (rb : Int)) = ((8 * rb : Nat) : Int) by omega, show (m : Int) = (NP.length : Int) by omega, hh, ob_some, ob_some]
  refine Ret.bind (M_fresh (N := NP) hr hW) ?_
  rintro q3 ⟨a1, a2⟩
  rw [Int.toNat_natCast]
  refine Ret.t (by omega) ?_
  have f4 : Fp (pPe T rb) M (mupd q3.2 404 (8 * rb + m) q3.1) := (a2.mono fun k j h => Or.inl h).upd (Or.inr ⟨Or.inr rfl, by omega⟩)
  have G4 : GB2 W n (newNm W n j NP) (fun _ => j + 1) (fun nm => mupd q3.2 404 (8 * rb + m) q3.1 404 (8 * rb + m) = nmM nm) (mupd q3.2 404 (8 * rb + m) q3.1) := by
    cases hx : newNm W n j NP with
    | inl e => rw [hx] at a1; exact ⟨fM_upd a1 (by omega), newNm_bad hx⟩
    | inr u => rw [hx] at a1; exact ⟨a1.2.upd (by omega) (by omega), by rw [mupd_same]; exact a1.1⟩
  generalize mupd q3.2 404 (8 * rb + m) q3.1 = M4 at f4 G4
  refine Ret.letM ?_
  have L4 := h.nx hP (f4.mono pPe_N)
  rw [L4.1, Int.toNat_natCast, L4.rw.2.2.2.1, L4.rw.2.2.2.2.1]
  refine Ret.t (by omega) (Ret.t (by omega) ?_)
  refine Ret.bind (G_after hW G4 (i := 1) (u := [97, 103, 101]) rfl (by decide) (T 0 3) (T 0 4)) ?_
  rintro q5 ⟨c1, c2⟩
  refine Ret.t (by omega) ?_
  have f6 : Fp (pPe T rb) M (mupd q5.2 393 (8 * rb + m) q5.1) := (f4.tr (c2.mono fun k j h => Or.inl h)).upd (Or.inr ⟨Or.inl (by omega), by omega⟩)
  have e5 : q5.2 404 (8 * rb + m) = M4 404 (8 * rb + m) := c2 404 _ (by unfold pTm; omega)
  have G6 := c1.upd (k := 393) (i := 8 * rb + m) (v := q5.1) (H' := fun y => mupd q5.2 393 (8 * rb + m) q5.1 404 (8 * rb + m) = nmM y.1 ∧ mupd q5.2 393 (8 * rb + m) q5.1 393 (8 * rb + m) = y.2) (by omega) (by omega) (fun y _ hy => ⟨by rw [mupd_ne _ _ (by omega), e5]; exact hy.1, by rw [mupd_same]; exact hy.2⟩)
  generalize mupd q5.2 393 (8 * rb + m) q5.1 = M6 at f6 G6
  refine Ret.letM ?_
  refine Ret.bind (G_after hW G6 (i := 2) (u := [99, 111, 105, 110]) rfl (by decide) 0 999) ?_
  rintro q7 ⟨d1, d2⟩
  refine Ret.t (by omega) ?_
  have f8 : Fp (pPe T rb) M (mupd q7.2 394 (8 * rb + m) q7.1) := (f6.tr (d2.mono fun k j h => Or.inl h)).upd (Or.inr ⟨Or.inl (by omega), by omega⟩)
  have k7 : ∀ c, c ≠ 382 → q7.2 c = M6 c := fun c hc => d2.row fun z hz => by unfold pTm at hz; omega
  have G8 := d1.upd (k := 394) (i := 8 * rb + m) (v := q7.1) (H' := fun y => (mupd q7.2 394 (8 * rb + m) q7.1 404 (8 * rb + m) = nmM y.1.1 ∧ mupd q7.2 394 (8 * rb + m) q7.1 393 (8 * rb + m) = y.1.2) ∧ mupd q7.2 394 (8 * rb + m) q7.1 394 (8 * rb + m) = y.2) (by omega) (by omega) (fun y _ hy => ⟨⟨by rw [mupd_ne _ _ (by omega), k7 404 (by omega)]; exact hy.1.1, by rw [mupd_ne _ _ (by omega), k7 393 (by omega)]; exact hy.1.2⟩, by rw [mupd_same]; exact hy.2⟩)
  generalize mupd q7.2 394 (8 * rb + m) q7.1 = M8 at f8 G8
  refine Ret.letM ?_
  have L8 := h.nx hP (f8.mono pPe_N)
  rw [L8.1, Int.toNat_natCast, L8.rw.2.2.2.1, L8.rw.2.2.2.2.1]
  have ifA : (if 0 ≤ ((8 * rb + m : Nat) : Int) ∧ ((8 * rb + m : Nat) : Int) < 16 then some (M8 393 (8 * rb + m), M8) else none) = some (M8 393 (8 * rb + m), M8) := if_pos (by omega)
  rw [← bnd]
  refine Ret.bind (G_opt hW G8 (i := 3) (u := [110, 101, 101, 100]) (c := 1852138852) rfl (by decide) (T 0 3) (T 0 4) (d := fun y => y.1.2) (dv := M8 393 (8 * rb + m)) (fun y _ hy => hy.1.2.symm) (B := fun M8' => (if 0 ≤ (rb : Int) ∧ (rb : Int) < 2 then (if 0 ≤ (rb : Int) ∧ (rb : Int) < 2 then Option.bind (f_M_after (1852138852 : Int) (T 0 3) (T 0 4) M8') (fun q11 => some (q11.1, q11.2)) else none) else none)) ifA (by show (if 0 ≤ (rb : Int) ∧ (rb : Int) < 2 then _ else _) = _; rw [if_pos (show 0 ≤ (rb : Int) ∧ (rb : Int) < 2 by omega), if_pos (show 0 ≤ (rb : Int) ∧ (rb : Int) < 2 by omega)])) ?_
  rintro t12 ⟨g1, g2⟩
  refine Ret.t (by omega) ?_
  have f13 : Fp (pPe T rb) M (mupd t12.2 395 (8 * rb + m) t12.1) := (f8.tr (g2.mono fun k j h => Or.inl h)).upd (Or.inr ⟨Or.inl (by omega), by omega⟩)
  have k12 : ∀ c, c ≠ 382 → t12.2 c = M8 c := fun c hc => g2.row fun z hz => by unfold pTm at hz; omega
  have G13 := g1.upd (k := 395) (i := 8 * rb + m) (v := t12.1) (H' := fun y => ((mupd t12.2 395 (8 * rb + m) t12.1 404 (8 * rb + m) = nmM y.1.1.1 ∧ mupd t12.2 395 (8 * rb + m) t12.1 393 (8 * rb + m) = y.1.1.2) ∧ mupd t12.2 395 (8 * rb + m) t12.1 394 (8 * rb + m) = y.1.2) ∧ mupd t12.2 395 (8 * rb + m) t12.1 395 (8 * rb + m) = y.2.1) (by omega) (by omega) (fun y _ hy => ⟨⟨⟨by rw [mupd_ne _ _ (by omega), k12 404 (by omega)]; exact hy.1.1.1, by rw [mupd_ne _ _ (by omega), k12 393 (by omega)]; exact hy.1.1.2⟩, by rw [mupd_ne _ _ (by omega), k12 394 (by omega)]; exact hy.1.2⟩, by rw [mupd_same]; exact hy.2⟩)
  generalize mupd t12.2 395 (8 * rb + m) t12.1 = M13 at f13 G13
  refine Ret.letM ?_
  rw [← bnd]
  refine Ret.bind (G_opt hW G13 (i := 4) (u := [102, 97, 109, 105, 108, 121]) (c := 112568633486457) rfl (by decide) 0 3 (d := fun _ => 0) (dv := 0) (fun y _ hy => rfl) (A := some (0, M13)) (B := fun M13' => Option.bind (f_M_after (112568633486457 : Int) 0 3 M13') (fun q16 => some (q16.1, q16.2))) rfl rfl) ?_
  rintro t17 ⟨i1, i2⟩
  refine Ret.t (by omega) ?_
  have f18 : Fp (pPe T rb) M (mupd t17.2 396 (8 * rb + m) t17.1) := (f13.tr (i2.mono fun k j h => Or.inl h)).upd (Or.inr ⟨Or.inl (by omega), by omega⟩)
  have k17 : ∀ c, c ≠ 382 → t17.2 c = M13 c := fun c hc => i2.row fun z hz => by unfold pTm at hz; omega
  have G18 := i1.upd (k := 396) (i := 8 * rb + m) (v := t17.1) (H' := fun y => (((mupd t17.2 396 (8 * rb + m) t17.1 404 (8 * rb + m) = nmM y.1.1.1.1 ∧ mupd t17.2 396 (8 * rb + m) t17.1 393 (8 * rb + m) = y.1.1.1.2) ∧ mupd t17.2 396 (8 * rb + m) t17.1 394 (8 * rb + m) = y.1.1.2) ∧ mupd t17.2 396 (8 * rb + m) t17.1 395 (8 * rb + m) = y.1.2.1) ∧ mupd t17.2 396 (8 * rb + m) t17.1 396 (8 * rb + m) = y.2.1) (by omega) (by omega) (fun y _ hy => ⟨⟨⟨⟨by rw [mupd_ne _ _ (by omega), k17 404 (by omega)]; exact hy.1.1.1.1, by rw [mupd_ne _ _ (by omega), k17 393 (by omega)]; exact hy.1.1.1.2⟩, by rw [mupd_ne _ _ (by omega), k17 394 (by omega)]; exact hy.1.1.2⟩, by rw [mupd_ne _ _ (by omega), k17 395 (by omega)]; exact hy.1.2⟩, by rw [mupd_same]; exact hy.2⟩)
  generalize mupd t17.2 396 (8 * rb + m) t17.1 = M18 at f18 G18
  refine Ret.letM ?_
  have L18 := h.nx hP (f18.mono pPe_N)
  rw [L18.1, Int.toNat_natCast, L18.rw.1, hm, w32e (n := (m : Int) + 1) (by omega) (by omega)]
  refine Ret.t (by omega) (Ret.t (by omega) (Ret.letM (Ret.pure ⟨?_, (f18.mono (pPe_LM ⟨o.1, h8⟩)).upd (Or.inr (Or.inl ⟨by omega, by omega, rfl⟩))⟩)))
  have G18 : GB2 W n (perX W n j T NP) _ _ M18 := G18
  cases hx : perX W n j T NP with
  | inl e => rw [hx] at G18; exact ⟨fM_upd G18.1 (by omega), G18.2⟩
  | inr y =>
    rw [hx] at G18
    obtain ⟨r1, ⟨⟨⟨r2, r3⟩, r4⟩, r5⟩, r6⟩ := G18
    exact ⟨r1.upd (by omega) (by omega), LM_person hP L18 hm r2 r3 r4 r5 r6⟩
