/-! THE SEARCH OF THE FIRST SIDE -/
theorem fold_le (good : IT → Bool) (age : IT → Int) : ∀ (L : List IT) (s : NS), (L.foldl (nst good age) s).1 ≤ s.1 + L.length := by
  intro L
  induction L with
  | nil => intro s; exact Nat.le_refl _
  | cons x L ih =>
    intro s
    have h := ih (nst good age s x)
    have h2 : (nst good age s x).1 ≤ s.1 + 1 := by unfold nst; split <;> simp
    rw [List.foldl_cons, List.length_cons]
    omega
theorem fold_bad {good : IT → Bool} {age : IT → Int} : ∀ {L : List IT} (s : NS), (∀ x, x ∈ L → good x = false) → L.foldl (nst good age) s = s := by
  intro L
  induction L with
  | nil => intro s _; rfl
  | cons x L ih =>
    intro s h
    rw [List.foldl_cons]
    have : nst good age s x = s := by unfold nst; rw [h x List.mem_cons_self]; rfl
    rw [this]
    exact ih s (fun y hy => h y (List.mem_cons_of_mem _ hy))
theorem flen {α β : Type} {g : α → List β} {c : Nat} (h : ∀ x, (g x).length ≤ c) : ∀ l : List α, (l.flatMap g).length ≤ l.length * c := by
  intro l
  induction l with
  | nil => simp
  | cons a l ih =>
    rw [List.flatMap_cons, List.length_append, List.length_cons, Nat.succ_mul]
    have := h a
    omega
theorem itPs_len (T : TW) (f y f2 : Nat) : (itPs T f y f2).length = 9 := by unfold itPs; simp
theorem itB2_le (T : TW) {nf : Nat} (h : nf ≤ 20) (f y : Nat) : (itB2 T nf f y).length ≤ 180 := by
  unfold itB2
  have := flen (g := fun d => itPs T f y (f + 1 + d)) (c := 9) (fun d => by rw [itPs_len]; exact Nat.le_refl _) (List.range (nf - (f + 1)))
  rw [List.length_range] at this
  omega
theorem itBY_le (T : TW) {nf : Nat} (h : nf ≤ 20) (f : Nat) : (itBY T nf f).length ≤ 1629 := by
  unfold itBY
  have := flen (g := fun y => itSng T f y :: itB2 T nf f y) (c := 181) (fun y => by rw [List.length_cons]; have := itB2_le T h f y; omega) (List.range 9)
  rw [List.length_range] at this
  omega
def SF (T : TW) (G : GS) (w : Int) (P : List IT) : NS := P.foldl (nst (goodG T G) (ageG T w)) ns0
theorem SF_app (T : TW) (G : GS) (w : Int) (P : List IT) (x : IT) : SF T G w (P ++ [x]) = nst (goodG T G) (ageG T w) (SF T G w P) x := by
  unfold SF; rw [List.foldl_append]; rfl
theorem SF_le (T : TW) (G : GS) (w : Int) (P : List IT) : (SF T G w P).1 ≤ P.length := by
  have := fold_le (goodG T G) (ageG T w) P ns0
  unfold SF
  have e : ns0.1 = 0 := rfl
  omega
def pSr (k _ : Nat) : Prop := 355 ≤ k ∧ k ≤ 359
theorem WC.sr {T : TW} {R : Nat → RL} {v : Nat → Int} {M M' : KM} (h : WC T R v M) (hf : Fp pSr M M') : WC T R v M' := h.congr fun k j hk => hf k j (by unfold pN at hk; unfold pSr; omega)
theorem pGr_sr {M M' : KM} (h : Fp pGr M M') : Fp pSr M M' := h.mono fun k j hk => by unfold pGr at hk; unfold pSr; omega
theorem pNt_sr {M M' : KM} (h : Fp pNt M M') : Fp pSr M M' := h.mono fun k j hk => by unfold pNt at hk; unfold pSr; omega
theorem NX.g {s : NS} {M M' : KM} (h : NX s M) (hf : Fp pGr M M') : NX s M' := h.congr fun k j hk => hf k j (by unfold pNt at hk; unfold pGr; omega)
theorem GX.n {T : TW} {G : GS} {g : Nat → Int} {M M' : KM} (h : GX T G g M) (hf : Fp pNt M M') : GX T G g M' := h.congr fun k j hk => hf k j (by unfold pNt; omega)
def p57 (k _ : Nat) : Prop := k = 357
theorem WG_sh {T : TW} {R : Nat → RL} {v : Nat → Int} (ho : WO T R v) (G : GS) (g : Nat → Int) {f : Nat} (hf : (f : Int) < T 0 1) (d : Int) : WG T G g ≤ WG T G (shG T g f d) + 2 := by
  have o := ho.1.1
  obtain ⟨a1, a2, a3, a4, a5, -⟩ := ho.1.2.2.1 f hf
  have hne : (T 5 f).toNat ≠ (T 6 f).toNat := by omega
  have h1 := cnt_one (h := wrG G g) (h' := wrG G (vset g (T 5 f).toNat (g (T 5 f).toNat + -d))) (q := (T 5 f).toNat) (fun q hq => by unfold wrG; rw [vset_ne _ _ hq]) (T 0 0).toNat
  have h2 := cnt_one (h := wrG G (vset g (T 5 f).toNat (g (T 5 f).toNat + -d))) (h' := wrG G (shG T g f d)) (q := (T 6 f).toNat) (fun q hq => by rw [← shG_vset hne]; unfold wrG; rw [vset_ne _ _ hq]) (T 0 0).toNat
  have k : ∀ (c : Prop) (dc : Decidable c), (if c then 1 else 0 : Nat) ≤ 1 := fun c dc => by split <;> omega
  have k1 := k ((T 5 f).toNat < (T 0 0).toNat ∧ wrG G g (T 5 f).toNat = true) inferInstance
  have k2 := k ((T 6 f).toNat < (T 0 0).toNat ∧ wrG G (vset g (T 5 f).toNat (g (T 5 f).toNat + -d)) (T 6 f).toNat = true) inferInstance
  unfold WG
  omega
theorem bd_told {T : TW} {R : Nat → RL} (h : okT T R) : bdG T (T 1) 150 := fun p hp => by
  have := h.2.1 p hp
  have := h.1
  omega
theorem X_addSecond {T : TW} {R : Nat → RL} {v : Nat → Int} {G : GS} {M : KM} {w : Int} {P : List IT} {f y : Nat} (hw : WC T R v M) (ho : WO T R v) (hcl : G.2.2 = false) (hww : w = -1 ∨ (0 ≤ w ∧ w < T 0 0)) (hf : (f : Int) < T 0 1) (hy : y < 9) (hG : GX T G (shG T (T 1) f ((y : Int) + 1)) M) (hN : NX (SF T G w P) M) (h0 : M 357 0 = (f : Int)) (h1 : M 357 1 = (y : Int) + 1) (hP : P.length ≤ 100000) : Ret (f_Gifts_addSecond ((f : Int) + 1) w M) (fun M' => GX T G (shG T (T 1) f ((y : Int) + 1)) M' ∧ NX (SF T G w (P ++ itB2 T (T 0 1).toNat f y)) M' ∧ Fp pSr M M') := by
  have o := ho.1.1
  have hne := fun (q : Nat) (hq : (q : Int) < T 0 1) => (show (T 5 q).toNat ≠ (T 6 q).toNat by have := ho.1.2.2.1 q hq; omega)
  unfold f_Gifts_addSecond
  by_cases hz : WG T G (shG T (T 1) f ((y : Int) + 1)) ≤ 2
  · refine Ret.t (by rw [hG.2.1]; omega) ?_
    generalize hg0 : shG T (T 1) f ((y : Int) + 1) = g0 at hG ⊢
    have hb0 : bdG T g0 159 := by rw [← hg0]; exact bdG_sh (bd_told ho.1) f (by omega)
    have hb : ∀ f2 (z : Int), -9 ≤ z ∧ z ≤ 9 → bdG T (shG T g0 f2 z) 1000 := fun f2 z hz p hp => by
      have := bdG_sh hb0 f2 hz p hp; omega
    refine Ret.bind (R := fun M' => GX T G g0 M' ∧ NX (SF T G w (P ++ itB2 T (T 0 1).toNat f y)) M' ∧ Fp pSr M M') (Ret.loop ((T 0 1).toNat - (f + 1)) (fun d s => s.1 = (f : Int) + 1 + d ∧ GX T G g0 s.2 ∧ NX (SF T G w (P ++ (List.range d).flatMap fun d => itPs T f y (f + 1 + d))) s.2 ∧ (s.2 357 0 = (f : Int) ∧ s.2 357 1 = (y : Int) + 1) ∧ Fp pSr M s.2) ⟨by simp, hG, by simpa using hN, ⟨h0, h1⟩, Fp.rf⟩ ?_ ?_) (fun q hq => Ret.pure hq)
    · rintro d s hd ⟨k1, k2, k3, k4, k5⟩
      have w1 := hw.sr k5
      have hd1 : ((f + 1 + d : Nat) : Int) < T 0 1 := by omega
      have ef : s.1 = ((f + 1 + d : Nat) : Int) := by omega
      rw [ef]
      refine Ret.t (by rw [w1.friends]; omega) ?_
      have hlP : (P ++ (List.range d).flatMap fun d => itPs T f y (f + 1 + d)).length ≤ 100180 := by
        have := flen (g := fun d => itPs T f y (f + 1 + d)) (c := 9) (fun d => by rw [itPs_len]; exact Nat.le_refl _) (List.range d)
        rw [List.length_range] at this
        rw [List.length_append]; omega
      generalize hP1 : (P ++ (List.range d).flatMap fun d => itPs T f y (f + 1 + d)) = P1 at k3 hlP
      refine Ret.bind (R := fun M' => GX T G (shG T g0 (f + 1 + d) 9) M' ∧ NX (SF T G w (P1 ++ itPs T f y (f + 1 + d))) M' ∧ (M' 357 0 = (f : Int) ∧ M' 357 1 = (y : Int) + 1) ∧ Fp pSr M M') (Ret.loop 9 (fun z s => s.1 = (z : Int) + 1 ∧ GX T G (shG T g0 (f + 1 + d) z) s.2 ∧ NX (SF T G w (P1 ++ (List.range z).map (itPair T f y (f + 1 + d)))) s.2 ∧ (s.2 357 0 = (f : Int) ∧ s.2 357 1 = (y : Int) + 1) ∧ Fp pSr M s.2) ⟨rfl, by simpa [shG_0] using k2, by simpa using k3, k4, k5⟩ ?_ ?_) ?_
      · rintro z s2 hz9 ⟨j1, j2, j3, j4, j5⟩
        have w2 := hw.sr j5
        rw [j1]
        refine Ret.t (by omega) (Ret.bind (X_shift w2 ho j2 (hb _ _ (by omega)) hd1 (d := 1) (by omega)) ?_)
        rintro M3 ⟨y1, y2⟩
        rw [shG_add _ _ _ _ _ (hne _ hd1)] at y1
        refine Ret.letM (Ret.letM ?_)
        rw [putM_in _ _ _ _ (by omega) (by omega), putM_in _ _ _ _ (by omega) (by omega)]
        generalize hM5 : mupd (mupd M3 357 (2 : Int).toNat ((f + 1 + d : Nat) : Int)) 357 (3 : Int).toNat ((z : Int) + 1) = M5
        have g5 : ∀ k, k ≠ 357 → M5 k = M3 k := fun k hk => by rw [← hM5]; funext j; rw [mupd_ne _ _ hk, mupd_ne _ _ hk]
        have r2 : M5 357 2 = ((f + 1 + d : Nat) : Int) := by rw [← hM5, mupd_ne2 _ _ (by decide)]; exact mupd_same _ _ _ _
        have r3 : M5 357 3 = (z : Int) + 1 := by rw [← hM5]; exact mupd_same _ _ _ _
        have r0 : M5 357 0 = (f : Int) := by rw [← hM5, mupd_ne2 _ _ (by decide), mupd_ne2 _ _ (by decide), y2 357 0 (by unfold pGr; omega)]; exact j4.1
        have r1 : M5 357 1 = (y : Int) + 1 := by rw [← hM5, mupd_ne2 _ _ (by decide), mupd_ne2 _ _ (by decide), y2 357 1 (by unfold pGr; omega)]; exact j4.2
        have f5 : Fp pSr M M5 := (j5.tr (pGr_sr y2)).tr (fun k j hk => by rw [g5 k (fun q => hk (by unfold pSr; omega))])
        have G5 : GX T G (shG T g0 (f + 1 + d) ((z : Int) + 1)) M5 := y1.congr (fun k j hk => by rw [g5 k (by omega)])
        have N5 := (j3.g y2).congr (M' := M5) (fun k j hk => by rw [g5 k (by unfold pNt at hk; omega)])
        have hle := SF_le T G w (P1 ++ (List.range z).map (itPair T f y (f + 1 + d)))
        rw [List.length_append, List.length_map, List.length_range] at hle
        refine Ret.bind (X_note (l := [(f : Int), (y : Int) + 1, ((f + 1 + d : Nat) : Int), (z : Int) + 1]) o.2.1 hcl G5 N5 hww (by simp) (fun i x hx => ?_) (by omega)) ?_
        · match i, hx with
          | 0, hx => cases hx; exact r0
          | 1, hx => cases hx; exact r1
          | 2, hx => cases hx; exact r2
          | 3, hx => cases hx; exact r3
          | n + 4, hx => cases hx
        · rintro M6 ⟨y3, y4⟩
          refine Ret.pure ⟨?_, ?_, ?_, ?_, f5.tr (pNt_sr y4)⟩
          · dsimp only; rw [w32e (by omega) (by omega)]; omega
          · have := G5.n y4
            simpa using this
          · rw [List.range_succ, List.map_append, ← List.append_assoc]
            show NX (SF T G w ((P1 ++ (List.range z).map (itPair T f y (f + 1 + d))) ++ [itPair T f y (f + 1 + d) z])) M6
            have e : itPair T f y (f + 1 + d) z = ([(f : Int), (y : Int) + 1, ((f + 1 + d : Nat) : Int), (z : Int) + 1], shG T g0 (f + 1 + d) ((z : Int) + 1)) := by unfold itPair; rw [hg0]
            rw [SF_app, e]
            exact y3
          · dsimp only
            rw [y4 357 0 (by unfold pNt; omega), y4 357 1 (by unfold pNt; omega)]
            exact ⟨r0, r1⟩
      · rintro s2 ⟨j1, j2, j3, j4, j5⟩
        refine Ret.f (by rw [j1]; omega) (Ret.pure ⟨j2, ?_, j4, j5⟩)
        exact j3
      · rintro M3 ⟨y1, y2, y3, y4⟩
        refine Ret.bind (X_shift (hw.sr y4) ho y1 (hb _ _ (by omega)) hd1 (d := -9) (by omega)) ?_
        rintro M4 ⟨y5, y6⟩
        rw [shG_add _ _ _ _ _ (hne _ hd1), show (9 : Int) + -9 = 0 by omega, shG_0] at y5
        refine Ret.pure ⟨?_, y5, ?_, ?_, y4.tr (pGr_sr y6)⟩
        · dsimp only; rw [w32e (by omega) (by omega)]; omega
        · rw [List.range_succ, List.flatMap_append, List.flatMap_singleton, ← List.append_assoc, hP1]
          exact y2.g y6
        · dsimp only
          rw [y6 357 0 (by unfold pGr; omega), y6 357 1 (by unfold pGr; omega)]
          exact y3
    · rintro s ⟨k1, k2, k3, k4, k5⟩
      have w1 := hw.sr k5
      exact Ret.f (by rw [k1, w1.friends]; omega) (Ret.pure ⟨k2, k3, k5⟩)
  · refine Ret.f (by rw [hG.2.1]; omega) (Ret.pure ⟨hG, ?_, Fp.rf⟩)
    have e : SF T G w (P ++ itB2 T (T 0 1).toNat f y) = SF T G w P := by
      unfold SF
      rw [List.foldl_append]
      refine fold_bad _ (fun x hx => ?_)
      unfold itB2 itPs at hx
      rw [List.mem_flatMap] at hx
      obtain ⟨d, hd, hx⟩ := hx
      rw [List.mem_map] at hx
      obtain ⟨z, -, rfl⟩ := hx
      have hd := List.mem_range.mp hd
      have h2 := WG_sh ho G (shG T (T 1) f ((y : Int) + 1)) (f := f + 1 + d) (by omega) ((z : Int) + 1)
      unfold goodG itPair
      rw [decide_eq_false (by dsimp only; omega), Bool.and_false]
    rw [e]; exact hN
theorem X_gbegin {T : TW} {R : Nat → RL} {v : Nat → Int} {G : GS} {M : KM} {w : Int} (hw : WC T R v M) (ho : WO T R v) (hG : GAq G M) (hR : ∀ p, G.1 p = true → (p : Int) < T 0 0) : Ret (f_Gifts_begin M) (fun M' => GX T G (T 1) M' ∧ NX (SF T G w []) M' ∧ M' 349 8 = (if G.2.2 = true then 1 else 0) ∧ Fp pSr M M') := by
  have o := ho.1.1
  obtain ⟨h1, h2, h3⟩ := hG
  unfold f_Gifts_begin
  refine Ret.letM (Ret.letM (Ret.letM (Ret.t (by omega) (Ret.letM (Ret.letM (Ret.letM (Ret.letM (Ret.letM ?_))))))))
  generalize hM4 : mupd (mupd (mupd (mupd M 355 0 0) 355 1 0) 355 3 0) 355 4 0 = M4
  have g4 : ∀ k j, k ≠ 355 ∨ 4 < j → M4 k j = M k j := fun k j hk => by rw [← hM4, mupd_at, if_neg (by omega), mupd_at, if_neg (by omega), mupd_at, if_neg (by omega), mupd_at, if_neg (by omega)]
  have n0 : M4 355 0 = 0 := by rw [← hM4, mupd_ne2 _ _ (by omega), mupd_ne2 _ _ (by omega), mupd_ne2 _ _ (by omega), mupd_same]
  have n1 : M4 355 1 = 0 := by rw [← hM4, mupd_ne2 _ _ (by omega), mupd_ne2 _ _ (by omega), mupd_same]
  have n3 : M4 355 3 = 0 := by rw [← hM4, mupd_ne2 _ _ (by omega), mupd_same]
  have n4 : M4 355 4 = 0 := by rw [← hM4, mupd_same]
  rw [g4 349 6 (by omega)]
  generalize hM8 : mupd (mcp (mcp (mupd M4 355 8 (M 349 6)) 354 359 (min 8 8)) 3 358 (min 8 8)) 355 9 0 = M8
  have g8 : ∀ k j, ¬ (k = 358 ∨ k = 359 ∨ (k = 355 ∧ (j = 8 ∨ j = 9))) → M8 k j = M4 k j := fun k j hk => by rw [← hM8, mupd_at, if_neg (by omega), mcp_at, if_neg (by omega), mcp_at, if_neg (by omega), mupd_at, if_neg (by omega)]
  have a8 : M8 355 8 = M 349 6 := by rw [← hM8, mupd_ne2 _ _ (by omega), mcp_at, if_neg (by omega), mcp_at, if_neg (by omega), mupd_same]
  have a9 : M8 355 9 = 0 := by rw [← hM8, mupd_same]
  have a358 : ∀ p : Nat, (p : Int) < T 0 0 → M8 358 p = T 1 p := fun p hp => by
    rw [← hM8, mupd_ne _ _ (by omega), mcp_at, if_pos ⟨rfl, by omega⟩, mcp_at, if_neg (by omega), mupd_ne _ _ (by omega), g4 3 p (by omega)]
    exact (hw.1.2.1 p hp).1
  have a359 : ∀ p, p < 8 → M8 359 p = G.2.1 p := fun p hp => by
    rw [← hM8, mupd_ne _ _ (by omega), mcp_at, if_neg (by omega), mcp_at, if_pos ⟨rfl, by omega⟩, mupd_ne _ _ (by omega), g4 354 p (by omega)]
    exact h2 p hp
  have f8 : Fp pSr M M8 := fun k j hk => by rw [g8 k j (fun q => hk (by unfold pSr; omega)), g4 k j (by unfold pSr at hk; omega)]
  refine Ret.bind (R := fun M' => GX T G (T 1) M' ∧ NX (SF T G w []) M' ∧ M' 349 8 = (if G.2.2 = true then 1 else 0) ∧ Fp pSr M M') (Ret.loop (T 0 0).toNat (fun i s => s.1 = (i : Int) ∧ s.2 355 9 = (cntN (wrG G (T 1)) i : Int) ∧ ∀ k j, ¬ (k = 355 ∧ j = 9) → s.2 k j = M8 k j) ⟨rfl, by rw [cntN_0]; exact a9, fun k j _ => rfl⟩ ?_ ?_) (fun q hq => Ret.pure hq)
  · rintro i s hi ⟨k1, k2, k3⟩
    have hi' : (i : Int) < T 0 0 := by omega
    have hl := cntN_le (wrG G (T 1)) i
    rw [k1]
    refine Ret.t (by rw [k3 2 0 (by omega), f8 2 0 (by unfold pSr; omega), hw.n]; exact hi') ?_
    rw [X_isWrong (g := T 1) o.2.1 (by rw [k3 355 8 (by omega), a8]; exact h1) (fun p hp => by rw [k3 359 p (by omega)]; exact a359 p hp) hi' (by rw [k3 358 i (by omega)]; exact a358 i hi'), ob_some]
    have e2 : ∀ b : Bool, (if (if b = true then (1 : Int) else 0) = 0 then some (0 : Int) else some 1) = some (if b = true then 1 else 0) := fun b => by cases b <;> rfl
    rw [e2, ob_some, k2, w32e (n := (i : Int) + 1) (by omega) (by omega)]
    have e3 : w32 ((cntN (wrG G (T 1)) i : Int) + if wrG G (T 1) i = true then 1 else 0) = (cntN (wrG G (T 1)) (i + 1) : Int) := by
      rw [cntN_s]
      by_cases hb : wrG G (T 1) i = true
      · rw [if_pos hb, if_pos hb, w32e (by omega) (by omega)]; omega
      · rw [if_neg hb, if_neg hb, w32e (by omega) (by omega)]; omega
    rw [e3]
    refine Ret.letM (Ret.pure ⟨by dsimp only; omega, by dsimp only; exact mupd_same _ _ _ _, fun k j hk => ?_⟩)
    dsimp only
    rw [mupd_at, if_neg (by omega)]; exact k3 k j hk
  · rintro s ⟨k1, k2, k3⟩
    refine Ret.f (by rw [k1, k3 2 0 (by omega), f8 2 0 (by unfold pSr; omega), hw.n]; omega) (Ret.pure ⟨⟨fun p hp => ?_, k2, ?_, fun p hp => ?_⟩, ⟨?_, ?_, fun i x hx => ?_, ?_, ?_, fun _ => rfl⟩, ?_, fun k j hk => ?_⟩)
    · rw [k3 358 p (by omega)]; exact a358 p hp
    · rw [k3 355 8 (by omega), a8]; exact h1
    · rw [k3 359 p (by omega)]; exact a359 p hp
    · rw [k3 355 0 (by omega), g8 355 0 (by omega), n0]; rfl
    · rw [k3 355 1 (by omega), g8 355 1 (by omega), n1]; rfl
    · cases hx
    · rw [k3 355 3 (by omega), g8 355 3 (by omega), n3]; rfl
    · rw [k3 355 4 (by omega), g8 355 4 (by omega), n4]; rfl
    · rw [k3 349 8 (by omega), f8 349 8 (by unfold pSr; omega)]; exact h3
    · rw [k3 k j (fun q => hk (by unfold pSr; omega))]; exact f8 k j hk
theorem X_search {T : TW} {R : Nat → RL} {v : Nat → Int} {G : GS} {M : KM} {w : Int} (hw : WC T R v M) (ho : WO T R v) (hG : GAq G M) (hR : ∀ p, G.1 p = true → (p : Int) < T 0 0) (hww : w = -1 ∨ (0 ≤ w ∧ w < T 0 0)) : Ret (f_Gifts_search w M) (fun M' => NX (SF T G w (itC T (T 0 1).toNat)) M' ∧ Fp pSr M M') := by
  have o := ho.1.1
  have hne := fun (q : Nat) (hq : (q : Int) < T 0 1) => (show (T 5 q).toNat ≠ (T 6 q).toNat by have := ho.1.2.2.1 q hq; omega)
  have hb0 := bd_told ho.1
  have hb : ∀ f2 (z : Int), -9 ≤ z ∧ z ≤ 9 → bdG T (shG T (T 1) f2 z) 1000 := fun f2 z hz p hp => by
    have := bdG_sh hb0 f2 hz p hp; omega
  unfold f_Gifts_search
  refine Ret.bind (X_gbegin (w := w) hw ho hG hR) ?_
  rintro M1 ⟨G1, N1, c1, f1⟩
  cases hcl : G.2.2 with
  | true =>
    refine Ret.f (by rw [c1, hcl]; simp) (Ret.pure ⟨?_, f1⟩)
    have e : SF T G w (itC T (T 0 1).toNat) = SF T G w [] := fold_bad _ (fun x _ => by unfold goodG; rw [hcl]; rfl)
    rw [e]; exact N1
  | false =>
    refine Ret.t (by rw [c1, hcl]; simp) ?_
    refine Ret.bind (X_note (l := []) o.2.1 hcl G1 N1 hww (by simp) (fun i x hx => by cases hx) (by have := SF_le T G w []; simp at this; omega)) ?_
    rintro M2 ⟨y3, y4⟩
    have N2 : NX (SF T G w [itNone T]) M2 := y3
    have G2 := G1.n y4
    have f2 := f1.tr (pNt_sr y4)
    refine Ret.bind (R := fun M' => NX (SF T G w (itC T (T 0 1).toNat)) M' ∧ Fp pSr M M') (Ret.loop (T 0 1).toNat (fun f s => s.1 = (f : Int) ∧ GX T G (T 1) s.2 ∧ NX (SF T G w ([itNone T] ++ (List.range f).flatMap (itBY T (T 0 1).toNat))) s.2 ∧ Fp pSr M s.2) ⟨rfl, G2, N2, f2⟩ ?_ ?_) (fun q hq => Ret.pure hq)
    · rintro f s hf ⟨k1, k2, k3, k5⟩
      have w1 := hw.sr k5
      have hf1 : (f : Int) < T 0 1 := by omega
      rw [k1]
      refine Ret.t (by rw [w1.friends]; exact hf1) ?_
      have hlP : ([itNone T] ++ (List.range f).flatMap (itBY T (T 0 1).toNat)).length ≤ 40000 := by
        have := flen (g := itBY T (T 0 1).toNat) (c := 1629) (itBY_le T (by omega)) (List.range f)
        rw [List.length_range] at this
        rw [List.length_append, List.length_singleton]; omega
      generalize hP1 : ([itNone T] ++ (List.range f).flatMap (itBY T (T 0 1).toNat)) = P1 at k3 hlP
      refine Ret.bind (R := fun M' => GX T G (shG T (T 1) f 9) M' ∧ NX (SF T G w (P1 ++ itBY T (T 0 1).toNat f)) M' ∧ Fp pSr M M') (Ret.loop 9 (fun y s => s.1 = (y : Int) + 1 ∧ GX T G (shG T (T 1) f y) s.2 ∧ NX (SF T G w (P1 ++ (List.range y).flatMap fun y => itSng T f y :: itB2 T (T 0 1).toNat f y)) s.2 ∧ Fp pSr M s.2) ⟨rfl, by simpa [shG_0] using k2, by simpa using k3, k5⟩ ?_ ?_) ?_
      · rintro y s2 hy9 ⟨j1, j2, j3, j5⟩
        have w2 := hw.sr j5
        rw [j1]
        refine Ret.t (by omega) (Ret.bind (X_shift w2 ho j2 (hb _ _ (by omega)) hf1 (d := 1) (by omega)) ?_)
        rintro M3 ⟨y1, y2⟩
        rw [shG_add _ _ _ _ _ (hne _ hf1)] at y1
        refine Ret.letM (Ret.letM ?_)
        rw [putM_in _ _ _ _ (by omega) (by omega), putM_in _ _ _ _ (by omega) (by omega)]
        generalize hM5 : mupd (mupd M3 357 (0 : Int).toNat (f : Int)) 357 (1 : Int).toNat ((y : Int) + 1) = M5
        have g5 : ∀ k, k ≠ 357 → M5 k = M3 k := fun k hk => by rw [← hM5]; funext j; rw [mupd_ne _ _ hk, mupd_ne _ _ hk]
        have r0 : M5 357 0 = (f : Int) := by rw [← hM5, mupd_ne2 _ _ (by decide)]; exact mupd_same _ _ _ _
        have r1 : M5 357 1 = (y : Int) + 1 := by rw [← hM5]; exact mupd_same _ _ _ _
        have f5 : Fp pSr M M5 := (j5.tr (pGr_sr y2)).tr (fun k j hk => by rw [g5 k (fun q => hk (by unfold pSr; omega))])
        have G5 : GX T G (shG T (T 1) f ((y : Int) + 1)) M5 := y1.congr (fun k j hk => by rw [g5 k (by omega)])
        have N5 := (j3.g y2).congr (M' := M5) (fun k j hk => by rw [g5 k (by unfold pNt at hk; omega)])
        have hlq := flen (g := fun y => itSng T f y :: itB2 T (T 0 1).toNat f y) (c := 181) (fun y => by rw [List.length_cons]; have := itB2_le T (nf := (T 0 1).toNat) (by omega) f y; omega) (List.range y)
        rw [List.length_range] at hlq
        generalize hP2 : P1 ++ (List.range y).flatMap (fun y => itSng T f y :: itB2 T (T 0 1).toNat f y) = P2 at N5
        have hl2 : P2.length ≤ 50000 := by rw [← hP2, List.length_append]; omega
        have hle := SF_le T G w P2
        refine Ret.bind (X_note (l := [(f : Int), (y : Int) + 1]) o.2.1 hcl G5 N5 hww (by simp) (fun i x hx => ?_) (by omega)) ?_
        · match i, hx with
          | 0, hx => cases hx; exact r0
          | 1, hx => cases hx; exact r1
          | n + 2, hx => cases hx
        · rintro M6 ⟨y3, y4⟩
          have N6 : NX (SF T G w (P2 ++ [itSng T f y])) M6 := by rw [SF_app]; exact y3
          have f6 := f5.tr (pNt_sr y4)
          have w6 := hw.sr f6
          rw [w32e (n := (f : Int) + 1) (by omega) (by omega)]
          refine Ret.bind (X_addSecond w6 ho hcl hww hf1 hy9 (G5.n y4) N6 (by rw [y4 357 0 (by unfold pNt; omega)]; exact r0) (by rw [y4 357 1 (by unfold pNt; omega)]; exact r1) (by rw [List.length_append, List.length_singleton]; omega)) ?_
          rintro M7 ⟨z1, z2, z3⟩
          refine Ret.pure ⟨?_, ?_, ?_, f6.tr z3⟩
          · dsimp only; rw [w32e (by omega) (by omega)]; omega
          · simpa using z1
          · rw [List.range_succ, List.flatMap_append, List.flatMap_singleton, ← List.append_assoc, hP2, ← List.singleton_append, ← List.append_assoc]
            exact z2
      · rintro s2 ⟨j1, j2, j3, j5⟩
        refine Ret.f (by rw [j1]; omega) (Ret.pure ⟨j2, ?_, j5⟩)
        exact j3
      · rintro M3 ⟨y1, y2, y4⟩
        refine Ret.bind (X_shift (hw.sr y4) ho y1 (hb _ _ (by omega)) hf1 (d := -9) (by omega)) ?_
        rintro M4 ⟨y5, y6⟩
        rw [shG_add _ _ _ _ _ (hne _ hf1), show (9 : Int) + -9 = 0 by omega, shG_0] at y5
        refine Ret.pure ⟨?_, y5, ?_, y4.tr (pGr_sr y6)⟩
        · dsimp only; rw [w32e (by omega) (by omega)]; omega
        · rw [List.range_succ, List.flatMap_append, List.flatMap_singleton, ← List.append_assoc, hP1]
          exact y2.g y6
    · rintro s ⟨k1, k2, k3, k5⟩
      have w1 := hw.sr k5
      exact Ret.f (by rw [k1, w1.friends]; omega) (Ret.pure ⟨k3, k5⟩)
