/-! EXPLAINED, SURE, FORGED: the second side -/
def GBq (T : TW) (cc g : Nat → Int) (M : KM) : Prop := ∀ p : Nat, p < 8 → M 430 p = if (p : Int) < T 0 0 then g p else cc p
theorem soF_GB {T F : TW} {c : Nat} {t : Int} {cc g : Nat → Int} {M : KM} (hok : okF T c t F) (hn : T 0 0 ≤ 8) (h : GBq T cc g M) (k : Int) : soF F k (M 430) c = soF F k g c := by
  refine soF_congr (fun i hi => ?_)
  have := hok.2 i hi
  rw [h _ (by omega), if_pos (by omega)]
theorem M_guessGift {b : Nat} {T : TW} {R : Nat → RL} {v : Nat → Int} {cc g : Nat → Int} {M : KM} (hw : WM b T R v M) (ho : WO T R v) (h : GBq T cc g M) (hb : bdG T g 1000) {f : Nat} (hf : (f : Int) < T 0 1) {d : Int} (hd : -9 ≤ d ∧ d ≤ 9) : Ret (f_M_guessGift f d M) (fun M' => GBq T cc (shG T g f d) M' ∧ ∀ c, c ≠ 430 → M' c = M c) := by
  have o := ho.1.1
  have hb1 := hw.1.1
  obtain ⟨a1, a2, a3, a4, a5, -⟩ := ho.1.2.2.1 f hf
  have e : ∀ M' : KM, M' 382 37 = (b : Int) → w32 (w32 (20 * M' 382 37) + (f : Int)) = ((20 * b + f : Nat) : Int) := by
    intro M' h
    rw [h, w32e (n := 20 * (b : Int)) (by omega) (by omega), w32e (by omega) (by omega)]
    omega
  have h5 : M 397 (20 * b + f) = T 5 f := (hw.2.1.2.2.1 f hf).1
  have h6 : M 398 (20 * b + f) = T 6 f := (hw.2.1.2.2.1 f hf).2.1
  have b5 := hb (T 5 f).toNat (by omega)
  have b6 := hb (T 6 f).toNat (by omega)
  unfold f_M_guessGift
  rw [e M hw.1.2, Int.toNat_natCast, h5]
  have hbf : 0 ≤ ((20 * b + f : Nat) : Int) ∧ ((20 * b + f : Nat) : Int) < 40 := by omega
  refine Ret.t hbf (Ret.t (by omega) (Ret.t (by omega) (Ret.letM ?_)))
  have hg5 : M 430 (T 5 f).toNat = g (T 5 f).toNat := by rw [h _ (by omega), if_pos (by omega)]
  rw [hg5, w32e (n := g (T 5 f).toNat - d) (by omega) (by omega)]
  have x37 : mupd M 430 (T 5 f).toNat (g (T 5 f).toNat - d) 382 37 = (b : Int) := by rw [mupd_ne _ _ (by omega)]; exact hw.1.2
  have x6 : mupd M 430 (T 5 f).toNat (g (T 5 f).toNat - d) 398 (20 * b + f) = T 6 f := by rw [mupd_ne _ _ (by omega)]; exact h6
  have x43 : mupd M 430 (T 5 f).toNat (g (T 5 f).toNat - d) 430 (T 6 f).toNat = g (T 6 f).toNat := by rw [mupd_ne2 _ _ (by omega), h _ (by omega), if_pos (by omega)]
  rw [e _ x37, Int.toNat_natCast, x6, x43, w32e (n := g (T 6 f).toNat + d) (by omega) (by omega)]
  refine Ret.t hbf (Ret.t (by omega) (Ret.t (by omega) (Ret.letM (Ret.pure ⟨fun p hp => ?_, fun c hc => by funext j; rw [mupd_ne _ _ hc, mupd_ne _ _ hc]⟩))))
  unfold shG
  by_cases h1 : p = (T 5 f).toNat
  · subst h1
    rw [mupd_ne2 _ _ (by omega), mupd_same, if_pos (by omega), if_pos rfl]
  · by_cases h2 : p = (T 6 f).toNat
    · subst h2
      rw [mupd_same, if_pos (by omega), if_neg h1, if_pos rfl]
    · rw [mupd_ne2 _ _ h2, mupd_ne2 _ _ h1, h p hp, if_neg h1, if_neg h2]
def MN (l0 : Int) (s : NS) (M : KM) : Prop := M 382 73 = (s.1 : Int) ∧ (M 382 74 = if s.2.2.2 = true then 1 else 0) ∧ (s.1 = 0 → M 382 63 = l0 ∧ s.2.2.2 = false ∧ s.2.1 = []) ∧ (s.1 ≠ 0 → M 382 63 = (s.2.1.length : Int) ∧ (∀ (i : Nat) (x : Int), s.2.1[i]? = some x → M 424 i = x) ∧ M 431 0 = s.2.2.1)
def pMN (k j : Nat) : Prop := k = 424 ∨ k = 431 ∨ (k = 382 ∧ (j = 63 ∨ j = 73 ∨ j = 74))
theorem MN.congr {l0 : Int} {s : NS} {M M' : KM} (h : MN l0 s M) (he : ∀ k j, pMN k j → M' k j = M k j) : MN l0 s M' := by
  unfold MN at h ⊢
  rw [he 382 73 (by unfold pMN; omega), he 382 74 (by unfold pMN; omega), he 382 63 (by unfold pMN; omega), he 431 0 (by unfold pMN; omega)]
  exact ⟨h.1, h.2.1, h.2.2.1, fun q => ⟨(h.2.2.2 q).1, fun i x hx => by rw [he 424 i (Or.inl rfl)]; exact (h.2.2.2 q).2.1 i x hx, (h.2.2.2 q).2.2⟩⟩
def ageM (T : TW) (cc : Nat → Int) (w : Int) (x : IT) : Int := if w < T 0 0 then x.2 w.toNat else cc w.toNat
theorem M_takes {T F : TW} {c : Nat} {t : Int} {cc g : Nat → Int} {M : KM} {s : NS} {l0 w k : Int} {l : List Int} {gn x0 x1 x2 x3 : Int} (hF : FM c t F M) (hok : okF T c t F) (hn : T 0 0 ≤ 8) (hG : GBq T cc g M) (hN : MN l0 s M) (hw : 0 ≤ w ∧ w < 8) (hl : l = [x0, x1, x2, x3].take l.length) (hg : w32 (2 * gn) = (l.length : Int)) (hl4 : l.length ≤ 4) (hs : s.1 < 1000000) :
    Ret (f_M_takes gn x0 x1 x2 x3 w k M) (fun M' => MN l0 (mst (goodF F k c) (ageM T cc w) s (l, g)) M' ∧ Fp pMN M M') := by
  unfold f_M_takes mst
  rw [M_areSo hF hok hn, ob_some, soF_GB hok hn hG]
  by_cases hgd : soF F k g c = true
  · have hg2 : goodF F k c (l, g) = true := hgd
    rw [if_pos hgd, if_pos hg2]
    refine Ret.f (by omega) ?_
    obtain ⟨n1, n2, n3, n4⟩ := hN
    have eage : M 430 w.toNat = ageM T cc w (l, g) := by
      unfold ageM
      rw [hG _ (by omega)]
      exact ifc (by omega)
    rw [n1]
    refine Ret.bind (R := fun M1 => (M1 382 63 = ((if s.1 = 0 then l else s.2.1).length : Int) ∧ (∀ (i : Nat) (x : Int), (if s.1 = 0 then l else s.2.1)[i]? = some x → M1 424 i = x) ∧ M1 431 0 = (if s.1 = 0 then ageM T cc w (l, g) else s.2.2.1)) ∧ (∀ k j, ¬ (k = 424 ∨ k = 431 ∨ (k = 382 ∧ j = 63)) → M1 k j = M k j)) ?_ ?_
    · by_cases h0 : s.1 = 0
      · refine Ret.t (by omega) (Ret.t (by omega) (Ret.letM (Ret.t (by omega) (Ret.letM (Ret.t (by omega) (Ret.letM (Ret.t (by omega) (Ret.letM (Ret.letM (Ret.t hw (Ret.t (by omega) (Ret.letM (Ret.pure ?_)))))))))))))
        rw [if_pos h0, if_pos h0, hg]
        refine ⟨⟨?_, fun i x hx => ?_, ?_⟩, fun k j hk => ?_⟩
        · rw [mupd_ne _ _ (by omega), mupd_same]
        · rw [mupd_ne _ _ (by omega), mupd_ne _ _ (by omega)]
          rw [hl] at hx
          have hi : i < 4 := by
            have := (List.getElem?_eq_some_iff.mp hx).1
            rw [List.length_take] at this
            simp at this
            omega
          have hx4 : [x0, x1, x2, x3][i]? = some x := by
            rw [List.getElem?_take] at hx
            split at hx
            · exact hx
            · cases hx
          match i, hx4 with
          | 0, h => cases h; rw [mupd_ne2 _ _ (by decide), mupd_ne2 _ _ (by decide), mupd_ne2 _ _ (by decide)]; exact mupd_same _ _ _ _
          | 1, h => cases h; rw [mupd_ne2 _ _ (by decide), mupd_ne2 _ _ (by decide)]; exact mupd_same _ _ _ _
          | 2, h => cases h; rw [mupd_ne2 _ _ (by decide)]; exact mupd_same _ _ _ _
          | 3, h => cases h; exact mupd_same _ _ _ _
          | n + 4, h => cases h
        · have e0 : (0 : Int).toNat = 0 := rfl
          rw [e0, mupd_same, mupd_ne _ _ (by omega), mupd_ne _ _ (by omega), mupd_ne _ _ (by omega), mupd_ne _ _ (by omega), mupd_ne _ _ (by omega)]
          exact eage
        · rw [mupd_at, if_neg (by omega), mupd_at, if_neg (by omega), mupd_at, if_neg (by omega), mupd_at, if_neg (by omega), mupd_at, if_neg (by omega), mupd_at, if_neg (by omega)]
      · refine Ret.f (by omega) (Ret.pure ?_)
        rw [if_neg h0, if_neg h0]
        exact ⟨n4 h0, fun k j _ => rfl⟩
    · rintro M1 ⟨⟨m1, m2, m3⟩, m4⟩
      have e74 : M1 382 74 = if s.2.2.2 = true then 1 else 0 := by rw [m4 382 74 (by omega)]; exact n2
      have e430 : M1 430 w.toNat = ageM T cc w (l, g) := by rw [m4 430 _ (by omega)]; exact eage
      have i0 : (0 : Int).toNat = 0 := rfl
      rw [e74, i0, m3, e430]
      refine Ret.bind (R := fun z => z = if (s.2.2.2 || decide (ageM T cc w (l, g) ≠ if s.1 = 0 then ageM T cc w (l, g) else s.2.2.1)) = true then 1 else 0) ?_ ?_
      · by_cases hu : s.2.2.2 = true
        · refine Ret.f (by rw [if_pos hu]; omega) (Ret.pure ?_)
          rw [hu]; rfl
        · refine Ret.t (by rw [if_neg hu]) (Ret.t (by omega) (Ret.t hw ?_))
          by_cases he : (if s.1 = 0 then ageM T cc w (l, g) else s.2.2.1) = ageM T cc w (l, g)
          · refine Ret.t he (Ret.pure ?_)
            rw [if_neg]
            simp only [Bool.not_eq_true] at hu
            rw [hu, he]; simp
          · refine Ret.f he (Ret.pure ?_)
            rw [if_pos]
            rw [Bool.or_eq_true, decide_eq_true_eq]
            exact Or.inr (fun q => he q.symm)
      · rintro z rfl
        refine Ret.t if01 (Ret.letM (Ret.letM (Ret.pure ?_)))
        have e73 : ∀ y, mupd M1 382 74 y 382 73 = (s.1 : Int) := fun y => by rw [mupd_ne2 _ _ (by omega), m4 382 73 (by omega)]; exact n1
        rw [e73, w32e (by omega) (by omega)]
        refine ⟨⟨?_, ?_, fun q => by dsimp only at q; omega, fun _ => ⟨?_, fun i x hx => ?_, ?_⟩⟩, fun k j hk => ?_⟩
        · dsimp only; rw [mupd_same]; omega
        · dsimp only; rw [mupd_ne2 _ _ (by omega), mupd_same]
        · dsimp only; rw [mupd_ne2 _ _ (by omega), mupd_ne2 _ _ (by omega)]; exact m1
        · dsimp only at hx; rw [mupd_ne _ _ (by omega), mupd_ne _ _ (by omega)]; exact m2 i x hx
        · dsimp only; rw [mupd_ne _ _ (by omega), mupd_ne _ _ (by omega)]; exact m3
        · unfold pMN at hk
          rw [mupd_at, if_neg (by omega), mupd_at, if_neg (by omega), m4 k j (by omega)]
  · have hg2 : ¬ goodF F k c (l, g) = true := hgd
    rw [if_neg hgd, if_neg hg2]
    exact Ret.t rfl (Ret.pure ⟨hN, Fp.rf⟩)
theorem mfold_le (good : IT → Bool) (age : IT → Int) : ∀ (L : List IT) (s : NS), (L.foldl (mst good age) s).1 ≤ s.1 + L.length := by
  intro L
  induction L with
  | nil => intro s; exact Nat.le_refl _
  | cons x L ih =>
    intro s
    have h := ih (mst good age s x)
    have h2 : (mst good age s x).1 ≤ s.1 + 1 := by unfold mst; split <;> simp
    rw [List.foldl_cons, List.length_cons]
    omega
def SG (F : TW) (k : Int) (c : Nat) (a : IT → Int) (P : List IT) : NS := P.foldl (mst (goodF F k c) a) ns0
theorem SG_app (F : TW) (k : Int) (c : Nat) (a : IT → Int) (P : List IT) (x : IT) : SG F k c a (P ++ [x]) = mst (goodF F k c) a (SG F k c a P) x := by
  unfold SG; rw [List.foldl_append]; rfl
theorem SG_le (F : TW) (k : Int) (c : Nat) (a : IT → Int) (P : List IT) : (SG F k c a P).1 ≤ P.length := by
  have := mfold_le (goodF F k c) a P ns0
  unfold SG
  have e : ns0.1 = 0 := rfl
  omega
/-- what the second side's search may change -/
def pMS (k j : Nat) : Prop := k = 430 ∨ pMN k j
theorem WM.ms {b : Nat} {T : TW} {R : Nat → RL} {v : Nat → Int} {M M' : KM} (h : WM b T R v M) (hf : Fp pMS M M') : WM b T R v M' := h.congr fun k j hk => hf k j (by unfold pR at hk; unfold pMS pMN; omega)
theorem FM.ms {c : Nat} {t : Int} {F : TW} {M M' : KM} (h : FM c t F M) (hf : Fp pMS M M') : FM c t F M' := h.congr fun k j hk => hf k j (by unfold pFM at hk; unfold pMS pMN; omega)
theorem fr430 {M M' : KM} (h : ∀ c, c ≠ 430 → M' c = M c) : Fp pMS M M' := fun k j hk => by rw [h k (fun q => hk (Or.inl q))]
theorem GBq.mn {T : TW} {cc g : Nat → Int} {M M' : KM} (h : GBq T cc g M) (hf : Fp pMN M M') : GBq T cc g M' := fun p hp => by rw [hf 430 p (by unfold pMN; omega)]; exact h p hp
theorem MN.g {l0 : Int} {s : NS} {M M' : KM} (h : MN l0 s M) (hf : ∀ c, c ≠ 430 → M' c = M c) : MN l0 s M' := h.congr fun k j hk => by rw [hf k (by unfold pMN at hk; omega)]
/-- one way tried: there, noted, and back -/
theorem M_try {b : Nat} {T F : TW} {R : Nat → RL} {v : Nat → Int} {c : Nat} {t : Int} {cc g : Nat → Int} {M : KM} {l0 w k : Int} {P : List IT} {l : List Int} {gn x0 x1 x2 x3 : Int} {f : Nat} {d : Int} {α : Type} {Q : α → Prop} {kk : KM → Option α} (hwm : WM b T R v M) (ho : WO T R v) (hF : FM c t F M) (hok : okF T c t F) (hG : GBq T cc g M) (hb : bdG T g 900) (hf : (f : Int) < T 0 1) (hd : 1 ≤ d ∧ d ≤ 9) (hN : MN l0 (SG F k c (ageM T cc w) P) M) (hw : 0 ≤ w ∧ w < 8) (hl : l = [x0, x1, x2, x3].take l.length) (hg : w32 (2 * gn) = (l.length : Int)) (hl4 : l.length ≤ 4) (hs : P.length < 1000000)
    (hk : ∀ M', GBq T cc g M' → MN l0 (SG F k c (ageM T cc w) (P ++ [(l, shG T g f d)])) M' → Fp pMS M M' → Ret (kk M') Q) : Ret (Option.bind (f_M_guessGift f d M) (fun q7 => Option.bind (f_M_takes gn x0 x1 x2 x3 w k q7) (fun q8 => Option.bind (f_M_guessGift f (w32 (-d)) q8) kk))) Q := by
  have o := ho.1.1
  have hne : (T 5 f).toNat ≠ (T 6 f).toNat := by have := ho.1.2.2.1 f hf; omega
  refine Ret.bind (M_guessGift hwm ho hG (fun p hp => by have := hb p hp; omega) hf (d := d) (by omega)) ?_
  rintro M1 ⟨y1, y2⟩
  have f1 := fr430 y2
  have hle := SG_le F k c (ageM T cc w) P
  refine Ret.bind (M_takes (k := k) (l := l) (hF.ms f1) hok o.2.1 y1 (hN.g y2) hw hl hg hl4 (by omega)) ?_
  rintro M2 ⟨y3, y4⟩
  rw [w32e (by omega) (by omega)]
  have f2 : Fp pMS M M2 := f1.tr (y4.mono fun _ _ => Or.inr)
  refine Ret.bind (M_guessGift (hwm.ms f2) ho (y1.mn y4) (fun p hp => by have := bdG_sh hb f (d := d) (by omega) p hp; omega) hf (d := -d) (by omega)) ?_
  rintro M3 ⟨y5, y6⟩
  rw [shG_add _ _ _ _ _ hne, show d + -d = 0 by omega, shG_0] at y5
  refine hk M3 y5 ?_ (f2.tr (fr430 y6))
  rw [SG_app]
  exact y3.g y6
theorem itS_len (T : TW) {nf : Nat} (h : nf ≤ 20) : (itS T nf).length ≤ 180 := by
  unfold itS
  have := flen (g := fun f => (List.range 9).map (itSng T f)) (c := 9) (fun f => by simp) (List.range nf)
  rw [List.length_range] at this
  omega
theorem M_explain {b : Nat} {T F : TW} {R : Nat → RL} {v : Nat → Int} {c : Nat} {t : Int} {M : KM} {w k : Int} (hwm : WM b T R v M) (ho : WO T R v) (hF : FM c t F M) (hok : okF T c t F) (hw : 0 ≤ w ∧ w < 8) : Ret (f_M_explain w k M) (fun M' => MN (M 382 63) (endM T (T 0 1).toNat (goodF F k c) (ageM T (fun p => M 393 (8 * b + p)) w)) M' ∧ Fp pMS M M') := by
  have o := ho.1.1
  have hb1 := hwm.1.1
  generalize hcc : (fun p => M 393 (8 * b + p)) = cc
  generalize hl0 : M 382 63 = l0
  unfold f_M_explain
  refine Ret.letM (Ret.t (by omega) (Ret.letM ?_))
  generalize hM2 : mupd (mupd M 382 73 0) 382 74 0 = M2
  have f2 : Fp pMS M M2 := by rw [← hM2]; exact (Fp.rf.upd (Or.inr (Or.inr (Or.inr ⟨rfl, by omega⟩)))).upd (Or.inr (Or.inr (Or.inr ⟨rfl, by omega⟩)))
  have w2 := hwm.ms f2
  have k73 : M2 382 73 = 0 := by rw [← hM2, mupd_ne2 _ _ (by omega), mupd_same]
  have k74 : M2 382 74 = 0 := by rw [← hM2, mupd_same]
  have k63 : M2 382 63 = l0 := by rw [← hM2, mupd_ne2 _ _ (by omega), mupd_ne2 _ _ (by omega)]; exact hl0
  refine Ret.bind (M_guessAsTold w2) ?_
  rintro M3 ⟨y1, y2⟩
  have f3 : Fp pMS M M3 := f2.tr (fr430 y2)
  have G3 : GBq T cc (T 1) M3 := fun p hp => by
    have e : M2 393 (8 * b + p) = M 393 (8 * b + p) := f2 393 _ (by unfold pMS pMN; omega)
    rw [y1 p hp, e]
    by_cases hq : (p : Int) < T 0 0
    · rw [if_pos hq]; exact (hwm.2.1.2.1 p hq).1
    · rw [if_neg hq, ← hcc]
  have N3 : MN l0 (SG F k c (ageM T cc w) []) M3 := ⟨by rw [y2 382 (by omega)]; exact k73, by rw [y2 382 (by omega), k74]; rfl, fun _ => ⟨by rw [y2 382 (by omega)]; exact k63, rfl, rfl⟩, fun q => absurd rfl q⟩
  refine Ret.bind (M_takes (k := k) (l := []) (hF.ms f3) hok o.2.1 G3 N3 hw rfl rfl (by simp) (by show (0 : Nat) < 1000000; omega)) ?_
  rintro M4 ⟨y3, y4⟩
  have N4 : MN l0 (SG F k c (ageM T cc w) [itNone T]) M4 := y3
  have G4 := G3.mn y4
  have f4 : Fp pMS M M4 := f3.tr (y4.mono fun _ _ => Or.inr)
  have hb0 := bd_told ho.1
  refine Ret.bind (R := fun M' => GBq T cc (T 1) M' ∧ MN l0 (SG F k c (ageM T cc w) ([itNone T] ++ itS T (T 0 1).toNat)) M' ∧ Fp pMS M M') (Ret.loop (T 0 1).toNat (fun f s => s.1 = (f : Int) ∧ GBq T cc (T 1) s.2 ∧ MN l0 (SG F k c (ageM T cc w) ([itNone T] ++ (List.range f).flatMap fun f => (List.range 9).map (itSng T f))) s.2 ∧ Fp pMS M s.2) ⟨rfl, G4, N4, f4⟩ ?_ ?_) ?_
  · rintro f s hf ⟨k1, k2, k3, k5⟩
    have w1 := hwm.ms k5
    have hf1 : (f : Int) < T 0 1 := by omega
    have e1 : s.2 386 b = T 0 1 := w1.2.1.1.2.1
    have hlP := flen (g := fun f => (List.range 9).map (itSng T f)) (c := 9) (fun f => by simp) (List.range f)
    rw [List.length_range] at hlP
    generalize hP1 : ([itNone T] ++ (List.range f).flatMap fun f => (List.range 9).map (itSng T f)) = P1 at k3
    have hl1 : P1.length ≤ 400 := by rw [← hP1, List.length_append, List.length_singleton]; omega
    rw [k1]
    refine Ret.t (by rw [w1.1.2]; omega) (Ret.t (by rw [w1.1.2, Int.toNat_natCast, e1]; exact hf1) ?_)
    refine Ret.bind (R := fun M' => GBq T cc (T 1) M' ∧ MN l0 (SG F k c (ageM T cc w) (P1 ++ (List.range 9).map (itSng T f))) M' ∧ Fp pMS M M') (Ret.loop 9 (fun y s => s.1 = (y : Int) + 1 ∧ GBq T cc (T 1) s.2 ∧ MN l0 (SG F k c (ageM T cc w) (P1 ++ (List.range y).map (itSng T f))) s.2 ∧ Fp pMS M s.2) ⟨rfl, k2, by simpa using k3, k5⟩ ?_ ?_) ?_
    · rintro y s2 hy9 ⟨j1, j2, j3, j5⟩
      rw [j1]
      refine Ret.t (by omega) (M_try (hwm.ms j5) ho (hF.ms j5) hok j2 (fun p hp => by have := hb0 p hp; omega) hf1 (by omega) j3 hw (l := [(f : Int), (y : Int) + 1]) rfl rfl (by simp) (by rw [List.length_append, List.length_map, List.length_range]; omega) ?_)
      intro M5 g5 n5 f5
      refine Ret.pure ⟨by dsimp only; rw [w32e (by omega) (by omega)]; omega, g5, ?_, j5.tr f5⟩
      rw [List.range_succ, List.map_append, ← List.append_assoc]
      exact n5
    · rintro s2 ⟨j1, j2, j3, j5⟩
      exact Ret.f (by rw [j1]; omega) (Ret.pure ⟨j2, j3, j5⟩)
    · rintro M5 ⟨g5, n5, f5⟩
      refine Ret.pure ⟨by dsimp only; rw [w32e (by omega) (by omega)]; omega, g5, ?_, f5⟩
      rw [List.range_succ (n := f), List.flatMap_append, List.flatMap_singleton, ← List.append_assoc, hP1]
      exact n5
  · rintro s ⟨k1, k2, k3, k5⟩
    have w1 := hwm.ms k5
    have e1 : s.2 386 b = T 0 1 := w1.2.1.1.2.1
    exact Ret.t (by rw [w1.1.2]; omega) (Ret.f (by rw [k1, w1.1.2, Int.toNat_natCast, e1]; omega) (Ret.pure ⟨k2, k3, k5⟩))
  · rintro M5 ⟨g5, n5, f5⟩
    have hlS := itS_len T (nf := (T 0 1).toNat) (by omega)
    generalize hP0 : [itNone T] ++ itS T (T 0 1).toNat = P0 at n5
    have hl0' : P0.length ≤ 200 := by rw [← hP0, List.length_append, List.length_singleton]; omega
    refine Ret.bind (R := fun M' => MN l0 (SG F k c (ageM T cc w) (P0 ++ itP T (T 0 1).toNat)) M' ∧ Fp pMS M M') (Ret.loop (T 0 1).toNat (fun f s => s.1 = (f : Int) ∧ GBq T cc (T 1) s.2 ∧ MN l0 (SG F k c (ageM T cc w) (P0 ++ (List.range f).flatMap fun f => (List.range 9).flatMap fun y => itB2 T (T 0 1).toNat f y)) s.2 ∧ Fp pMS M s.2) ⟨rfl, g5, by simpa using n5, f5⟩ ?_ ?_) ?_
    · rintro f s hf ⟨k1, k2, k3, k5⟩
      have w1 := hwm.ms k5
      have hf1 : (f : Int) < T 0 1 := by omega
      have e1 : s.2 386 b = T 0 1 := w1.2.1.1.2.1
      have hB9 : ∀ f, ((List.range 9).flatMap fun y => itB2 T (T 0 1).toNat f y).length ≤ 1620 := fun f => by
        have := flen (g := fun y => itB2 T (T 0 1).toNat f y) (c := 180) (fun y => itB2_le T (by omega) f y) (List.range 9)
        rw [List.length_range] at this
        omega
      have hlP := flen (g := fun f => (List.range 9).flatMap fun y => itB2 T (T 0 1).toNat f y) (c := 1620) hB9 (List.range f)
      rw [List.length_range] at hlP
      generalize hP1 : (P0 ++ (List.range f).flatMap fun f => (List.range 9).flatMap fun y => itB2 T (T 0 1).toNat f y) = P1 at k3
      have hl1 : P1.length ≤ 40000 := by rw [← hP1, List.length_append]; omega
      rw [k1]
      refine Ret.t (by rw [w1.1.2]; omega) (Ret.t (by rw [w1.1.2, Int.toNat_natCast, e1]; exact hf1) ?_)
      refine Ret.bind (R := fun M' => GBq T cc (T 1) M' ∧ MN l0 (SG F k c (ageM T cc w) (P1 ++ (List.range 9).flatMap fun y => itB2 T (T 0 1).toNat f y)) M' ∧ Fp pMS M M') (Ret.loop 9 (fun y s => s.1 = (y : Int) + 1 ∧ GBq T cc (T 1) s.2 ∧ MN l0 (SG F k c (ageM T cc w) (P1 ++ (List.range y).flatMap fun y => itB2 T (T 0 1).toNat f y)) s.2 ∧ Fp pMS M s.2) ⟨rfl, k2, by simpa using k3, k5⟩ ?_ ?_) ?_
      · rintro y s2 hy9 ⟨j1, j2, j3, j5⟩
        rw [j1]
        refine Ret.t (by omega) ?_
        -- explainTwo
        have hlQ := flen (g := fun y => itB2 T (T 0 1).toNat f y) (c := 180) (fun y => itB2_le T (by omega) f y) (List.range y)
        rw [List.length_range] at hlQ
        generalize hP2 : (P1 ++ (List.range y).flatMap fun y => itB2 T (T 0 1).toNat f y) = P2 at j3
        have hl2 : P2.length ≤ 50000 := by rw [← hP2, List.length_append]; omega
        have hne := fun (q : Nat) (hq : (q : Int) < T 0 1) => (show (T 5 q).toNat ≠ (T 6 q).toNat by have := ho.1.2.2.1 q hq; omega)
        refine Ret.bind (R := fun M' => GBq T cc (T 1) M' ∧ MN l0 (SG F k c (ageM T cc w) (P2 ++ itB2 T (T 0 1).toNat f y)) M' ∧ Fp pMS M M') ?_ ?_
        · unfold f_M_explainTwo
          refine Ret.bind (M_guessGift (hwm.ms j5) ho j2 (fun p hp => by have := hb0 p hp; omega) hf1 (d := (y : Int) + 1) (by omega)) ?_
          rintro M6 ⟨z1, z2⟩
          have f6 : Fp pMS M M6 := j5.tr (fr430 z2)
          have hb1' : bdG T (shG T (T 1) f ((y : Int) + 1)) 900 := fun p hp => by have := bdG_sh hb0 f (d := (y : Int) + 1) (by omega) p hp; omega
          rw [w32e (n := (f : Int) + 1) (by omega) (by omega), letI_e]
          generalize hg0 : shG T (T 1) f ((y : Int) + 1) = g0 at z1 hb1'
          refine Ret.bind (R := fun M' => GBq T cc g0 M' ∧ MN l0 (SG F k c (ageM T cc w) (P2 ++ itB2 T (T 0 1).toNat f y)) M' ∧ Fp pMS M M') (Ret.loop ((T 0 1).toNat - (f + 1)) (fun d s => s.1 = (f : Int) + 1 + d ∧ GBq T cc g0 s.2 ∧ MN l0 (SG F k c (ageM T cc w) (P2 ++ (List.range d).flatMap fun d => itPs T f y (f + 1 + d))) s.2 ∧ Fp pMS M s.2) ⟨by simp, z1, by simpa using j3.g z2, f6⟩ ?_ ?_) ?_
          · rintro d s3 hd ⟨q1, q2, q3, q4⟩
            have w3 := hwm.ms q4
            have hd1 : ((f + 1 + d : Nat) : Int) < T 0 1 := by omega
            have e3 : s3.2 386 b = T 0 1 := w3.2.1.1.2.1
            have ef : s3.1 = ((f + 1 + d : Nat) : Int) := by omega
            have hlR := flen (g := fun d => itPs T f y (f + 1 + d)) (c := 9) (fun d => by rw [itPs_len]; exact Nat.le_refl _) (List.range d)
            rw [List.length_range] at hlR
            generalize hP3 : (P2 ++ (List.range d).flatMap fun d => itPs T f y (f + 1 + d)) = P3 at q3
            have hl3 : P3.length ≤ 60000 := by rw [← hP3, List.length_append]; omega
            rw [ef]
            refine Ret.t (by rw [w3.1.2]; omega) (Ret.t (by rw [w3.1.2, Int.toNat_natCast, e3]; omega) ?_)
            refine Ret.bind (R := fun M' => GBq T cc g0 M' ∧ MN l0 (SG F k c (ageM T cc w) (P3 ++ itPs T f y (f + 1 + d))) M' ∧ Fp pMS M M') (Ret.loop 9 (fun z s => s.1 = (z : Int) + 1 ∧ GBq T cc g0 s.2 ∧ MN l0 (SG F k c (ageM T cc w) (P3 ++ (List.range z).map (itPair T f y (f + 1 + d)))) s.2 ∧ Fp pMS M s.2) ⟨rfl, q2, by simpa using q3, q4⟩ ?_ ?_) ?_
            · rintro z s4 hz9 ⟨r1, r2, r3, r4⟩
              rw [r1]
              refine Ret.t (by omega) (M_try (hwm.ms r4) ho (hF.ms r4) hok r2 hb1' hd1 (by omega) r3 hw (l := [(f : Int), (y : Int) + 1, ((f + 1 + d : Nat) : Int), (z : Int) + 1]) rfl rfl (by simp) (by rw [List.length_append, List.length_map, List.length_range]; omega) ?_)
              intro M7 g7 n7 f7
              refine Ret.pure ⟨by dsimp only; rw [w32e (by omega) (by omega)]; omega, g7, ?_, r4.tr f7⟩
              rw [List.range_succ, List.map_append, ← List.append_assoc]
              have e : itPair T f y (f + 1 + d) z = ([(f : Int), (y : Int) + 1, ((f + 1 + d : Nat) : Int), (z : Int) + 1], shG T g0 (f + 1 + d) ((z : Int) + 1)) := by unfold itPair; rw [hg0]
              show MN l0 (SG F k c (ageM T cc w) ((P3 ++ (List.range z).map (itPair T f y (f + 1 + d))) ++ [itPair T f y (f + 1 + d) z])) M7
              rw [e]
              exact n7
            · rintro s4 ⟨r1, r2, r3, r4⟩
              exact Ret.f (by rw [r1]; omega) (Ret.pure ⟨r2, r3, r4⟩)
            · rintro M7 ⟨g7, n7, f7⟩
              refine Ret.pure ⟨by dsimp only; rw [w32e (by omega) (by omega)]; omega, g7, ?_, f7⟩
              rw [List.range_succ, List.flatMap_append, List.flatMap_singleton, ← List.append_assoc, hP3]
              exact n7
          · rintro s3 ⟨q1, q2, q3, q4⟩
            have w3 := hwm.ms q4
            have e3 : s3.2 386 b = T 0 1 := w3.2.1.1.2.1
            exact Ret.t (by rw [w3.1.2]; omega) (Ret.f (by rw [q1, w3.1.2, Int.toNat_natCast, e3]; omega) (Ret.pure ⟨q2, q3, q4⟩))
          · rintro M7 ⟨g7, n7, f7⟩
            rw [w32e (by omega) (by omega)]
            refine Ret.bind (M_guessGift (hwm.ms f7) ho g7 (fun p hp => by have := hb1' p hp; omega) hf1 (d := -((y : Int) + 1)) (by omega)) ?_
            rintro M8 ⟨z5, z6⟩
            rw [← hg0, shG_add _ _ _ _ _ (hne _ hf1), show (y : Int) + 1 + -((y : Int) + 1) = 0 by omega, shG_0] at z5
            exact Ret.pure ⟨z5, n7.g z6, f7.tr (fr430 z6)⟩
        · rintro M6 ⟨g6, n6, f6⟩
          refine Ret.pure ⟨by dsimp only; rw [w32e (by omega) (by omega)]; omega, g6, ?_, f6⟩
          rw [List.range_succ, List.flatMap_append, List.flatMap_singleton, ← List.append_assoc, hP2]
          exact n6
      · rintro s2 ⟨j1, j2, j3, j5⟩
        exact Ret.f (by rw [j1]; omega) (Ret.pure ⟨j2, j3, j5⟩)
      · rintro M6 ⟨g6, n6, f6⟩
        refine Ret.pure ⟨by dsimp only; rw [w32e (by omega) (by omega)]; omega, g6, ?_, f6⟩
        rw [List.range_succ (n := f), List.flatMap_append, List.flatMap_singleton, ← List.append_assoc, hP1]
        exact n6
    · rintro s ⟨k1, k2, k3, k5⟩
      have w1 := hwm.ms k5
      have e1 : s.2 386 b = T 0 1 := w1.2.1.1.2.1
      exact Ret.t (by rw [w1.1.2]; omega) (Ret.f (by rw [k1, w1.1.2, Int.toNat_natCast, e1]; omega) (Ret.pure ⟨k3, k5⟩))
    · rintro M6 ⟨n6, f6⟩
      refine Ret.pure ⟨?_, f6⟩
      have e : P0 ++ itP T (T 0 1).toNat = itM T (T 0 1).toNat := by rw [← hP0]; rfl
      rw [e] at n6
      exact n6
