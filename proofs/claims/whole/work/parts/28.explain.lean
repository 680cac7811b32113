/-! EXPLAINED, SURE, FORGED: the first side -/
def goodF (F : TW) (k : Int) (c : Nat) (x : IT) : Bool := soF F k x.2 c
theorem WG_0 {T : TW} {G : GS} {g : Nat → Int} (hR : ∀ p, G.1 p = true → (p : Int) < T 0 0) : WG T G g = 0 ↔ ∀ p, G.1 p = true → g p = G.2.1 p := by
  constructor
  · intro h p hp
    have hlt := hR p hp
    have := cntN_none h p (by omega)
    unfold wrG at this
    rw [hp, Bool.true_and, decide_eq_false_iff_not, Decidable.not_not] at this
    exact this
  · intro h
    cases hq : WG T G g with
    | zero => rfl
    | succ m =>
      exfalso
      have : ∀ n, cntN (wrG G g) n = 0 := by
        intro n
        induction n with
        | zero => rfl
        | succ n ih =>
          rw [cntN_s, ih]
          have : wrG G g n = false := by
            unfold wrG
            cases ha : G.1 n with
            | false => rfl
            | true => rw [h n ha]; simp
          rw [this]; rfl
      unfold WG at hq
      rw [this] at hq
      cases hq
theorem goodG_F {T F : TW} {c : Nat} {t : Int} (hok : okF T c t F) (k : Int) (a0 : Nat → Int) (x : IT) : goodG T (gth F k a0 c) x = goodF F k c x := by
  have hR := gth_R hok k a0 c (Nat.le_refl _)
  have h1 := so_gth F k a0 x.2 c
  have h2 := WG_0 (g := x.2) hR
  unfold goodG goodF
  rw [Bool.eq_iff_iff, h1, Bool.and_eq_true, decide_eq_true_eq, h2]
  simp
theorem SF_F {T F : TW} {c : Nat} {t : Int} (hok : okF T c t F) (k : Int) (a0 : Nat → Int) (w : Int) (nf : Nat) : SF T (gth F k a0 c) w (itC T nf) = endC T nf (goodF F k c) (ageG T w) := by
  have : goodG T (gth F k a0 c) = goodF F k c := funext fun x => goodG_F hok k a0 x
  unfold SF endC
  rw [this]
def exA (T F : TW) (c : Nat) (k : Int) : Int × List Int := (((endC T (T 0 1).toNat (goodF F k c) (ageG T (-1))).1 : Int), (endC T (T 0 1).toNat (goodF F k c) (ageG T (-1))).2.1)
def sureA (T F : TW) (c : Nat) (p k : Int) : Int := if 0 ≤ p ∧ p < T 0 0 then (if (endC T (T 0 1).toNat (goodF F k c) (ageG T p)).1 = 0 then -1 else if (endC T (T 0 1).toNat (goodF F k c) (ageG T p)).2.2.2 = true then -2 else (endC T (T 0 1).toNat (goodF F k c) (ageG T p)).2.2.1) else -1
theorem it_len4 {T : TW} {nf : Nat} {x : IT} (h : x ∈ itC T nf) : x.1.length ≤ 4 := by
  unfold itC at h
  rcases List.mem_cons.mp h with rfl | h
  · exact Nat.zero_le _
  · rw [List.mem_flatMap] at h
    obtain ⟨f, -, h⟩ := h
    unfold itBY at h
    rw [List.mem_flatMap] at h
    obtain ⟨y, -, h⟩ := h
    rcases List.mem_cons.mp h with rfl | h
    · show 2 ≤ 4; omega
    · rw [itB2_len h]; exact Nat.le_refl _
theorem nst_len {good : IT → Bool} {age : IT → Int} {L : List IT} : ∀ {s : NS}, (∀ x, x ∈ L → x.1.length ≤ 4) → s.2.1.length ≤ 4 → (L.foldl (nst good age) s).2.1.length ≤ 4 := by
  induction L with
  | nil => intro s _ h; exact h
  | cons x L ih =>
    intro s hL h
    rw [List.foldl_cons]
    refine ih (fun y hy => hL y (List.mem_cons_of_mem _ hy)) ?_
    unfold nst
    split
    · dsimp only
      split
      · exact hL x List.mem_cons_self
      · exact h
    · exact h
def pEx (k j : Nat) : Prop := pG k j ∨ pSr k j
theorem WC.ex {T : TW} {R : Nat → RL} {v : Nat → Int} {M M' : KM} (h : WC T R v M) (hf : Fp pEx M M') : WC T R v M' := h.congr fun k j hk => hf k j (by unfold pN at hk; unfold pEx pG pSr; omega)
theorem X_explained {T F : TW} {R : Nat → RL} {v : Nat → Int} {M : KM} {c : Nat} {t : Int} (hw : WC T R v M) (ho : WO T R v) (hF : FC c t F M) (hok : okF T c t F) (k : Int) : Ret (f_X_explained k M) (fun q => q.1 = (exA T F c k).1 ∧ LC (exA T F c k).2 q.2 ∧ Fp (fun k j => pEx k j ∨ pL k j) M q.2) := by
  have o := ho.1.1
  unfold f_X_explained
  refine Ret.letM ?_
  have f0 : Fp (fun k j => pEx k j ∨ pL k j) M (mupd M 0 16 0) := Fp.rf.upd (Or.inr (Or.inr ⟨rfl, rfl⟩))
  have w0 : WC T R v (mupd M 0 16 0) := hw.congr (fun k j hk => mupd_ne _ _ (by unfold pN at hk; omega))
  have F0 : FC c t F (mupd M 0 16 0) := hF.congr (fun k j hk => mupd_ne _ _ (by unfold pFC at hk; omega))
  have L0 := LC_nil M
  generalize mupd M 0 16 0 = M0 at f0 w0 F0 L0 ⊢
  refine Ret.bind (X_gather F0 hok o.2.1 k) ?_
  rintro M1 ⟨g1, g2⟩
  have w1 : WC T R v M1 := w0.ex (g2.mono fun _ _ => Or.inl)
  refine Ret.bind (X_search (w := -1) w1 ho g1 (gth_R hok k _ c (Nat.le_refl _)) (Or.inl rfl)) ?_
  rintro M2 ⟨n2, s2⟩
  rw [SF_F hok] at n2
  have f2 : Fp pEx M0 M2 := (g2.mono fun _ _ => Or.inl).tr (s2.mono fun _ _ => Or.inr)
  have hl4 : (exA T F c k).2.length ≤ 4 := nst_len (fun x hx => it_len4 hx) (Nat.zero_le _)
  have L2 : LC [] M2 := L0.congr (f2 0 16 (by unfold pEx pG pSr; omega)) (f2.row (fun j => by unfold pEx pG pSr; omega))
  have fa : Fp (fun k j => pEx k j ∨ pL k j) M M2 := f0.tr (f2.mono fun _ _ => Or.inl)
  refine Ret.bind (R := fun M' => LC (exA T F c k).2 M' ∧ NX (endC T (T 0 1).toNat (goodF F k c) (ageG T (-1))) M' ∧ Fp (fun k j => pEx k j ∨ pL k j) M M') (Ret.loop (exA T F c k).2.length (fun i s => s.1 = (i : Int) ∧ LC ((exA T F c k).2.take i) s.2 ∧ NX (endC T (T 0 1).toNat (goodF F k c) (ageG T (-1))) s.2 ∧ Fp (fun k j => pEx k j ∨ pL k j) M s.2) ⟨rfl, L2, n2, fa⟩ ?_ ?_) ?_
  · rintro i s hi ⟨k1, k2, k3, k4⟩
    rw [k1]
    refine Ret.t (by rw [k3.2.1]; show (i : Int) < ((exA T F c k).2.length : Int); omega) ?_
    have e : atM s.2 356 4 i = (exA T F c k).2[i] := by
      rw [atM_nat _ _ _ (by omega)]
      exact k3.2.2.1 i _ (List.getElem?_eq_getElem hi)
    rw [e]
    refine Ret.bind (X_lay k2 (by rw [List.length_take]; omega) _) ?_
    rintro M3 ⟨y1, y2⟩
    refine Ret.pure ⟨by dsimp only; rw [w32e (by omega) (by omega)]; omega, ?_, k3.congr (fun k j hk => y2 k j (by unfold pNt at hk; unfold pL; omega)), k4.tr (y2.mono fun _ _ => Or.inr)⟩
    rw [List.take_succ_eq_append_getElem hi]
    exact y1
  · rintro s ⟨k1, k2, k3, k4⟩
    refine Ret.f (by rw [k1, k3.2.1]; show ¬ ((exA T F c k).2.length : Int) < ((exA T F c k).2.length : Int); omega) (Ret.pure ⟨?_, k3, k4⟩)
    rw [List.take_length] at k2
    exact k2
  · rintro M3 ⟨y1, y2, y3⟩
    exact Ret.pure ⟨y2.1, y1, y3⟩
theorem X_sure {T F : TW} {R : Nat → RL} {v : Nat → Int} {M : KM} {c : Nat} {t : Int} (hw : WC T R v M) (ho : WO T R v) (hF : FC c t F M) (hok : okF T c t F) (p k : Int) : Ret (f_X_sure p k M) (fun q => q.1 = sureA T F c p k ∧ Fp pEx M q.2) := by
  have o := ho.1.1
  unfold f_X_sure sureA
  rw [e_X_isPerson, ob_some, hw.n]
  by_cases hp : 0 ≤ p ∧ p < T 0 0
  · rw [if_pos hp, if_pos hp]
    refine Ret.f (by omega) (Ret.bind (X_gather hF hok o.2.1 k) ?_)
    rintro M1 ⟨g1, g2⟩
    have w1 : WC T R v M1 := hw.ex (g2.mono fun _ _ => Or.inl)
    refine Ret.bind (X_search (w := p) w1 ho g1 (gth_R hok k _ c (Nat.le_refl _)) (Or.inr hp)) ?_
    rintro M2 ⟨n2, s2⟩
    rw [SF_F hok] at n2
    have f2 : Fp pEx M M2 := (g2.mono fun _ _ => Or.inl).tr (s2.mono fun _ _ => Or.inr)
    rw [n2.1]
    by_cases h0 : (endC T (T 0 1).toNat (goodF F k c) (ageG T p)).1 = 0
    · exact Ret.t (by omega) (Ret.pure ⟨by dsimp only; rw [if_pos h0], f2⟩)
    · refine Ret.f (by omega) ?_
      rw [n2.2.2.2.2.1, n2.2.2.2.1]
      by_cases hu : (endC T (T 0 1).toNat (goodF F k c) (ageG T p)).2.2.2 = true
      · refine Ret.bind (R := fun z => z = -2) (Ret.f (by rw [if_pos hu]; omega) (Ret.pure rfl)) ?_
        rintro z rfl
        exact Ret.pure ⟨by dsimp only; rw [if_neg h0, if_pos hu], f2⟩
      · refine Ret.bind (R := fun z => z = (endC T (T 0 1).toNat (goodF F k c) (ageG T p)).2.2.1) (Ret.t (by rw [if_neg hu]) (Ret.pure rfl)) ?_
        rintro z rfl
        exact Ret.pure ⟨by dsimp only; rw [if_neg h0, if_neg hu], f2⟩
  · rw [if_neg hp, if_neg hp]
    exact Ret.t rfl (Ret.pure ⟨rfl, Fp.rf⟩)
/-! FORGED -/
/-- told otherwise: the ages of one by his FACES, the last of them -/
def lastF (F : TW) (k : Int) (p : Nat) (a : Int) : Nat → Int := itF (fun i s => if cB F k i = true ∧ (F 0 i).toNat = p then F 1 i else s) a
def forgP (T F : TW) (c : Nat) (k : Int) (p : Nat) : Bool := soF F k (vset (T 1) p (lastF F k p (T 1 p) c)) c
def forgA (T F : TW) (c : Nat) (k : Int) : Int → Prop := fun z => if soF F k (T 1) c = true then z = 0 else (0 ≤ z ∧ z < 256 ∧ ∀ p, bt z p = (decide (p < (T 0 0).toNat) && forgP T F c k p))
theorem soF_congr {F : TW} {k : Int} {c : Nat} {g g' : Nat → Int} (h : ∀ i, i < c → g (F 0 i).toNat = g' (F 0 i).toNat) : soF F k g c = soF F k g' c := by
  induction c with
  | zero => rfl
  | succ c ih => rw [soF_s, soF_s, ih (fun i hi => h i (by omega)), h c (by omega)]
theorem lastF_s (F : TW) (k : Int) (p : Nat) (a : Int) (i : Nat) : lastF F k p a (i + 1) = if cB F k i = true ∧ (F 0 i).toNat = p then F 1 i else lastF F k p a i := rfl
/-- the last FACE of one is what is gathered of him -/
theorem last_gth (F : TW) (k : Int) (a0 : Nat → Int) (p : Nat) (a : Int) : ∀ i, lastF F k p a i = if (gth F k a0 i).1 p = true then (gth F k a0 i).2.1 p else a := by
  intro i
  induction i with
  | zero => rfl
  | succ i ih =>
    rw [lastF_s, gth_s]
    by_cases hc : cB F k i = true
    · rw [if_pos hc]
      dsimp only
      by_cases hp : (F 0 i).toNat = p
      · rw [if_pos ⟨hc, hp⟩, if_pos (by simp [hp]), if_pos hp.symm]
      · have hpp : ¬ p = (F 0 i).toNat := fun q => hp q.symm
        rw [if_neg (fun q => hp q.2), ih]
        simp [hpp]
    · rw [if_neg hc, if_neg (fun q => hc q.1)]; exact ih
theorem forgP_G {T F : TW} (c : Nat) (k : Int) (a0 : Nat → Int) (p : Nat) : forgP T F c k p = true ↔ (gth F k a0 c).2.2 = false ∧ ∀ q, q ≠ p → (gth F k a0 c).1 q = true → T 1 q = (gth F k a0 c).2.1 q := by
  unfold forgP
  rw [so_gth F k a0]
  constructor
  · rintro ⟨h1, h2⟩
    refine ⟨h1, fun q hq ha => ?_⟩
    have := h2 q ha
    rwa [vset_ne _ _ hq] at this
  · rintro ⟨h1, h2⟩
    refine ⟨h1, fun q ha => ?_⟩
    by_cases hq : q = p
    · subst hq
      rw [vset_same, last_gth F k a0, if_pos ha]
    · rw [vset_ne _ _ hq]; exact h2 q hq ha
theorem cntN_one {g : Nat → Bool} {n p : Nat} (hp : p < n) (hg : g p = true) (ho : ∀ q, q ≠ p → g q = false) : cntN g n = 1 := by
  have e : g = fun q => decide (q < n) && decide (q = p) := by
    funext q
    by_cases hq : q = p
    · subst hq; simp [hg, hp]
    · rw [ho q hq]; simp [hq]
  have : ∀ m, cntN g m = if p < m then 1 else 0 := by
    intro m
    induction m with
    | zero => rfl
    | succ m ih =>
      rw [cntN_s, ih]
      by_cases hm : m = p
      · subst hm; rw [hg]; simp
      · rw [ho m hm]
        simp only [Bool.false_eq_true, if_false, Nat.add_zero]
        exact ifc (by omega)
  rw [this, if_pos hp]
theorem cntN_1_inv {g : Nat → Bool} : ∀ {n : Nat}, cntN g n = 1 → ∃ p, p < n ∧ g p = true ∧ ∀ q, q < n → g q = true → q = p := by
  intro n
  induction n with
  | zero => intro h; cases h
  | succ n ih =>
    intro h
    rw [cntN_s] at h
    by_cases hg : g n = true
    · rw [if_pos hg] at h
      have h0 : cntN g n = 0 := by omega
      refine ⟨n, by omega, hg, fun q hq hgq => ?_⟩
      by_cases hqn : q = n
      · exact hqn
      · rw [cntN_none h0 q (by omega)] at hgq; cases hgq
    · rw [if_neg hg] at h
      obtain ⟨p, hp, hgp, hu⟩ := ih h
      refine ⟨p, by omega, hgp, fun q hq hgq => ?_⟩
      by_cases hqn : q = n
      · subst hqn; exact absurd hgq hg
      · exact hu q (by omega) hgq
theorem X_forgedBy {T : TW} {R : Nat → RL} {v : Nat → Int} {G : GS} {M : KM} (hw : WC T R v M) (ho : WO T R v) (hG : GAq G M) (hR : ∀ p, G.1 p = true → (p : Int) < T 0 0) : Ret (f_Faces_forgedBy M) (fun z => ∃ w : Int, (0 ≤ w ∧ w < 256 ∧ ∀ p, bt w p = wrG G (T 1) p) ∧ z = if G.2.2 = false ∧ cntN (wrG G (T 1)) 8 = 1 then w else 0) := by
  have o := ho.1.1
  obtain ⟨h1, h2, h3⟩ := hG
  unfold f_Faces_forgedBy
  refine Ret.bind (R := fun w => 0 ≤ w ∧ w < 256 ∧ ∀ p, bt w p = wrG G (T 1) p) (Ret.loop (T 0 0).toNat (fun i s => s.2 = (i : Int) ∧ 0 ≤ s.1 ∧ s.1 < 256 ∧ ∀ p, bt s.1 p = (decide (p < i) && wrG G (T 1) p)) ⟨rfl, Int.le_refl 0, by dsimp only; omega, fun p => by simp [bt]⟩ ?_ ?_) ?_
  · rintro i s hi ⟨k1, k2, k3, k4⟩
    have hi' : (i : Int) < T 0 0 := by omega
    have e3 : atM M 3 8 i = T 1 i := by rw [atM_nat _ _ _ (by omega)]; exact (hw.1.2.1 i hi').1
    have e4 : atM M 354 8 i = G.2.1 i := by rw [atM_nat _ _ _ (by omega)]; exact h2 i (by omega)
    rw [k1]
    refine Ret.t (by rw [hw.n]; exact hi') ?_
    rw [isInV_bt h1.1 (by omega), Int.toNat_natCast, h1.2.2, e3, e4, w32e (n := (i : Int) + 1) (by omega) (by omega)]
    refine Ret.bind (R := fun q => 0 ≤ q ∧ q < 256 ∧ ∀ p, bt q p = (decide (p < i + 1) && wrG G (T 1) p)) ?_ ?_
    · have hno : wrG G (T 1) i = false → ∀ p, bt s.1 p = (decide (p < i + 1) && wrG G (T 1) p) := by
        intro hq p
        rw [k4]
        by_cases hp : p = i
        · subst hp; simp [hq]
        · have : decide (p < i + 1) = decide (p < i) := decide_eq_decide.mpr (by omega)
          rw [this]
      by_cases ha : G.1 i = true
      · refine Ret.f (by rw [if_pos ⟨by omega, ha⟩]; omega) ?_
        by_cases he : G.2.1 i = T 1 i
        · exact Ret.t he (Ret.pure ⟨k2, k3, hno (by unfold wrG; rw [he]; simp)⟩)
        · refine Ret.f he (Ret.letI (Ret.pure ?_))
          have hq : wrG G (T 1) i = true := by unfold wrG; rw [ha, Bool.true_and]; exact decide_eq_true (fun z => he z.symm)
          obtain ⟨z1, z2, z3⟩ := kior_bit (p := i) k2 (by omega) (by omega)
          have z4 : ∀ p, bt (kior s.1 (kishl 1 i)) p = (decide (p < i + 1) && wrG G (T 1) p) := by
            intro p
            rw [z3, k4]
            by_cases hp : p = i
            · subst hp; simp [hq]
            · have : decide (p < i + 1) = decide (p < i) := decide_eq_decide.mpr (by omega)
              rw [this]; simp [hp]
          refine ⟨z1, ?_, z4⟩
          exact bt_lt8 z1 (n := 8) (fun p hp => by rw [z4]; simp; intro; omega)
      · refine Ret.t (by rw [if_neg (fun q => ha q.2)]) (Ret.pure ⟨k2, k3, hno (by unfold wrG; simp [ha])⟩)
    · rintro q ⟨g1, g2, g3⟩
      exact Ret.pure ⟨by dsimp only; omega, g1, g2, g3⟩
  · rintro s ⟨k1, k2, k3, k4⟩
    refine Ret.f (by rw [k1, hw.n]; omega) (Ret.pure ⟨k2, k3, fun p => ?_⟩)
    rw [k4]
    by_cases hp : p < (T 0 0).toNat
    · simp [hp]
    · have : G.1 p = false := by
        cases hq : G.1 p with
        | false => rfl
        | true => have := hR p hq; omega
      unfold wrG
      rw [this]; simp
  · rintro w ⟨k2, k3, k4⟩
    have ep : pop8 w = cntN (wrG G (T 1)) 8 := by
      unfold pop8 cntN
      apply List.countP_congr
      intro p _
      rw [k4]
    refine Ret.bind (R := fun z => z = if G.2.2 = false ∧ cntN (wrG G (T 1)) 8 = 1 then w else 0) ?_ (fun z hz => Ret.pure ⟨w, ⟨k2, k3, k4⟩, hz⟩)
    rw [h3]
    by_cases hc : G.2.2 = true
    · refine Ret.f (by rw [if_pos hc]; omega) (Ret.pure ?_)
      rw [if_neg (fun q => by rw [hc] at q; cases q.1)]
    · simp only [Bool.not_eq_true] at hc
      refine Ret.t (by rw [hc]; rfl) ?_
      rw [e_bitCount _ k2 k3, ob_some, ep]
      by_cases h1 : cntN (wrG G (T 1)) 8 = 1
      · refine Ret.t (by omega) (Ret.pure ?_)
        rw [if_pos ⟨hc, h1⟩]
      · refine Ret.f (by omega) (Ret.pure ?_)
        rw [if_neg (fun q => h1 q.2)]
theorem X_forged {T F : TW} {R : Nat → RL} {v : Nat → Int} {M : KM} {c : Nat} {t : Int} (hw : WC T R v M) (ho : WO T R v) (hF : FC c t F M) (hok : okF T c t F) (k : Int) : Ret (f_X_forged k M) (fun q => forgA T F c k q.1 ∧ Fp pG M q.2) := by
  have o := ho.1.1
  unfold f_X_forged
  refine Ret.bind (X_gather hF hok o.2.1 k) ?_
  rintro M1 ⟨g1, g2⟩
  have w1 : WC T R v M1 := hw.ex (g2.mono fun _ _ => Or.inl)
  have hR := gth_R hok k (M 354) c (Nat.le_refl _)
  refine Ret.bind (X_forgedBy w1 ho g1 hR) ?_
  rintro z ⟨w, ⟨w1, w2, w3⟩, rfl⟩
  refine Ret.pure ⟨?_, g2⟩
  dsimp only
  have hso := so_gth F k (M 354) (T 1) c
  have hfg := forgP_G (T := T) c k (M 354) (F := F)
  generalize gth F k (M 354) c = G at hso hfg hR w3 ⊢
  have hw8 : ∀ p, wrG G (T 1) p = true → p < 8 := by
    intro p hp
    unfold wrG at hp
    rw [Bool.and_eq_true] at hp
    have := hR p hp.1
    omega
  unfold forgA
  by_cases hs : soF F k (T 1) c = true
  · rw [if_pos hs]
    have h2 := (hso.mp hs).2
    rw [if_neg]
    rintro ⟨-, h1⟩
    obtain ⟨p, hp, hgp, -⟩ := cntN_1_inv h1
    unfold wrG at hgp
    rw [Bool.and_eq_true, decide_eq_true_eq] at hgp
    exact hgp.2 (h2 p hgp.1)
  · rw [if_neg hs]
    by_cases hc : G.2.2 = false ∧ cntN (wrG G (T 1)) 8 = 1
    · rw [if_pos hc]
      refine ⟨w1, w2, fun p => ?_⟩
      obtain ⟨p0, hp0, hg0, hu⟩ := cntN_1_inv hc.2
      have hg0' := hg0
      unfold wrG at hg0'
      rw [Bool.and_eq_true, decide_eq_true_eq] at hg0'
      rw [w3, Bool.eq_iff_iff, Bool.and_eq_true, hfg, decide_eq_true_eq]
      constructor
      · intro hp
        have hpp := hu p (hw8 p hp) hp
        have := hR p0 hg0'.1
        refine ⟨by omega, hc.1, fun q hq ha => ?_⟩
        cases hb : decide (T 1 q ≠ G.2.1 q) with
        | false => rw [decide_eq_false_iff_not, Decidable.not_not] at hb; exact hb
        | true =>
          have hwq : wrG G (T 1) q = true := by unfold wrG; rw [ha, hb]; rfl
          have := hu q (hw8 q hwq) hwq
          omega
      · rintro ⟨-, -, h2⟩
        by_cases hpp : p0 = p
        · rw [← hpp]; exact hg0
        · exact absurd (h2 p0 hpp hg0'.1) hg0'.2
    · rw [if_neg hc]
      refine ⟨Int.le_refl 0, by omega, fun p => ?_⟩
      have e0 : bt 0 p = false := by simp [bt]
      rw [e0]
      symm
      rw [Bool.eq_false_iff]
      intro hq
      rw [Bool.and_eq_true, hfg] at hq
      obtain ⟨-, h1, h2⟩ := hq
      apply hc
      refine ⟨h1, ?_⟩
      -- not all are so as told: p alone is not
      have hne : ∃ q, G.1 q = true ∧ T 1 q ≠ G.2.1 q := by
        apply Classical.byContradiction
        intro hno
        apply hs
        rw [hso]
        refine ⟨h1, fun q ha => ?_⟩
        apply Classical.byContradiction
        intro hn
        exact hno ⟨q, ha, hn⟩
      obtain ⟨q, ha, hn⟩ := hne
      have hqp : q = p := by
        apply Classical.byContradiction
        intro hqp
        exact hn (h2 q hqp ha)
      subst hqp
      have hwq : wrG G (T 1) q = true := by unfold wrG; rw [ha, decide_eq_true hn]; rfl
      refine cntN_one (hw8 q hwq) hwq (fun r hr => ?_)
      unfold wrG
      cases hb : G.1 r with
      | false => rfl
      | true => rw [h2 r hr hb]; simp
