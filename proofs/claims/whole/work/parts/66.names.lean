/-! NAMES told; a rule's end -/
def nmIx (L : List Int) (N : List (List Int)) : Int := match wdF L N 0 with
  | some i => (i : Int)
  | none => -1
theorem nmIx_of {L : List Int} {N : List (List Int)} {i : Nat} (h : N[i]? = some L) (hq : ∀ q : Nat, q < i → N[q]? ≠ some L) : nmIx L N = (i : Int) := by
  unfold nmIx
  rw [wdF_of h hq, Nat.zero_add]
theorem nmIx_no {L : List Int} {N : List (List Int)} (h : ∀ q : Nat, N[q]? ≠ some L) : nmIx L N = -1 := by
  unfold nmIx
  cases hw : wdF L N 0 with
  | none => rfl
  | some j =>
    obtain ⟨k, h1, h2⟩ := wdF_some hw
    exact absurd h2 (h k)
theorem nmIx_R (L : List Int) (N : List (List Int)) : nmIx L N = -1 ∨ (0 ≤ nmIx L N ∧ nmIx L N < (N.length : Int)) := by
  unfold nmIx
  cases hw : wdF L N 0 with
  | none => exact Or.inl rfl
  | some j =>
    obtain ⟨k, h1, h2⟩ := wdF_some hw
    have := (List.getElem?_eq_some_iff.mp h2).1
    exact Or.inr ⟨by dsimp only; omega, by dsimp only; omega⟩
def ltrN (N : List (List Int)) : Prop := ∀ u, u ∈ N → ltrs u
/-- names as the first side, the second side keeps them -/
def nmRC (c : Nat) (N : List (List Int)) (M : KM) : Prop := ∀ i u, N[i]? = some u → M c i = nmC u
def nmRM (c o : Nat) (N : List (List Int)) (M : KM) : Prop := ∀ i u, N[i]? = some u → M c (o + i) = nmM u
theorem X_name {W : Nat → Int} {n J j : Nat} {M : KM} (h : RC W n J j M) : f_Reader_name M = some (M 31 j) := by
  have := h.2.2.2
  refine Ret.some_of ?_
  unfold f_Reader_name
  rw [h.2.1, Int.toNat_natCast]
  exact Ret.bind (R := fun y => y = M 31 j) (Ret.f (by omega) (Ret.t (by omega) (Ret.t (by omega) (Ret.pure rfl)))) fun y hy => Ret.pure hy
theorem X_placeP {W : Nat → Int} {n J j : Nat} {N : List (List Int)} {M : KM} (h : RC W n J j M) (hN : ltrN N) (hn : nmRC 32 N M) (h8 : N.length ≤ 8) : Ret (f_Reader_placeAmongP (N.length : Int) M) (fun y => (y = -1 ∨ 0 ≤ y) ∧ (kdJ W n j = 1 → y = nmIx (tkW W n (plS W n j)) N)) := by
  unfold f_Reader_placeAmongP
  rw [X_name h, ob_some]
  have hq : kdJ W n j = 1 → ∀ i u, N[i]? = some u → (klcmp (M 32 i) (M 31 j) = 0 ↔ u = tkW W n (plS W n j)) := fun hk i u hu => by
    have hL : ltrs (tkW W n (plS W n j)) := by
      rcases tkK_R W n (plS W n j) with ⟨z, _⟩ | ⟨hp, z | ⟨_, z, _⟩ | ⟨z, _⟩ | ⟨z, z2, z3, _⟩ | ⟨q, _, z, _⟩⟩
      · have : tkK W n (plS W n j) = 1 := hk
        omega
      · have : tkK W n (plS W n j) = 1 := hk
        omega
      · exact tkW_lt hp z
      · have : tkK W n (plS W n j) = 1 := hk
        omega
      · have : tkK W n (plS W n j) = 1 := hk
        omega
      · have : tkK W n (plS W n j) = 1 := hk
        omega
    rw [klcmp0, hn i u hu, (h.1 j (by have := h.2.2.2; omega)).2.2.2 hk]
    exact nmC_inj (hN u (List.mem_of_getElem? hu)) hL
  refine Ret.bind (R := fun e : Int ⊕ Unit => Sum.elim (fun y : Int => 0 ≤ y ∧ (kdJ W n j = 1 → y = nmIx (tkW W n (plS W n j)) N)) (fun _ => kdJ W n j = 1 → nmIx (tkW W n (plS W n j)) N = -1) e) (Ret.loop N.length (fun i s => s = (i : Int) ∧ (kdJ W n j = 1 → ∀ q, q < i → N[q]? ≠ some (tkW W n (plS W n j)))) ⟨rfl, fun _ q hq => absurd hq (Nat.not_lt_zero _)⟩ ?_ ?_) ?_
  · rintro i s hi ⟨rfl, k2⟩
    have hg : N[i]? = some (N[i]'hi) := List.getElem?_eq_getElem hi
    rw [Int.toNat_natCast, w32e (n := (i : Int) + 1) (by omega) (by omega)]
    refine Ret.t (by omega) (Ret.t (by omega) (Ret.t (by omega) (Ret.br (fun hc => Ret.pure ⟨by omega, fun hk => ?_⟩) fun hc => Ret.pure ⟨rfl, fun hk q hq2 => ?_⟩)))
    · refine (nmIx_of (N := N) ?_ (k2 hk)).symm
      rw [hg, (hq hk i _ hg).mp hc]
    · by_cases hqi : q = i
      · subst hqi
        rw [hg]
        intro e
        exact hc ((hq hk q _ hg).mpr (Option.some.inj e))
      · exact k2 hk q (by omega)
  · rintro s ⟨rfl, k2⟩
    refine Ret.f (by omega) (Ret.pure fun hk => nmIx_no fun q => ?_)
    by_cases hq2 : q < N.length
    · exact k2 hk q hq2
    · rw [List.getElem?_eq_none (by omega)]; intro z; cases z
  · rintro (y | u) he
    · exact Ret.pure ⟨Or.inr he.1, he.2⟩
    · exact Ret.pure ⟨Or.inl rfl, fun hk => (he hk).symm⟩
theorem X_placeR {W : Nat → Int} {n J j : Nat} {N : List (List Int)} {M : KM} (h : RC W n J j M) (hN : ltrN N) (hn : nmRC 33 N M) (h8 : N.length ≤ 6) : Ret (f_Reader_placeAmongR (N.length : Int) M) (fun y => (y = -1 ∨ 0 ≤ y) ∧ (kdJ W n j = 1 → y = nmIx (tkW W n (plS W n j)) N)) := by
  unfold f_Reader_placeAmongR
  rw [X_name h, ob_some]
  have hq : kdJ W n j = 1 → ∀ i u, N[i]? = some u → (klcmp (M 33 i) (M 31 j) = 0 ↔ u = tkW W n (plS W n j)) := fun hk i u hu => by
    have hL : ltrs (tkW W n (plS W n j)) := by
      rcases tkK_R W n (plS W n j) with ⟨z, _⟩ | ⟨hp, z | ⟨_, z, _⟩ | ⟨z, _⟩ | ⟨z, z2, z3, _⟩ | ⟨q, _, z, _⟩⟩
      · have : tkK W n (plS W n j) = 1 := hk
        omega
      · have : tkK W n (plS W n j) = 1 := hk
        omega
      · exact tkW_lt hp z
      · have : tkK W n (plS W n j) = 1 := hk
        omega
      · have : tkK W n (plS W n j) = 1 := hk
        omega
      · have : tkK W n (plS W n j) = 1 := hk
        omega
    rw [klcmp0, hn i u hu, (h.1 j (by have := h.2.2.2; omega)).2.2.2 hk]
    exact nmC_inj (hN u (List.mem_of_getElem? hu)) hL
  refine Ret.bind (R := fun e : Int ⊕ Unit => Sum.elim (fun y : Int => 0 ≤ y ∧ (kdJ W n j = 1 → y = nmIx (tkW W n (plS W n j)) N)) (fun _ => kdJ W n j = 1 → nmIx (tkW W n (plS W n j)) N = -1) e) (Ret.loop N.length (fun i s => s = (i : Int) ∧ (kdJ W n j = 1 → ∀ q, q < i → N[q]? ≠ some (tkW W n (plS W n j)))) ⟨rfl, fun _ q hq => absurd hq (Nat.not_lt_zero _)⟩ ?_ ?_) ?_
  · rintro i s hi ⟨rfl, k2⟩
    have hg : N[i]? = some (N[i]'hi) := List.getElem?_eq_getElem hi
    rw [Int.toNat_natCast, w32e (n := (i : Int) + 1) (by omega) (by omega)]
    refine Ret.t (by omega) (Ret.t (by omega) (Ret.t (by omega) (Ret.br (fun hc => Ret.pure ⟨by omega, fun hk => ?_⟩) fun hc => Ret.pure ⟨rfl, fun hk q hq2 => ?_⟩)))
    · refine (nmIx_of (N := N) ?_ (k2 hk)).symm
      rw [hg, (hq hk i _ hg).mp hc]
    · by_cases hqi : q = i
      · subst hqi
        rw [hg]
        intro e
        exact hc ((hq hk q _ hg).mpr (Option.some.inj e))
      · exact k2 hk q (by omega)
  · rintro s ⟨rfl, k2⟩
    refine Ret.f (by omega) (Ret.pure fun hk => nmIx_no fun q => ?_)
    by_cases hq2 : q < N.length
    · exact k2 hk q hq2
    · rw [List.getElem?_eq_none (by omega)]; intro z; cases z
  · rintro (y | u) he
    · exact Ret.pure ⟨Or.inr he.1, he.2⟩
    · exact Ret.pure ⟨Or.inl rfl, fun hk => (he hk).symm⟩
theorem tkT_2 (W : Nat → Int) (n p : Nat) : tkT (tkK W n p) = 2 ↔ tkK W n p = 1 := by
  unfold tkT
  constructor
  · intro h
    split at h
    · omega
    · split at h
      · omega
      · split at h
        · assumption
        · split at h
          · omega
          · split at h <;> omega
  · intro h
    rw [h]; rfl
theorem kd1_lt {W : Nat → Int} {n j : Nat} (hk : kdJ W n j = 1) : ltrs (tkW W n (plS W n j)) := by
  have hk : tkK W n (plS W n j) = 1 := hk
  rcases tkK_R W n (plS W n j) with ⟨z, _⟩ | ⟨hp, z | ⟨_, z, _⟩ | ⟨z, _⟩ | ⟨z, z2, z3, _⟩ | ⟨q, _, z, _⟩⟩
  · omega
  · omega
  · exact tkW_lt hp z
  · omega
  · omega
  · omega
theorem M_hereP {W : Nat → Int} {n j o : Nat} {N : List (List Int)} {M : KM} (h : RM W n j M) (hN : ltrN N) (hn : nmRM 404 o N M) (h8 : o + N.length ≤ 16) : f_M_hereP (o : Int) (N.length : Int) M = some (if kdJ W n j = 1 then nmIx (tkW W n (plS W n j)) N else -1) := by
  obtain ⟨h1, ⟨p1, p2, p3, p4, p5⟩, h3⟩ := h
  refine Ret.some_of ?_
  unfold f_M_hereP
  rw [p3]
  refine Ret.bind (R := fun e : Int ⊕ Unit => Sum.elim (fun y : Int => kdJ W n j = 1 ∧ y = nmIx (tkW W n (plS W n j)) N) (fun _ => kdJ W n j = 1 → nmIx (tkW W n (plS W n j)) N = -1) e) (Ret.loop N.length (fun i s => s = (i : Int) ∧ (kdJ W n j = 1 → ∀ q, q < i → N[q]? ≠ some (tkW W n (plS W n j)))) ⟨rfl, fun _ q hq => absurd hq (Nat.not_lt_zero _)⟩ ?_ ?_) ?_
  · rintro i s hi ⟨rfl, k2⟩
    have hg : N[i]? = some (N[i]'hi) := List.getElem?_eq_getElem hi
    rw [w32e (n := (i : Int) + 1) (by omega) (by omega), w32e (n := (o : Int) + i) (by omega) (by omega), show ((o : Int) + i).toNat = o + i by omega, hn i _ hg]
    refine Ret.t (by omega) (Ret.br (fun h2 => ?_) fun h2 => Ret.pure ⟨rfl, fun hk => absurd ((tkT_2 W n _).mpr hk) h2⟩)
    have hk : kdJ W n j = 1 := (tkT_2 W n _).mp h2
    have hL := kd1_lt hk
    have hq : klcmp (nmM (N[i]'hi)) (M 382 10) = 0 ↔ N[i]'hi = tkW W n (plS W n j) := by
      rw [klcmp0, p5 (Or.inl hk)]
      exact nmM_inj (hN _ (List.getElem_mem hi)) hL
    refine Ret.t (by omega) (Ret.br (fun hc => Ret.pure ⟨hk, ?_⟩) fun hc => Ret.pure ⟨rfl, fun hk q hq2 => ?_⟩)
    · refine (nmIx_of (N := N) ?_ (k2 hk)).symm
      rw [hg, hq.mp hc]
    · by_cases hqi : q = i
      · subst hqi
        rw [hg]
        intro e
        exact hc (hq.mpr (Option.some.inj e))
      · exact k2 hk q (by omega)
  · rintro s ⟨rfl, k2⟩
    refine Ret.f (by omega) (Ret.pure fun hk => nmIx_no fun q => ?_)
    by_cases hq2 : q < N.length
    · exact k2 hk q hq2
    · rw [List.getElem?_eq_none (by omega)]; intro z; cases z
  · rintro (y | u) he
    · exact Ret.pure (by rw [if_pos he.1]; exact he.2)
    · refine Ret.pure ?_
      by_cases hk : kdJ W n j = 1
      · rw [if_pos hk]; exact (he hk).symm
      · rw [if_neg hk]
theorem M_hereR {W : Nat → Int} {n j o : Nat} {N : List (List Int)} {M : KM} (h : RM W n j M) (hN : ltrN N) (hn : nmRM 405 o N M) (h8 : o + N.length ≤ 12) : f_M_hereR (o : Int) (N.length : Int) M = some (if kdJ W n j = 1 then nmIx (tkW W n (plS W n j)) N else -1) := by
  obtain ⟨h1, ⟨p1, p2, p3, p4, p5⟩, h3⟩ := h
  refine Ret.some_of ?_
  unfold f_M_hereR
  rw [p3]
  refine Ret.bind (R := fun e : Int ⊕ Unit => Sum.elim (fun y : Int => kdJ W n j = 1 ∧ y = nmIx (tkW W n (plS W n j)) N) (fun _ => kdJ W n j = 1 → nmIx (tkW W n (plS W n j)) N = -1) e) (Ret.loop N.length (fun i s => s = (i : Int) ∧ (kdJ W n j = 1 → ∀ q, q < i → N[q]? ≠ some (tkW W n (plS W n j)))) ⟨rfl, fun _ q hq => absurd hq (Nat.not_lt_zero _)⟩ ?_ ?_) ?_
  · rintro i s hi ⟨rfl, k2⟩
    have hg : N[i]? = some (N[i]'hi) := List.getElem?_eq_getElem hi
    rw [w32e (n := (i : Int) + 1) (by omega) (by omega), w32e (n := (o : Int) + i) (by omega) (by omega), show ((o : Int) + i).toNat = o + i by omega, hn i _ hg]
    refine Ret.t (by omega) (Ret.br (fun h2 => ?_) fun h2 => Ret.pure ⟨rfl, fun hk => absurd ((tkT_2 W n _).mpr hk) h2⟩)
    have hk : kdJ W n j = 1 := (tkT_2 W n _).mp h2
    have hL := kd1_lt hk
    have hq : klcmp (nmM (N[i]'hi)) (M 382 10) = 0 ↔ N[i]'hi = tkW W n (plS W n j) := by
      rw [klcmp0, p5 (Or.inl hk)]
      exact nmM_inj (hN _ (List.getElem_mem hi)) hL
    refine Ret.t (by omega) (Ret.br (fun hc => Ret.pure ⟨hk, ?_⟩) fun hc => Ret.pure ⟨rfl, fun hk q hq2 => ?_⟩)
    · refine (nmIx_of (N := N) ?_ (k2 hk)).symm
      rw [hg, hq.mp hc]
    · by_cases hqi : q = i
      · subst hqi
        rw [hg]
        intro e
        exact hc (hq.mpr (Option.some.inj e))
      · exact k2 hk q (by omega)
  · rintro s ⟨rfl, k2⟩
    refine Ret.f (by omega) (Ret.pure fun hk => nmIx_no fun q => ?_)
    by_cases hq2 : q < N.length
    · exact k2 hk q hq2
    · rw [List.getElem?_eq_none (by omega)]; intro z; cases z
  · rintro (y | u) he
    · exact Ret.pure (by rw [if_pos he.1]; exact he.2)
    · refine Ret.pure ?_
      by_cases hk : kdJ W n j = 1
      · rw [if_pos hk]; exact (he hk).symm
      · rw [if_neg hk]
theorem M_fresh_bad {M : KM} (h : M 382 4 ≠ 0) (y : Int) : f_M_fresh y M = some (0, M) := by
  unfold f_M_fresh
  rw [M_isGood, ob_some, if_neg h]; rfl
theorem M_known_bad {M : KM} (h : M 382 4 ≠ 0) : f_M_known M = some (0, M) := by
  unfold f_M_known
  rw [M_isGood, ob_some, if_neg h]; rfl
/-- a new name: a fault and its place, or the name -/
def newNm (W : Nat → Int) (n j : Nat) (N : List (List Int)) : (Int × Nat) ⊕ List Int := if kdJ W n j = 1 then (if nmIx (tkW W n (plS W n j)) N = -1 then .inr (tkW W n (plS W n j)) else .inl (3, plS W n j)) else .inl (f2 W n j, plS W n j)
theorem newNm_bad {W : Nat → Int} {n j : Nat} {N : List (List Int)} {e : Int × Nat} (h : newNm W n j N = .inl e) : e.1 ≠ 0 := by
  unfold newNm at h
  have := f2_R W n j
  split at h
  · split at h
    · cases h
    · cases h; show (3 : Int) ≠ 0; omega
  · cases h; show f2 W n j ≠ 0; omega
theorem M_fresh {W : Nat → Int} {n j : Nat} {N : List (List Int)} {M : KM} (h : RM W n j M) (hW : TXR W) : Ret (f_M_fresh (if kdJ W n j = 1 then nmIx (tkW W n (plS W n j)) N else -1) M) (fun q => Sum.elim (fun e : Int × Nat => fM e.1 e.2 q.2) (fun u => q.1 = nmM u ∧ RM W n (j + 1) q.2) (newNm W n j N) ∧ Fp pTm M q.2) := by
  have h' := h
  obtain ⟨h1, ⟨p1, p2, p3, p4, p5⟩, h3⟩ := h
  unfold f_M_fresh newNm
  rw [M_isGood, ob_some, h3, p3]
  refine Ret.f (by decide) ?_
  by_cases hk : kdJ W n j = 1
  · rw [if_pos hk, if_pos hk]
    by_cases hx : nmIx (tkW W n (plS W n j)) N = -1
    · rw [if_pos hx, hx]
      refine Ret.bind (R := fun t => t = M) (Ret.t ((tkT_2 W n _).mpr hk) (Ret.t (by omega) (Ret.pure rfl))) ?_
      rintro t rfl
      rw [M_isGood, ob_some, h3, p5 (Or.inl hk)]
      refine Ret.bind (R := fun t' => RM W n (j + 1) t' ∧ Fp pTm t t') (Ret.f (by decide) (Ret.bind (M_go h' hW) fun q hq => Ret.pure ⟨hq.1, hq.2.mono pGo_m⟩)) ?_
      rintro t' ⟨t1, t2⟩
      exact Ret.pure ⟨⟨rfl, t1⟩, t2⟩
    · rw [if_neg hx]
      have hr := nmIx_R (tkW W n (plS W n j)) N
      refine Ret.bind (R := fun t => fM 3 (plS W n j) t ∧ Fp pTm M t) (Ret.t ((tkT_2 W n _).mpr hk) (Ret.f (by omega) ?_)) ?_
      · rw [p1]
        exact Ret.bind (M_fails h3 (by rw [p1]; omega) 3 _) fun q hq => Ret.pure ⟨hq.1, hq.2.mono pFm_m⟩
      · rintro t ⟨t1, t2⟩
        rw [M_isGood, ob_some, if_neg (fM_bad t1 (by omega))]
        refine Ret.bind (R := fun t' => t' = t) (Ret.t rfl (Ret.pure rfl)) ?_
        rintro t' rfl
        exact Ret.pure ⟨t1, t2⟩
  · rw [if_neg hk, if_neg hk]
    refine Ret.bind (R := fun t => fM (f2 W n j) (plS W n j) t ∧ Fp pTm M t) (Ret.f (fun q => hk ((tkT_2 W n _).mp q)) (Ret.bind (M_misplaced h') fun q hq => Ret.pure ⟨hq.1, hq.2.mono pFm_m⟩)) ?_
    rintro t ⟨t1, t2⟩
    rw [M_isGood, ob_some, if_neg (fM_bad t1 (by have := f2_R W n j; omega))]
    refine Ret.bind (R := fun t' => t' = t) (Ret.t rfl (Ret.pure rfl)) ?_
    rintro t' rfl
    exact Ret.pure ⟨t1, t2⟩
/-- a name told ahead -/
def knNm (W : Nat → Int) (n j : Nat) (N : List (List Int)) : (Int × Nat) ⊕ Int := if kdJ W n j = 1 then (if nmIx (tkW W n (plS W n j)) N = -1 then .inl (5, plS W n j) else .inr (nmIx (tkW W n (plS W n j)) N)) else .inl (f2 W n j, plS W n j)
theorem knNm_bad {W : Nat → Int} {n j : Nat} {N : List (List Int)} {e : Int × Nat} (h : knNm W n j N = .inl e) : e.1 ≠ 0 := by
  unfold knNm at h
  have := f2_R W n j
  split at h
  · split at h
    · cases h; show (5 : Int) ≠ 0; omega
    · cases h
  · cases h; show f2 W n j ≠ 0; omega
theorem knNm_R {W : Nat → Int} {n j : Nat} {N : List (List Int)} {y : Int} (h : knNm W n j N = .inr y) : 0 ≤ y ∧ y < (N.length : Int) ∧ kdJ W n j = 1 := by
  unfold knNm at h
  have := nmIx_R (tkW W n (plS W n j)) N
  split at h
  · rename_i hk
    split at h
    · cases h
    · cases h; exact ⟨by omega, by omega, hk⟩
  · cases h
theorem M_known {W : Nat → Int} {n j rb : Nat} {N : List (List Int)} {M : KM} (h : RM W n j M) (hN : ltrN N) (hn : nmRM 404 (8 * rb) N M) (h8 : N.length ≤ 8) (hrb : rb < 2) (hb : M 382 38 = (rb : Int)) (hp : M 385 rb = (N.length : Int)) : Ret (f_M_known M) (fun q => Sum.elim (fun e : Int × Nat => fM e.1 e.2 q.2 ∧ 0 ≤ q.1 ∧ q.1 < 8) (fun y => q.1 = y ∧ q.2 = M) (knNm W n j N) ∧ Fp pFm M q.2) := by
  have h' := h
  have hh := M_hereP h hN hn (by omega)
  have hr := nmIx_R (tkW W n (plS W n j)) N
  obtain ⟨h1, ⟨p1, p2, p3, p4, p5⟩, h3⟩ := h
  unfold f_M_known knNm f_M_personHere
  rw [M_isGood, ob_some, h3, p3, hb, Int.toNat_natCast, hp, w32e (n := 8 * (rb : Int)) (by omega) (by omega), show (8 * (rb : Int)) = ((8 * rb : Nat) : Int) by omega, hh, ob_some]
  refine Ret.f (by decide) ?_
  rw [if_pos (show 0 ≤ (rb : Int) ∧ (rb : Int) < 2 by omega), ob_some]
  by_cases hk : kdJ W n j = 1
  · rw [if_pos hk, if_pos hk]
    by_cases hx : nmIx (tkW W n (plS W n j)) N = -1
    · rw [if_pos hx, hx]
      refine Ret.bind (R := fun t => fM 5 (plS W n j) t ∧ Fp pFm M t) (Ret.t ((tkT_2 W n _).mpr hk) (Ret.t (by omega) ?_)) ?_
      · rw [p1]
        exact Ret.bind (M_fails h3 (by rw [p1]; omega) 5 _) fun q hq => Ret.pure hq
      · rintro t ⟨t1, t2⟩
        refine Ret.bind (R := fun y => y = 0) (Ret.t (by omega) (Ret.pure rfl)) ?_
        rintro y rfl
        exact Ret.pure ⟨⟨t1, Int.le_refl _, (by decide : (0 : Int) < 8)⟩, t2⟩
    · rw [if_neg hx]
      refine Ret.bind (R := fun t => t = M) (Ret.t ((tkT_2 W n _).mpr hk) (Ret.f (by omega) (Ret.pure rfl))) ?_
      rintro t rfl
      refine Ret.bind (R := fun y => y = nmIx (tkW W n (plS W n j)) N) (Ret.f (by omega) (Ret.pure rfl)) ?_
      rintro y rfl
      exact Ret.pure ⟨⟨rfl, rfl⟩, Fp.rf⟩
  · rw [if_neg hk, if_neg hk]
    refine Ret.bind (R := fun t => fM (f2 W n j) (plS W n j) t ∧ Fp pFm M t) (Ret.f (fun q => hk ((tkT_2 W n _).mp q)) (Ret.bind (M_misplaced h') fun q hq => Ret.pure hq)) ?_
    rintro t ⟨t1, t2⟩
    refine Ret.bind (R := fun y => y = 0) (Ret.t (by omega) (Ret.pure rfl)) ?_
    rintro y rfl
    exact Ret.pure ⟨⟨t1, Int.le_refl _, (by decide : (0 : Int) < 8)⟩, t2⟩
theorem isSign_any {W : Nat → Int} {n : Nat} {M : KM} (h : TXM W n M) (h6 : 0 ≤ M 382 6) (c : Int) : ∃ y, f_M_isSignHere c M = some y := by
  obtain ⟨i, hi⟩ := Int.eq_ofNat_of_zero_le h6
  unfold f_M_isSignHere
  by_cases h5 : M 382 8 = 5
  · rw [if_pos h5, hi, M_sign h, ob_some]
    by_cases hc : (if i < n then W i else 0) = c
    · rw [if_pos hc]; exact ⟨1, rfl⟩
    · rw [if_neg hc]; exact ⟨0, rfl⟩
  · rw [if_neg h5]; exact ⟨0, rfl⟩
/-! a rule in the text: both sides -/
/-- how the rule at j is read: a fault and its place, or the token behind its ";", the units, the steps -/
def rulP (W : Nat → Int) (n j U : Nat) : (Int × Nat) ⊕ (Nat × Nat × RL) := match exP W n 70 0 0 (j, 0, U, []) with
  | none => .inl (0, 0)
  | some (.inr f) => .inl f
  | some (.inl s) => if kdJ W n s.1 = 59 then .inr (s.1 + 1, s.2.2.1, s.2.2.2) else .inl (f2 W n s.1, plS W n s.1)
theorem X_formula {W : Nat → Int} {n J j U st : Nat} {M : KM} (hJ : lastT W n J) (hV : ∀ p, tkK W n p = 2 → 0 ≤ tkV W n p ∧ tkV W n p ≤ 9999) (h : RC W n J j M) (hU : M 15 15 = (U : Int)) (hst : M 24 1 = (st : Int)) (hj : st + 1 ≤ j) :
    Ret (f_Reader_formula M) (fun q => Sum.elim (fun e : Int × Nat => q.1 = 0 ∧ fC e.1 e.2 q.2) (fun r : Nat × Nat × RL => q.1 = 1 ∧ RC W n J r.1 q.2 ∧ q.2 15 15 = (r.2.1 : Int) ∧ q.2 24 1 = ((st + r.2.2.length + 1 : Nat) : Int) ∧ (∀ i y, r.2.2[i]? = some y → q.2 25 (st + i) = encC y) ∧ q.2 25 (st + r.2.2.length) = 0 ∧ st + r.2.2.length + 1 ≤ r.1) (rulP W n j U) ∧ Fp (pXs st) M q.2) := by
  unfold f_Reader_formula rulP
  have ne := exP_ne W n 70 0 0 (j, 0, U, []) (by omega) (by omega) (by omega)
  cases hy : exP W n 70 0 0 (j, 0, U, []) with
  | none => exact absurd hy ne
  | some y =>
    have hc : CX W n J st (j, 0, U, []) (mupd M 14 8 0) := ⟨RC.congr h (mupd_ne2 _ _ (by omega)) (mupd_ne2 _ _ (by omega)) (fun c h1 h2 => by funext z; rw [mupd_ne _ _ (by omega)]), by rw [mupd_same]; rfl, by rw [mupd_ne _ _ (by omega)]; exact hU, by rw [mupd_ne _ _ (by omega)]; exact hst, fun i q hi => (by cases hi), by show st + 0 + 1 ≤ j; omega⟩
    have f0 : Fp (pXs st) M (mupd M 14 8 0) := Fp.rf.upd (Or.inl ⟨rfl, by omega⟩)
    refine Ret.letM (Ret.bind (X_par hJ hV 70 0 0 _ _ y hc hy (by omega)) ?_)
    rintro q ⟨q1, q2⟩
    cases y with
    | inr f =>
      obtain ⟨a1, a2⟩ : q.1 = 0 ∧ fC f.1 f.2 q.2 := q1
      exact Ret.t a1 (Ret.pure ⟨⟨rfl, a2⟩, f0.tr q2⟩)
    | inl s =>
      obtain ⟨a1, a2⟩ : q.1 = 1 ∧ CX W n J st s q.2 := q1
      have K := exP_K hJ hV 70 0 0 _ s h.2.2.2.1 hy
      have sl := K.2.2.1
      have sl : j + s.2.2.2.length ≤ s.1 + 0 := sl
      have prog : j < s.1 := K.1
      refine Ret.f (by omega) ?_
      obtain ⟨c1, c2, c3, c4, c5, c6⟩ := a2
      have hb := c1.2.2.2
      -- the stop
      refine Ret.bind (R := fun q3 => RC W n J s.1 q3 ∧ q3 15 15 = (s.2.2.1 : Int) ∧ q3 24 1 = ((st + s.2.2.2.length + 1 : Nat) : Int) ∧ (∀ i y, s.2.2.2[i]? = some y → q3 25 (st + i) = encC y) ∧ q3 25 (st + s.2.2.2.length) = 0 ∧ Fp (pXs st) M q3) ?_ ?_
      · unfold f_Formulas_add
        rw [c4, Int.toNat_natCast, letM_e, letM_e, mupd_ne _ _ (show (24 : Nat) ≠ 25 by omega), c4, w32e (by omega) (by omega)]
        refine Ret.bind (R := fun q3 => RC W n J s.1 q3 ∧ q3 15 15 = (s.2.2.1 : Int) ∧ q3 24 1 = ((st + s.2.2.2.length + 1 : Nat) : Int) ∧ (∀ i y, s.2.2.2[i]? = some y → q3 25 (st + i) = encC y) ∧ q3 25 (st + s.2.2.2.length) = 0 ∧ Fp (pXs st) M q3) (Ret.f (by omega) (Ret.t (by omega) (Ret.t (by omega) (Ret.pure ⟨RC.congr c1 ?_ ?_ ?_, ?_, ?_, fun i y hi => ?_, ?_, ?_⟩)))) (fun q hq => Ret.pure hq)
        · rw [mupd_ne _ _ (by omega), mupd_ne _ _ (by omega)]
        · rw [mupd_ne _ _ (by omega), mupd_ne _ _ (by omega)]
        · intro c h1 h2; funext z; rw [mupd_ne _ _ (by omega), mupd_ne _ _ (by omega)]
        · rw [mupd_ne _ _ (by omega), mupd_ne _ _ (by omega)]; exact c3
        · rw [mupd_same]; rfl
        · have hl : i < s.2.2.2.length := (List.getElem?_eq_some_iff.mp hi).1
          rw [mupd_ne _ _ (by omega), mupd_ne2 _ _ (by omega)]; exact c5 i y hi
        · rw [mupd_ne _ _ (by omega), mupd_same]
        · exact ((f0.tr q2).upd (Or.inr (Or.inr (Or.inr ⟨rfl, by omega⟩)))).upd (Or.inr (Or.inr (Or.inl ⟨rfl, rfl⟩)))
      rintro q3 ⟨d1, d2, d3, d4, d5, d6⟩
      refine Ret.bind (X_take d1 hJ (k := 59) (by decide)) ?_
      rintro q4 ⟨t1, t2⟩
      dsimp only
      by_cases h59 : kdJ W n s.1 = 59
      · rw [if_pos h59] at t1 ⊢
        refine Ret.t (by omega) (Ret.pure ⟨⟨t1.1, t1.2, ?_, ?_, fun i y hi => ?_, ?_, by show st + s.2.2.2.length + 1 ≤ s.1 + 1; omega⟩, d6.tr (t2.mono pTk_X)⟩)
        · dsimp only; rw [t2 15 15 (by unfold pTk; omega)]; exact d2
        · dsimp only; rw [t2 24 1 (by unfold pTk; omega)]; exact d3
        · dsimp only; rw [t2 25 _ (by unfold pTk; omega)]; exact d4 i y hi
        · dsimp only; rw [t2 25 _ (by unfold pTk; omega)]; exact d5
      · rw [if_neg h59] at t1 ⊢
        exact Ret.t (by omega) (Ret.pure ⟨⟨t1.1, t1.2⟩, d6.tr (t2.mono pTk_X)⟩)
theorem rulP_bad {W : Nat → Int} {n J j U rb bs cb : Nat} (hJ : lastT W n J) (hn : n ≤ 1600) (hV : ∀ p, tkK W n p = 2 → 0 ≤ tkV W n p ∧ tkV W n p ≤ 9999) (hW : TXR W) (hrb : rb < 2) (hbs : bs = 560 * rb + cb) {M : KM} (h : MX W n rb bs (j, 0, U, []) [(8, 0)] [] 0 M) (hj : j ≤ J) (hU : U ≤ 60) (hcb : cb ≤ 9 * U) :
    ∃ M', whileO eB (1, M) = some M' ∧ Fp (pExm rb bs) M M' ∧ Sum.elim (fun e : Int × Nat => fM e.1 e.2 M' ∧ e.1 ≠ 0 ∨ ∃ s : PSt, RM W n s.1 M' ∧ kdJ W n s.1 ≠ 59 ∧ e = (f2 W n s.1, plS W n s.1)) (fun r : Nat × Nat × RL => RM W n (r.1 - 1) M' ∧ 1 ≤ r.1 ∧ r.1 ≤ J ∧ kdJ W n (r.1 - 1) = 59 ∧ M' 388 rb = (r.2.1 : Int) ∧ U ≤ r.2.1 ∧ r.2.1 ≤ 60 ∧ M' 382 39 = ((bs + r.2.2.length : Nat) : Int) ∧ (∀ i q, r.2.2[i]? = some q → M' 406 (bs + i) = q.1 ∧ M' 407 (bs + i) = q.2) ∧ cb + r.2.2.length ≤ 9 * r.2.1 ∧ wfs r.2.2 0 = some 1 ∧ j < r.1) (rulP W n j U) := by
  have ne := exP_ne W n 70 0 0 (j, 0, U, []) (by omega) (by omega) (by omega)
  unfold rulP
  cases hy : exP W n 70 0 0 (j, 0, U, []) with
  | none => exact absurd hy ne
  | some y =>
    have o8 : opn [((8 : Int), (0 : Int))] = 0 := by decide
    have pre : preX W n cb 0 0 (j, 0, U, []) [] (8, 0) := by
      refine ⟨by decide, ⟨by decide, Or.inr (by decide)⟩, fun q => by omega, ?_, Nat.zero_le _, hU⟩
      show cb + 0 + opn [((8 : Int), (0 : Int))] ≤ 9 * U + 1 + 0
      omega
    have sim := S_all hJ hn hV hW hrb hbs 70 0 0 (j, 0, U, []) y [] (8, 0) M hy (by omega) (by omega) hj h pre
    cases y with
    | inr f =>
      obtain ⟨M', z1, z2, z3, z4⟩ := sim
      exact ⟨M', z1, z4, Or.inl ⟨z2, z3⟩⟩
    | inl s =>
      obtain ⟨pend, cm', M', z1, z2, z3, z4, z5, z6, z7, z8⟩ := sim
      have K := exP_K hJ hV 70 0 0 _ s hj hy
      have z4 : ∀ z, z ∈ pend → (1 : Int) ≤ z.1 ∧ z.1 ≤ 6 := z4
      have z7 : cb + s.2.2.2.length + 0 ≤ 9 * s.2.2.1 := z7
      have nl := nots_le pend
      have ll : ([((8 : Int), (0 : Int))] ++ pend).length ≤ 80 := by rw [List.length_append]; show 1 + pend.length ≤ 80; omega
      obtain ⟨o1, o2, o3, o4, o5⟩ := z6
      have hU2 := K.2.2.2.2.2.2.1
      have lc : bs + (cm' ++ emd pend).length ≤ 560 * rb + 560 := by rw [← z3]; omega
      by_cases hr4 : rkK (kdJ W n s.1) = 4
      · have h59 : kdJ W n s.1 ≠ 59 := fun q => by rw [q] at hr4; exact absurd hr4 (by decide)
        obtain ⟨A, x, B, c1, c2⟩ := o3 (by omega) hr4
        have hcm : f_M_isCompared M' = some 1 := by
          rw [c1] at z2 ll
          have z2 : MX W n rb bs s (((8 : Int), (0 : Int)) :: A ++ ((4 : Int), x) :: B) cm' (0 + nots (A ++ ((4 : Int), x) :: B)) M' := z2
          have := M_isCompared (A := ((8 : Int), (0 : Int)) :: A) (e := ((4 : Int), x)) (B := B) z2 (by show ([((8 : Int), (0 : Int))] ++ (A ++ ((4 : Int), x) :: B)).length ≤ 90; omega) c2 ⟨show (4 : Int) ≠ 5 by decide, show (4 : Int) ≠ 6 by decide⟩
          rw [this]; rfl
        obtain ⟨q', i1, i2, i3, i4⟩ := M_beh_cmp z2 hr4 hcm
        have hw2 := eB_beh z2.1.2.2 (by rw [z2.2.2.2.1.1]; show 0 < ((([((8 : Int), (0 : Int))] ++ pend).length : Nat) : Int); rw [List.length_append]; show 0 < ((1 + pend.length : Nat) : Int); omega) i1
        have f0 := f2_R W n s.1
        refine ⟨q'.2, by rw [z1, hw2]; exact eB_bad (fM_bad i3 (by omega)), z8.tr i4, ?_⟩
        dsimp only
        rw [if_neg h59]
        exact Or.inl ⟨i3, by show f2 W n s.1 ≠ 0; omega⟩
      · have hr0 : rkK (kdJ W n s.1) = 0 := by
          have a1 := o1 (by omega)
          have a2 := o2 (by omega)
          have a3 := o4 (by omega)
          have a4 := o5 (by omega)
          apply Classical.byContradiction
          intro hne
          have := rkK_R (k := kdJ W n s.1) rfl (by omega)
          omega
        obtain ⟨q', i1, i2, i3, i4⟩ := M_beh_all (a := 0) hrb z2 ll (fun x hx => by have := z4 x hx; omega) lc (by omega) hr0
        have hw2 := eB_beh z2.1.2.2 (by rw [z2.2.2.2.1.1]; show 0 < ((([((8 : Int), (0 : Int))] ++ pend).length : Nat) : Int); rw [List.length_append]; show 0 < ((1 + pend.length : Nat) : Int); omega) i1
        refine ⟨q'.2, ?_, z8.tr i4, ?_⟩
        · rw [z1, hw2]
          have : q' = (q'.1, q'.2) := rfl
          rw [this]
          exact eB_end (by rw [i3.2.2.2.1.1]; exact Int.le_refl _)
        · rw [← z3] at i3
          obtain ⟨m1, ⟨a1, a2, a3⟩, ⟨b1, b2⟩, -, -⟩ := i3
          dsimp only
          by_cases h59 : kdJ W n s.1 = 59
          · rw [if_pos h59]
            have hJ1 : s.1 + 1 ≤ J := nxS_J hJ K.2.1 (good_of h59 (by decide))
            have hw := K.2.2.2.2.2.2.2.2 0 rfl (Nat.zero_le _)
            have hu5 : s.2.1 + U = s.2.2.1 + 0 := K.2.2.2.2.1
            exact ⟨m1, by show 1 ≤ s.1 + 1; omega, hJ1, h59, a2, by show U ≤ s.2.2.1; omega, hU2, b1, b2, by show cb + s.2.2.2.length ≤ 9 * s.2.2.1; omega, hw, by show j < s.1 + 1; have : j < s.1 := K.1; omega⟩
          · rw [if_neg h59]
            exact Or.inr ⟨s, m1, h59, rfl⟩
