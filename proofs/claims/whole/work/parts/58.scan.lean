/-! TOKENS: the first side's scan -/
theorem kiand_255 (x : Int) : 0 ≤ kiand x 255 ∧ kiand x 255 < 256 := by
  unfold kiand
  have e : (Int32.ofInt x &&& Int32.ofInt 255).toBitVec.toNat ≤ 255 := by
    rw [Int32.toBitVec_and, BitVec.toNat_and]
    exact Nat.and_le_right
  have := i32_bv (Int32.ofInt x &&& Int32.ofInt 255) _ rfl (by omega)
  omega
/-- the text on the first side, on the second -/
def TXC (W : Nat → Int) (n : Nat) (M : KM) : Prop := n ≤ 1600 ∧ ∀ i, i < n → kiand (M 1 i) 255 = W i
def TXR (W : Nat → Int) : Prop := ∀ i, 0 ≤ W i ∧ W i < 256
theorem X_byteAt {W : Nat → Int} {n i : Nat} {M : KM} (h : TXC W n M) (hi : i < n) : f_Tokens_byteAt (i : Int) M = some (W i) := by
  have := h.1
  unfold f_Tokens_byteAt
  rw [if_neg (by omega), if_pos (by omega), if_pos (by omega), Int.toNat_natCast, h.2 i hi]; rfl
theorem X_byteAny (i : Nat) (M : KM) : ∃ y, f_Tokens_byteAt (i : Int) M = some y := by
  unfold f_Tokens_byteAt
  by_cases h : (i : Int) < 1600
  · rw [if_neg (by omega), if_pos h, if_pos (by omega)]; exact ⟨_, rfl⟩
  · rw [if_neg (by omega), if_neg h]; exact ⟨_, rfl⟩
theorem X_isBlank (c : Int) (M : KM) : f_Tokens_isBlank c M = some (if isBl c = true then 1 else 0) := by
  unfold f_Tokens_isBlank isBl
  by_cases h1 : c = 32
  · simp [h1]
  · by_cases h2 : c = 10 <;> simp [h1, h2]
theorem X_isLetter (c : Int) (M : KM) : f_Tokens_isLetter c M = some (if isLt c = true then 1 else 0) := by
  unfold f_Tokens_isLetter isLt
  by_cases h1 : c < 97
  · simp [h1]; omega
  · by_cases h2 : c ≤ 122
    · simp [h1, h2, Int.not_lt.mp h1]
    · simp [h1, h2]
theorem X_isDigit (c : Int) (M : KM) : f_Tokens_isDigit c M = some (if isDg c = true then 1 else 0) := by
  unfold f_Tokens_isDigit isDg
  by_cases h1 : c < 48
  · simp [h1]; omega
  · by_cases h2 : c ≤ 57
    · simp [h1, h2, Int.not_lt.mp h1]
    · simp [h1, h2]
theorem rn_steps {f : Int → Bool} {W : Nat → Int} {n p i : Nat} (hi : i < rnE f W n p - p) : f (W (p + i)) = true ∧ p + i < n := rnE_mid (i := p) (by omega) (by omega)
theorem rn_stop {f : Int → Bool} {W : Nat → Int} {n p : Nat} : ¬ (p + (rnE f W n p - p) < n ∧ f (W (p + (rnE f W n p - p))) = true) := by
  have := rnE_le (f := f) (W := W) (n := n) (i := p)
  rw [show p + (rnE f W n p - p) = rnE f W n p by omega]
  exact rnE_end
/-- what stays in the scan -/
def scF (M M' : KM) : Prop := ∀ c, c ≠ 27 → c ≠ 28 → c ≠ 29 → c ≠ 30 → c ≠ 31 → M' c = M c
theorem TXC.congr {W : Nat → Int} {n : Nat} {M M' : KM} (h : TXC W n M) (he : M' 1 = M 1) : TXC W n M' := ⟨h.1, fun i hi => by rw [he]; exact h.2 i hi⟩
theorem numV_s (W : Nat → Int) (p i : Nat) : numV (wrd W p (i + 1)) = numV (wrd W p i) * 10 + (W (p + i) - 48) := by
  rw [wrd_s]; unfold numV; rw [List.foldl_append]; rfl
theorem X_scanNumber {W : Nat → Int} {n p k : Nat} {M : KM} (h : TXC W n M) (hp : p < n) (h5 : M 27 5 = (p : Int)) (h4 : M 27 4 = (k : Int)) (hk : k < 1601) (hl : isLt (W p) = false) (hd : isDg (W p) = true) : Ret (f_Tokens_scanNumber (n : Int) M) (fun q => q.1 = tkK W n p ∧ q.2 27 5 = (tkE W n p : Int) ∧ q.2 27 4 = (k : Int) ∧ (tkK W n p = 2 → q.2 30 k = tkV W n p) ∧ (∀ j, j ≠ k → q.2 30 j = M 30 j) ∧ ∀ c, c ≠ 27 → c ≠ 30 → q.2 c = M c) := by
  have hn := h.1
  have eE : tkE W n p = rnE isDg W n p := by unfold tkE; rw [if_neg (by omega), if_neg (by rw [hl]; simp), if_pos hd]
  have le := rnE_le (f := isDg) (W := W) (n := n) (i := p)
  have len := rnE_n (f := isDg) (W := W) (n := n) (i := p) (by omega)
  unfold f_Tokens_scanNumber
  rw [h5]
  refine Ret.letI ?_
  generalize hN : rnE isDg W n p - p = N
  refine Ret.bind (R := fun e => (N ≤ 4 → e.1 = numV (wrd W p N)) ∧ e.2 27 5 = ((p + N : Nat) : Int) ∧ e.2 27 4 = (k : Int) ∧ ∀ c, c ≠ 27 → e.2 c = M c) (Ret.loop N (fun i s => (i ≤ 4 → s.1 = numV (wrd W p i) ∧ 0 ≤ s.1 ∧ s.1 ≤ 9999 ∧ (i ≤ 3 → s.1 ≤ 999) ∧ (i ≤ 2 → s.1 ≤ 99) ∧ (i ≤ 1 → s.1 ≤ 9) ∧ (i = 0 → s.1 = 0)) ∧ s.2 27 5 = ((p + i : Nat) : Int) ∧ s.2 27 4 = (k : Int) ∧ ∀ c, c ≠ 27 → s.2 c = M c) ⟨fun _ => ⟨rfl, by dsimp only; omega, by dsimp only; omega, fun _ => by dsimp only; omega, fun _ => by dsimp only; omega, fun _ => by dsimp only; omega, fun _ => rfl⟩, h5, h4, fun c _ => rfl⟩ ?_ ?_) ?_
  · rintro i s hi ⟨k1, k2, k3, k4⟩
    obtain ⟨g1, g2⟩ := rn_steps (f := isDg) (W := W) (n := n) (p := p) (i := i) (by omega)
    have hd2 := (isDg_iff _).mp g1
    have ht : TXC W n s.2 := h.congr (k4 1 (by omega))
    rw [k2, X_byteAt ht g2, ob_some, X_isDigit, ob_some, ob_some, if_pos g1, w32e (n := ((p + i : Nat) : Int) + 1) (by omega) (by omega)]
    refine Ret.t (by omega) (Ret.f (by omega) (Ret.letI (Ret.letM (Ret.pure ⟨fun h4' => ?_, by dsimp only; rw [mupd_same]; omega, by dsimp only; rw [mupd_ne2 _ _ (by omega)]; exact k3, fun c hc => by dsimp only; funext z; rw [mupd_ne _ _ hc, k4 c hc]⟩))))
    dsimp only
    obtain ⟨a1, a2, a3, a4, a5, a6, a7⟩ := k1 (by omega)
    rw [numV_s, ← a1]
    have := a4 (by omega)
    rw [w32e (n := s.1 * 10) (by omega) (by omega), w32e (n := W (p + i) - 48) (by omega) (by omega), w32e (by omega) (by omega)]
    refine ⟨rfl, by omega, by omega, fun _ => ?_, fun _ => ?_, fun _ => ?_, fun _ => by omega⟩
    · have := a5 (by omega); omega
    · have := a6 (by omega); omega
    · have := a7 (by omega); omega
  · rintro s ⟨k1, k2, k3, k4⟩
    have hst := rn_stop (f := isDg) (W := W) (n := n) (p := p)
    rw [hN] at hst
    have fin : (N ≤ 4 → s.1 = numV (wrd W p N)) ∧ s.2 27 5 = ((p + N : Nat) : Int) ∧ s.2 27 4 = (k : Int) ∧ ∀ c, c ≠ 27 → s.2 c = M c := ⟨fun h4' => (k1 h4').1, k2, k3, k4⟩
    refine Ret.br (fun hc => ?_) (fun hc => Ret.pure fin)
    have hc' : p + N < n := by rw [k2] at hc; omega
    have ht : TXC W n s.2 := h.congr (k4 1 (by omega))
    rw [k2, X_byteAt ht hc', ob_some, X_isDigit, ob_some, if_neg (fun q => hst ⟨hc', q⟩)]
    exact Ret.t rfl (Ret.pure fin)
  rintro e8 ⟨e1, e2, e3, e4⟩
  rw [e3, putM_nat _ _ _ _ hk, letM_e, mupd_ne _ _ (show (27 : Nat) ≠ 30 by omega), e2, w32e (n := ((p + N : Nat) : Int) - p) (by omega) (by omega)]
  have hE : tkE W n p = p + N := by omega
  have hW : tkW W n p = wrd W p N := by unfold tkW; rw [hE, show p + N - p = N by omega]
  have hK : tkK W n p = if N ≤ 4 ∧ ¬ (p + N < n ∧ isLt (W (p + N)) = true) then 2 else 0 := by
    unfold tkK
    rw [if_neg (by omega), if_neg (by rw [hl]; simp), if_pos hd, hE, show p + N - p = N by omega]
  have hfr : ∀ c, c ≠ 27 → c ≠ 30 → mupd e8.2 30 k e8.1 c = M c := fun c h1 h2 => by funext z; rw [mupd_ne _ _ h2, e4 c h1]
  refine Ret.bind (R := fun y => y = if p + N < n ∧ isLt (W (p + N)) = true then 1 else 0) (Ret.br (fun hc => ?_) (fun hc => Ret.pure (if_neg (fun q => hc (by omega))).symm)) ?_
  · have hc' : p + N < n := by omega
    have ht : TXC W n (mupd e8.2 30 k e8.1) := h.congr (hfr 1 (by omega) (by omega))
    rw [X_byteAt ht hc', ob_some, X_isLetter, ob_some]
    by_cases hq : isLt (W (p + N)) = true
    · rw [if_pos hq]; exact Ret.f (by omega) (Ret.pure (if_pos ⟨hc', hq⟩).symm)
    · rw [if_neg hq]; exact Ret.t rfl (Ret.pure (if_neg (fun q => hq q.2)).symm)
  rintro y rfl
  refine Ret.bind (R := fun y => y = tkK W n p) ?_ ?_
  · rw [hK]
    by_cases hq : p + N < n ∧ isLt (W (p + N)) = true
    · rw [if_pos hq, if_neg (show ¬ (N ≤ 4 ∧ ¬ (p + N < n ∧ isLt (W (p + N)) = true)) from fun z => z.2 hq)]; exact Ret.f (by omega) (Ret.pure rfl)
    · rw [if_neg hq]
      refine Ret.t rfl (Ret.br (fun hc => Ret.pure (if_pos ⟨by omega, hq⟩).symm) (fun hc => Ret.pure (if_neg (fun z => hc (by omega))).symm))
  rintro y rfl
  refine Ret.pure ⟨rfl, by dsimp only; rw [mupd_ne _ _ (show (27 : Nat) ≠ 30 by omega), e2, hE], by dsimp only; rw [mupd_ne _ _ (show (27 : Nat) ≠ 30 by omega), e3], fun h2 => ?_, fun j hj => by dsimp only; rw [mupd_ne2 _ _ hj, e4 30 (by omega)], hfr⟩
  dsimp only
  rw [mupd_same]
  unfold tkV
  rw [hW]
  refine e1 ?_
  rw [hK] at h2
  by_cases hq : N ≤ 4 ∧ ¬ (p + N < n ∧ isLt (W (p + N)) = true)
  · exact hq.1
  · rw [if_neg hq] at h2; omega
/-! which word -/
def wkS (L : List Int) : List Nat → Int → Int → Option Int
  | [], _, _ => none
  | c :: cs, w, s => if c = 32 then (if s = (L.length : Int) then some w else wkS L cs (w + 1) 0) else wkS L cs w (if (0 ≤ s ∧ s < (L.length : Int)) ∧ L[s.toNat]? = some (c : Int) then s + 1 else -1)
theorem wkS_neg (L : List Int) (cs : List Nat) (w : Int) : ∀ u : List Nat, (∀ c, c ∈ u → c ≠ 32) → wkS L (u ++ 32 :: cs) w (-1) = wkS L cs (w + 1) 0 := by
  intro u
  induction u with
  | nil =>
    intro _
    show (if 32 = 32 then (if (-1 : Int) = (L.length : Int) then some w else wkS L cs (w + 1) 0) else _) = _
    rw [if_pos rfl, if_neg (by omega)]
  | cons c u ih =>
    intro h
    show (if c = 32 then _ else wkS L (u ++ 32 :: cs) w (if (0 ≤ (-1 : Int) ∧ (-1 : Int) < (L.length : Int)) ∧ L[(-1 : Int).toNat]? = some (c : Int) then (-1 : Int) + 1 else -1)) = _
    rw [if_neg (h c List.mem_cons_self), if_neg (fun q => by omega)]
    exact ih fun x hx => h x (List.mem_cons_of_mem _ hx)
theorem wkS_run (L : List Int) (cs : List Nat) (w : Int) : ∀ (u : List Nat) (P K : List Int), (∀ c, c ∈ u → c ≠ 32) → L = P ++ K → wkS L (u ++ 32 :: cs) w (P.length : Int) = if u.map (fun c : Nat => (c : Int)) = K then some w else wkS L cs (w + 1) 0 := by
  intro u
  induction u with
  | nil =>
    intro P K _ hL
    show (if 32 = 32 then (if (P.length : Int) = (L.length : Int) then some w else wkS L cs (w + 1) 0) else _) = _
    rw [if_pos rfl]
    refine ifc ?_
    rw [hL, List.length_append]
    constructor
    · intro h
      have : K.length = 0 := by omega
      exact (List.length_eq_zero_iff.mp this).symm
    · intro h
      have h : [] = K := h
      rw [← h]; simp
  | cons c u ih =>
    intro P K h hL
    show (if c = 32 then _ else wkS L (u ++ 32 :: cs) w (if (0 ≤ (P.length : Int) ∧ (P.length : Int) < (L.length : Int)) ∧ L[(P.length : Int).toNat]? = some (c : Int) then (P.length : Int) + 1 else -1)) = _
    rw [if_neg (h c List.mem_cons_self), Int.toNat_natCast]
    have hu := fun x hx => h x (List.mem_cons_of_mem _ hx)
    cases K with
    | nil =>
      rw [List.append_nil] at hL
      rw [if_neg (fun q => by rw [hL] at q; omega), wkS_neg L cs w u hu, if_neg (by simp)]
    | cons d K =>
      have e1 : L[P.length]? = some d := by rw [hL, List.getElem?_append_right (Nat.le_refl _), Nat.sub_self]; rfl
      have e2 : (P.length : Int) < (L.length : Int) := by rw [hL, List.length_append, List.length_cons]; omega
      rw [e1]
      by_cases hdc : d = (c : Int)
      · rw [if_pos ⟨⟨by omega, e2⟩, by rw [hdc]⟩]
        have := ih (P ++ [d]) K hu (by rw [hL, List.append_assoc]; rfl)
        rw [List.length_append] at this
        rw [show (P.length : Int) + 1 = ((P.length + [d].length : Nat) : Int) by simp, this]
        refine ifc ?_
        rw [List.map_cons, List.cons.injEq]
        exact ⟨fun q => ⟨hdc.symm, q⟩, fun q => q.2⟩
      · rw [if_neg (fun q => hdc (Option.some.inj q.2)), wkS_neg L cs w u hu, if_neg]
        rw [List.map_cons, List.cons.injEq]
        exact fun q => hdc q.1.symm
def catW : List (List Nat) → List Nat
  | [] => []
  | u :: us => u ++ 32 :: catW us
theorem wkS_cat (L : List Int) : ∀ (us : List (List Nat)) (i : Nat), (∀ u, u ∈ us → ∀ c, c ∈ u → c ≠ 32) → wkS L (catW us) (i : Int) 0 = (wdF L (us.map fun u => u.map fun c : Nat => (c : Int)) i).map fun j : Nat => (j : Int) := by
  intro us
  induction us with
  | nil => intro i _; rfl
  | cons u us ih =>
    intro i h
    have h1 := wkS_run L (catW us) (i : Int) u [] L (h u List.mem_cons_self) rfl
    have h2 := ih (i + 1) fun x hx => h x (List.mem_cons_of_mem _ hx)
    show wkS L (u ++ 32 :: catW us) (i : Int) 0 = (if u.map (fun c : Nat => (c : Int)) = L then some i else wdF L (us.map fun u => u.map fun c : Nat => (c : Int)) (i + 1)).map _
    have e : wkS L (u ++ 32 :: catW us) (i : Int) 0 = wkS L (u ++ 32 :: catW us) (i : Int) (([] : List Int).length : Int) := rfl
    rw [e, h1]
    by_cases hu : u.map (fun c : Nat => (c : Int)) = L
    · rw [if_pos hu, if_pos hu]; rfl
    · rw [if_neg hu, if_neg hu, ← h2]; rfl
def WDN : List (List Nat) := [[112, 101, 114, 115, 111, 110], [97, 103, 101], [99, 111, 105, 110], [110, 101, 101, 100], [102, 97, 109, 105, 108, 121], [102, 114, 105, 101, 110, 100], [116, 111], [112, 114, 105, 99, 101], [114, 105, 103, 104, 116], [111, 100, 100, 115], [97, 103, 101, 115], [100, 114, 97, 119], [111, 114], [97, 110, 100], [110, 111, 116], [121, 101, 97, 114]]
theorem wk_all (L : List Int) : wkS L kswords 0 0 = (wdF L WDS 0).map fun j : Nat => (j : Int) := wkS_cat L WDN 0 (by decide)
theorem X_wordKind {W : Nat → Int} {n p k : Nat} {M : KM} (h : TXC W n M) (hk : p + k ≤ n) (h5 : M 27 5 = ((p + k : Nat) : Int)) (hk8 : k ≤ 8) : f_Tokens_wordKind (p : Int) M = some (wKd (wrd W p k)) := by
  have hn := h.1
  have hl := wrd_len W p k
  have hg := fun {i : Nat} (hi : i < k) => wrd_get (W := W) (p := p) hi
  have hwk := wk_all (wrd W p k)
  refine Ret.some_of ?_
  unfold f_Tokens_wordKind
  have e81 : kslen0 = 81 := by decide
  rw [h5, e81, w32e (n := ((p + k : Nat) : Int) - p) (by omega) (by omega)]
  refine Ret.bind (R := fun e : Int ⊕ Unit => Sum.elim (fun w : Int => wkS (wrd W p k) kswords 0 0 = some w ∧ 0 ≤ w ∧ w ≤ 81) (fun _ => wkS (wrd W p k) kswords 0 0 = none) e) ?_ ?_
  · refine Ret.loop 81 (fun i s => s.2.2 = (i : Int) ∧ wkS (wrd W p k) (kswords.drop i) s.1 s.2.1 = wkS (wrd W p k) kswords 0 0 ∧ (0 ≤ s.1 ∧ s.1 ≤ (i : Int)) ∧ -1 ≤ s.2.1 ∧ s.2.1 ≤ 8) ⟨rfl, rfl, by dsimp only; omega, by dsimp only; omega, by dsimp only; omega⟩ ?_ ?_
    · rintro i s hi ⟨k1, k2, k3, k4, k5⟩
      have hlen : kswords.length = 81 := by decide
      have hdr : kswords.drop i = kswords[i]'(by omega) :: kswords.drop (i + 1) := List.drop_eq_getElem_cons (by omega)
      have hch : kschar0 (i : Int) = ((kswords[i]'(by omega) : Nat) : Int) := by
        unfold kschar0
        rw [Int.toNat_natCast, List.getD_eq_getElem?_getD, List.getElem?_eq_getElem (by omega)]; rfl
      rw [hdr] at k2
      rw [k1, hch, w32e (n := (i : Int) + 1) (by omega) (by omega)]
      generalize kswords[i]'(by omega) = c at k2 ⊢
      have k2' : (if c = 32 then (if s.2.1 = ((wrd W p k).length : Int) then some s.1 else wkS (wrd W p k) (kswords.drop (i + 1)) (s.1 + 1) 0) else wkS (wrd W p k) (kswords.drop (i + 1)) s.1 (if (0 ≤ s.2.1 ∧ s.2.1 < ((wrd W p k).length : Int)) ∧ (wrd W p k)[s.2.1.toNat]? = some (c : Int) then s.2.1 + 1 else -1)) = wkS (wrd W p k) kswords 0 0 := k2
      rw [hl] at k2'
      refine Ret.t (by omega) (Ret.t (by omega) (Ret.letI (Ret.br (fun hc => ?_) (fun hc => ?_))))
      · rw [if_pos (by omega)] at k2'
        refine Ret.br (fun hs => Ret.pure ?_) (fun hs => Ret.pure ?_)
        · rw [if_pos (by omega)] at k2'
          exact ⟨k2'.symm, k3.1, by omega⟩
        · rw [if_neg (by omega)] at k2'
          rw [w32e (n := s.1 + 1) (by omega) (by omega)]
          exact ⟨rfl, k2', by dsimp only; omega, by dsimp only; omega, by dsimp only; omega⟩
      · rw [if_neg (by omega)] at k2'
        refine Ret.bind (R := fun y => y = if (0 ≤ s.2.1 ∧ s.2.1 < (k : Int)) ∧ (wrd W p k)[s.2.1.toNat]? = some (c : Int) then s.2.1 + 1 else -1) ?_ ?_
        · refine Ret.br (fun h1 => Ret.pure (if_neg (fun q => by omega)).symm) (fun h1 => Ret.br (fun h2 => ?_) (fun h2 => Ret.pure (if_neg (fun q => by omega)).symm))
          have hlt : s.2.1.toNat < k := by omega
          rw [w32e (n := (p : Int) + s.2.1) (by omega) (by omega), show (p : Int) + s.2.1 = ((p + s.2.1.toNat : Nat) : Int) by omega, X_byteAt h (by omega), ob_some, hg hlt]
          refine Ret.br (fun h3 => Ret.pure ?_) (fun h3 => Ret.pure (if_neg (fun q => h3 (Option.some.inj q.2))).symm)
          rw [if_pos ⟨by omega, by rw [h3]⟩, w32e (by omega) (by omega)]
        · rintro y rfl
          refine Ret.pure ⟨rfl, k2', by dsimp only; omega, ?_, ?_⟩
          · dsimp only; split <;> omega
          · dsimp only; split <;> omega
    · rintro s ⟨k1, k2, k3, k4, k5⟩
      rw [k1]
      refine Ret.f (by omega) (Ret.pure ?_)
      have : kswords.drop 81 = [] := by decide
      rw [this] at k2
      exact k2.symm
  · rintro (w | u) he
    · have he : wkS (wrd W p k) kswords 0 0 = some w ∧ 0 ≤ w ∧ w ≤ 81 := he
      refine Ret.pure ?_
      rw [hwk] at he
      unfold wKd
      cases hw : wdF (wrd W p k) WDS 0 with
      | none => rw [hw] at he; cases he.1
      | some j =>
        rw [hw] at he
        have hj : ((j : Nat) : Int) = w := Option.some.inj he.1
        dsimp only
        rw [← hj, w32e (by omega) (by omega)]
    · have he : wkS (wrd W p k) kswords 0 0 = none := he
      refine Ret.pure ?_
      rw [hwk] at he
      unfold wKd
      cases hw : wdF (wrd W p k) WDS 0 with
      | none => rfl
      | some j => rw [hw] at he; cases he
theorem ltrs_run {W : Nat → Int} {n p k : Nat} (h : k ≤ rnE isLt W n p - p) : ltrs (wrd W p k) := fun c hc => by
  unfold wrd at hc
  rw [List.mem_map] at hc
  obtain ⟨i, hi, rfl⟩ := hc
  have := List.mem_range.mp hi
  exact (isLt_iff _).mp (rn_steps (f := isLt) (W := W) (n := n) (p := p) (i := i) (by omega)).1
theorem w64e {n : Int} (h1 : -9223372036854775808 ≤ n) (h2 : n < 9223372036854775808) : w64 n = n := w64_id ⟨h1, h2⟩
theorem nmC_8 {L : List Int} (h : ltrs L) (h8 : L.length ≤ 8) : 0 ≤ nmC L ∧ nmC L < 282429536481 := by
  have := nm_R h 8 h8
  have e : (27 : Nat) ^ 8 = 282429536481 := by decide
  rw [e] at this
  omega
theorem X_scanWord {W : Nat → Int} {n p k : Nat} {M : KM} (h : TXC W n M) (hp : p < n) (h5 : M 27 5 = (p : Int)) (h4 : M 27 4 = (k : Int)) (hk : k < 1601) (hl : isLt (W p) = true) : Ret (f_Tokens_scanWord (n : Int) M) (fun q => q.1 = tkK W n p ∧ q.2 27 5 = (tkE W n p : Int) ∧ q.2 27 4 = (k : Int) ∧ (1 ≤ tkK W n p → q.2 31 k = nmC (tkW W n p)) ∧ (∀ j, j ≠ k → q.2 31 j = M 31 j) ∧ ∀ c, c ≠ 27 → c ≠ 31 → q.2 c = M c) := by
  have hn := h.1
  have eE : tkE W n p = rnE isLt W n p := by unfold tkE; rw [if_neg (by omega), if_pos hl]
  have le := rnE_le (f := isLt) (W := W) (n := n) (i := p)
  have len := rnE_n (f := isLt) (W := W) (n := n) (i := p) (by omega)
  unfold f_Tokens_scanWord
  rw [h5]
  refine Ret.letI ?_
  generalize hN : rnE isLt W n p - p = N
  have hlt : ∀ i, i ≤ N → ltrs (wrd W p i) := fun i hi => ltrs_run (n := n) (by omega)
  refine Ret.bind (R := fun e => (N ≤ 8 → e.1 = nmC (wrd W p N)) ∧ e.2 27 5 = ((p + N : Nat) : Int) ∧ e.2 27 4 = (k : Int) ∧ ∀ c, c ≠ 27 → e.2 c = M c) (Ret.loop N (fun i s => (i ≤ 8 → s.1 = nmC (wrd W p i)) ∧ s.2 27 5 = ((p + i : Nat) : Int) ∧ s.2 27 4 = (k : Int) ∧ ∀ c, c ≠ 27 → s.2 c = M c) ⟨fun _ => rfl, h5, h4, fun c _ => rfl⟩ ?_ ?_) ?_
  · rintro i s hi ⟨k1, k2, k3, k4⟩
    obtain ⟨g1, g2⟩ := rn_steps (f := isLt) (W := W) (n := n) (p := p) (i := i) (by omega)
    have hd2 := (isLt_iff _).mp g1
    have ht : TXC W n s.2 := h.congr (k4 1 (by omega))
    rw [k2, X_byteAt ht g2, ob_some, X_isLetter, ob_some, ob_some, if_pos g1, w32e (n := ((p + i : Nat) : Int) + 1) (by omega) (by omega)]
    refine Ret.t (by omega) (Ret.f (by omega) (Ret.letM (Ret.pure ⟨fun h4' => ?_, by dsimp only; rw [mupd_same]; omega, by dsimp only; rw [mupd_ne2 _ _ (by omega)]; exact k3, fun c hc => by dsimp only; funext z; rw [mupd_ne _ _ hc, k4 c hc]⟩)))
    dsimp only
    have a1 := k1 (by omega)
    have r1 := nmC_8 (hlt i (by omega)) (by rw [wrd_len]; omega)
    have r2 := nmC_8 (hlt (i + 1) (by omega)) (by rw [wrd_len]; omega)
    have e : nmC (wrd W p (i + 1)) = nmC (wrd W p i) * 27 + (W (p + i) - 96) := by rw [wrd_s]; exact nmv_s 27 96 _ _
    rw [a1, w32e (n := W (p + i) - 97) (by omega) (by omega), w32e (n := W (p + i) - 97 + 1) (by omega) (by omega), w64e (n := nmC (wrd W p i) * 27) (by omega) (by omega), w64e (by omega) (by omega), e]
    omega
  · rintro s ⟨k1, k2, k3, k4⟩
    have hst := rn_stop (f := isLt) (W := W) (n := n) (p := p)
    rw [hN] at hst
    refine Ret.br (fun hc => ?_) (fun hc => Ret.pure ⟨k1, k2, k3, k4⟩)
    have hc' : p + N < n := by rw [k2] at hc; omega
    have ht : TXC W n s.2 := h.congr (k4 1 (by omega))
    rw [k2, X_byteAt ht hc', ob_some, X_isLetter, ob_some, if_neg (fun q => hst ⟨hc', q⟩)]
    exact Ret.t rfl (Ret.pure ⟨k1, k2, k3, k4⟩)
  rintro e7 ⟨e1, e2, e3, e4⟩
  have hE : tkE W n p = p + N := by omega
  have hW : tkW W n p = wrd W p N := by unfold tkW; rw [hE, show p + N - p = N by omega]
  have hK : tkK W n p = if N ≤ 8 then wKd (wrd W p N) else 0 := by
    unfold tkK
    rw [if_neg (by omega), if_pos hl, hW, hE, show p + N - p = N by omega]
  rw [e2, e3, w32e (n := ((p + N : Nat) : Int) - p) (by omega) (by omega)]
  by_cases h8 : N ≤ 8
  · refine Ret.t (by omega) ?_
    rw [if_pos h8] at hK
    refine Ret.bind (R := fun M9 => M9 = mupd e7.2 31 k e7.1) (Ret.f (by omega) (Ret.t (by omega) (Ret.t (by omega) (Ret.letM (Ret.pure (by rw [Int.toNat_natCast])))))) ?_
    rintro M9 rfl
    have hfr : ∀ c, c ≠ 27 → c ≠ 31 → mupd e7.2 31 k e7.1 c = M c := fun c h1 h2 => by funext z; rw [mupd_ne _ _ h2, e4 c h1]
    have ht : TXC W n (mupd e7.2 31 k e7.1) := h.congr (hfr 1 (by omega) (by omega))
    have e27 : mupd e7.2 31 k e7.1 27 = e7.2 27 := by funext z; rw [mupd_ne _ _ (by omega)]
    rw [X_wordKind ht (k := N) (by omega) (by rw [e27]; exact e2) h8]
    refine Ret.pure ⟨hK.symm, by dsimp only; rw [e27, e2, hE], by dsimp only; rw [e27, e3], fun _ => ?_, fun j hj => by dsimp only; rw [mupd_ne2 _ _ hj, e4 31 (by omega)], hfr⟩
    dsimp only
    rw [mupd_same, hW]; exact e1 h8
  · rw [if_neg h8] at hK
    refine Ret.f (by omega) (Ret.pure ⟨hK.symm, by dsimp only; rw [e2, hE], e3, fun hc => by rw [hK] at hc; omega, fun j hj => by dsimp only; rw [e4 31 (by omega)], fun c h1 h2 => e4 c h1⟩)
theorem ks_sign : ∀ c : Nat, c < 256 → (ksidx1 (kc16 (c : Int)) < 0 ↔ (c : Int) ∉ sgL) := by decide +kernel
/-- tokens 0 .. J lie in the rows -/
def SCN (W : Nat → Int) (n : Nat) (J : Nat) (M : KM) : Prop := ∀ k, k < J → M 28 k = tkK W n (plS W n k) ∧ M 29 k = (plS W n k : Int) ∧ (tkK W n (plS W n k) = 2 → M 30 k = tkV W n (plS W n k)) ∧ (tkK W n (plS W n k) = 1 → M 31 k = nmC (tkW W n (plS W n k)))
theorem X_scan {W : Nat → Int} {n : Nat} {M : KM} (h : TXC W n M) (hW : TXR W) : Ret (f_Tokens_scan (n : Int) M) (fun q => ∃ J, lastT W n J ∧ SCN W n (J + 1) q ∧ scF M q) := by
  have hn := h.1
  unfold f_Tokens_scan
  refine Ret.letM (Ret.letM ?_)
  refine Ret.bind (R := fun q => ∃ J, lastT W n J ∧ SCN W n (J + 1) q ∧ scF M q) ?_ (fun q hq => Ret.pure hq)
  refine Ret.loop (n + 1) (fun i s => s.2.1 = (i : Int) ∧ (∀ k, k + 1 < i → good (tkK W n (plS W n k))) ∧ s.1 = (if i = 0 then 1 else tkK W n (plS W n (i - 1))) ∧ s.2.2 27 4 = (i : Int) ∧ s.2.2 27 5 = ((if i = 0 then 0 else tkE W n (plS W n (i - 1)) : Nat) : Int) ∧ SCN W n i s.2.2 ∧ scF M s.2.2) ⟨rfl, fun k hk => by omega, rfl, by dsimp only; rw [mupd_ne2 _ _ (by omega), mupd_same]; rfl, by dsimp only; rw [mupd_same]; rfl, fun k hk => absurd hk (Nat.not_lt_zero _), fun c h1 _ _ _ _ => by dsimp only; funext z; rw [mupd_ne _ _ h1, mupd_ne _ _ h1]⟩ ?_ ?_
  · rintro i s hi ⟨k1, k2, k3, k4, k5, k6, k7⟩
    have fin : i ≠ 0 → ¬ good (tkK W n (plS W n (i - 1))) → ∃ J, lastT W n J ∧ SCN W n (J + 1) s.2.2 ∧ scF M s.2.2 := fun h0 hg => ⟨i - 1, ⟨fun k hk => k2 k (by omega), hg⟩, by rw [show i - 1 + 1 = i by omega]; exact k6, k7⟩
    rw [k1, k3, w32e (n := (i : Int) + 1) (by omega) (by omega)]
    refine Ret.t (by omega) (Ret.br (fun h3 => Ret.pure (fin (fun e => by rw [if_pos e] at h3; omega) fun g => ?_)) fun h3 => Ret.br (fun h0 => Ret.pure (fin (fun e => by rw [if_pos e] at h0; omega) fun g => ?_)) fun h0 => ?_)
    · by_cases e : i = 0
      · rw [if_pos e] at h3; omega
      · rw [if_neg e] at h3; exact g.2 h3
    · by_cases e : i = 0
      · rw [if_pos e] at h0; omega
      · rw [if_neg e] at h0; exact g.1 h0
    have kg : ∀ k, k < i → good (tkK W n (plS W n k)) := fun k hk => by
      by_cases hki : k + 1 < i
      · exact k2 k hki
      · have e : i - 1 = k := by omega
        rw [if_neg (by omega), e] at h3 h0
        exact ⟨h0, h3⟩
    have pi := plS_ge i kg
    have pn := plS_n W n i
    have ep : plS W n i = skB W n (if i = 0 then 0 else tkE W n (plS W n (i - 1))) := by
      cases i with
      | zero => rfl
      | succ i => rw [if_neg (by omega)]; rfl
    have ein : (if i = 0 then 0 else tkE W n (plS W n (i - 1))) ≤ n := by
      split
      · omega
      · rename_i h0'
        have hg := kg (i - 1) (by omega)
        rcases tkK_R W n (plS W n (i - 1)) with ⟨e, _⟩ | ⟨h2, _⟩
        · exact absurd e hg.2
        · exact (tkE_gt h2).2
    generalize (if i = 0 then 0 else tkE W n (plS W n (i - 1))) = b0 at k5 ep ein
    have lb := skB_le (W := W) (n := n) (i := b0)
    rw [← ep] at lb
    -- the blanks
    refine Ret.bind (R := fun q => q 27 5 = (plS W n i : Int) ∧ q 27 4 = (i : Int) ∧ ∀ c, c ≠ 27 → q c = s.2.2 c) (Ret.loop (plS W n i - b0) (fun j q => q 27 5 = ((b0 + j : Nat) : Int) ∧ q 27 4 = (i : Int) ∧ ∀ c, c ≠ 27 → q c = s.2.2 c) ⟨k5, k4, fun c _ => rfl⟩ ?_ ?_) ?_
    · rintro j q hj ⟨q1, q2, q3⟩
      obtain ⟨g1, g2⟩ := rn_steps (f := isBl) (W := W) (n := n) (p := b0) (i := j) (by rw [ep] at hj; exact hj)
      have ht : TXC W n q := h.congr (by rw [q3 1 (by omega), k7 1 (by omega) (by omega) (by omega) (by omega) (by omega)])
      rw [q1, X_byteAt ht g2, ob_some, X_isBlank, ob_some, if_pos g1, w32e (n := ((b0 + j : Nat) : Int) + 1) (by omega) (by omega)]
      exact Ret.t (by omega) (Ret.f (by omega) (Ret.letM (Ret.pure ⟨by show mupd _ _ _ _ _ _ = _; rw [mupd_same]; omega, by show mupd _ _ _ _ _ _ = _; rw [mupd_ne2 _ _ (by omega)]; exact q2, fun c hc => by show mupd _ _ _ _ _ = _; funext z; rw [mupd_ne _ _ hc, q3 c hc]⟩)))
    · rintro q ⟨q1, q2, q3⟩
      have fin2 : q 27 5 = (plS W n i : Int) ∧ q 27 4 = (i : Int) ∧ ∀ c, c ≠ 27 → q c = s.2.2 c := ⟨by rw [q1]; omega, q2, q3⟩
      have hst := rn_stop (f := isBl) (W := W) (n := n) (p := b0)
      have e1 : rnE isBl W n b0 = plS W n i := ep.symm
      rw [e1] at hst
      refine Ret.br (fun hc => ?_) (fun hc => Ret.pure fin2)
      have hc' : b0 + (plS W n i - b0) < n := by rw [q1] at hc; omega
      have ht : TXC W n q := h.congr (by rw [q3 1 (by omega), k7 1 (by omega) (by omega) (by omega) (by omega) (by omega)])
      rw [q1, X_byteAt ht hc', ob_some, X_isBlank, ob_some, if_neg (fun z => hst ⟨hc', z⟩)]
      exact Ret.t rfl (Ret.pure fin2)
    rintro q8 ⟨q1, q2, q3⟩
    have fr8 : scF M q8 := fun c a1 a2 a3 a4 a5 => by rw [q3 c a1, k7 c a1 a2 a3 a4 a5]
    rw [q1, q2, putM_nat _ _ _ _ (show i < 1601 by omega)]
    refine Ret.letM ?_
    have m5 : mupd q8 29 i (plS W n i : Int) 27 5 = (plS W n i : Int) := by rw [mupd_ne _ _ (by omega), q1]
    have m4 : mupd q8 29 i (plS W n i : Int) 27 4 = (i : Int) := by rw [mupd_ne _ _ (by omega), q2]
    have s29 : ∀ k, k < i + 1 → mupd q8 29 i (plS W n i : Int) 29 k = (plS W n k : Int) := fun k hk => by
      by_cases hki : k = i
      · subst hki; exact mupd_same _ _ _ _
      · rw [mupd_ne2 _ _ hki, q3 29 (by omega)]; exact (k6 k (by omega)).2.1
    have frO : ∀ c, c ≠ 27 → c ≠ 29 → mupd q8 29 i (plS W n i : Int) c = s.2.2 c := fun c a1 a2 => by funext z; rw [mupd_ne _ _ a2, q3 c a1]
    have fr9 : scF M (mupd q8 29 i (plS W n i : Int)) := fun c a1 a2 a3 a4 a5 => by funext z; rw [mupd_ne _ _ a3, fr8 c a1 a2 a3 a4 a5]
    generalize mupd q8 29 i (plS W n i : Int) = M9 at m5 m4 s29 frO fr9 ⊢
    have ht9 : TXC W n M9 := h.congr (fr9 1 (by omega) (by omega) (by omega) (by omega) (by omega))
    rw [m5]
    obtain ⟨y, hy⟩ := X_byteAny (plS W n i) M9
    rw [hy, ob_some]
    refine Ret.bind (R := fun e => e.1 = tkK W n (plS W n i) ∧ e.2 27 5 = (tkE W n (plS W n i) : Int) ∧ e.2 27 4 = (i : Int) ∧ (tkK W n (plS W n i) = 2 → e.2 30 i = tkV W n (plS W n i)) ∧ (tkK W n (plS W n i) = 1 → e.2 31 i = nmC (tkW W n (plS W n i))) ∧ (∀ j, j ≠ i → e.2 30 j = M9 30 j) ∧ (∀ j, j ≠ i → e.2 31 j = M9 31 j) ∧ ∀ c, c ≠ 27 → c ≠ 30 → c ≠ 31 → e.2 c = M9 c) ?_ ?_
    · refine Ret.br (fun hc => ?_) (fun hc => Ret.pure ?_)
      · have hpn : plS W n i < n := by omega
        have yW : y = W (plS W n i) := by
          have := X_byteAt ht9 hpn
          rw [hy] at this
          exact Option.some.inj this
        rw [yW, X_isLetter, ob_some]
        by_cases hl : isLt (W (plS W n i)) = true
        · rw [if_pos hl]
          refine Ret.f (by omega) ?_
          refine Ret.bind (X_scanWord ht9 hpn m5 m4 (by omega) hl) ?_
          rintro e ⟨e1, e2, e3, e4, e5, e6⟩
          refine Ret.pure ⟨e1, e2, e3, fun h2 => ?_, fun h1 => e4 (by omega), fun j hj => by dsimp only; rw [e6 30 (by omega) (by omega)], e5, fun c a1 _ a3 => e6 c a1 a3⟩
          rcases tkK_R W n (plS W n i) with ⟨z, _⟩ | ⟨_, z | ⟨z, _⟩ | ⟨_, z, _⟩ | ⟨z, _⟩ | ⟨j, _, z, _⟩⟩
          · omega
          · omega
          · omega
          · rw [hl] at z; cases z
          · omega
          · omega
        · rw [if_neg hl]
          refine Ret.t rfl ?_
          rw [Bool.not_eq_true] at hl
          rw [X_isDigit, ob_some]
          by_cases hd : isDg (W (plS W n i)) = true
          · rw [if_pos hd]
            refine Ret.f (by omega) ?_
            refine Ret.bind (X_scanNumber ht9 hpn m5 m4 (by omega) hl hd) ?_
            rintro e ⟨e1, e2, e3, e4, e5, e6⟩
            refine Ret.pure ⟨e1, e2, e3, e4, fun h1 => ?_, e5, fun j hj => by dsimp only; rw [e6 31 (by omega) (by omega)], fun c a1 a2 _ => e6 c a1 a2⟩
            rcases tkK_R W n (plS W n i) with ⟨z, _⟩ | ⟨_, z | ⟨_, z, _⟩ | ⟨z, _⟩ | ⟨z, _⟩ | ⟨j, _, z, _⟩⟩
            · omega
            · omega
            · rw [hl] at z; cases z
            · omega
            · omega
            · omega
          · rw [if_neg hd]
            refine Ret.t rfl (Ret.letM ?_)
            rw [Bool.not_eq_true] at hd
            have eE : tkE W n (plS W n i) = plS W n i + 1 := by unfold tkE; rw [if_neg (by omega), if_neg (by rw [hl]; simp), if_neg (by rw [hd]; simp)]
            have eK : tkK W n (plS W n i) = if W (plS W n i) ∈ sgL then W (plS W n i) else 0 := by unfold tkK; rw [if_neg (by omega), if_neg (by rw [hl]; simp), if_neg (by rw [hd]; simp)]
            have wr := hW (plS W n i)
            obtain ⟨c, hc⟩ := Int.eq_ofNat_of_zero_le wr.1
            have ks := ks_sign c (by omega)
            rw [← hc] at ks
            refine Ret.bind (R := fun y => y = tkK W n (plS W n i)) ?_ ?_
            · rw [eK]
              refine Ret.br (fun hc => Ret.pure (if_neg (ks.mp hc)).symm) (fun hc => Ret.pure (if_pos ?_).symm)
              exact Classical.byContradiction fun q => hc (ks.mpr q)
            rintro y' rfl
            have kr : tkK W n (plS W n i) ≠ 1 ∧ tkK W n (plS W n i) ≠ 2 := by
              rw [eK]
              split
              · rename_i hs
                have := sgL_R hs
                omega
              · omega
            rw [w32e (by omega) (by omega)]
            refine Ret.pure ⟨rfl, by dsimp only; rw [mupd_same, eE]; omega, by dsimp only; rw [mupd_ne2 _ _ (by omega)]; exact m4, fun h2 => absurd h2 kr.2, fun h1 => absurd h1 kr.1, fun j _ => by dsimp only; rw [mupd_ne _ _ (by omega)], fun j _ => by dsimp only; rw [mupd_ne _ _ (by omega)], fun c a1 _ _ => by dsimp only; funext z; rw [mupd_ne _ _ a1]⟩
      · have hge : n ≤ plS W n i := by omega
        have eK : tkK W n (plS W n i) = 3 := by unfold tkK; rw [if_pos hge]
        have eE : tkE W n (plS W n i) = plS W n i := by unfold tkE; rw [if_pos hge]
        exact ⟨eK.symm, by dsimp only; rw [m5, eE], m4, fun h2 => by omega, fun h1 => by omega, fun j _ => rfl, fun j _ => rfl, fun c _ _ _ => rfl⟩
    rintro e ⟨e1, e2, e3, e4, e5, e6, e7, e8⟩
    rw [e1, e3, putM_nat _ _ _ _ (show i < 1601 by omega)]
    refine Ret.letM (Ret.letM (Ret.pure ⟨rfl, fun k hk => kg k (by omega), by rw [if_neg (by omega)]; rfl, ?_, ?_, fun k hk => ?_, fun c a1 a2 a3 a4 a5 => ?_⟩))
    · dsimp only
      rw [mupd_same, mupd_ne _ _ (by omega), e3, w32e (by omega) (by omega)]; rfl
    · dsimp only
      rw [mupd_ne2 _ _ (by omega), mupd_ne _ _ (by omega), e2, if_neg (by omega)]; rfl
    · dsimp only
      rw [mupd_ne _ _ (show (28 : Nat) ≠ 27 by omega), mupd_ne _ _ (show (29 : Nat) ≠ 27 by omega), mupd_ne _ _ (show (29 : Nat) ≠ 28 by omega), mupd_ne _ _ (show (30 : Nat) ≠ 27 by omega), mupd_ne _ _ (show (30 : Nat) ≠ 28 by omega), mupd_ne _ _ (show (31 : Nat) ≠ 27 by omega), mupd_ne _ _ (show (31 : Nat) ≠ 28 by omega), e8 29 (by omega) (by omega) (by omega), s29 k hk]
      by_cases hki : k = i
      · subst hki
        rw [mupd_same]
        exact ⟨rfl, rfl, e4, e5⟩
      · obtain ⟨z1, z2, z3, z4⟩ := k6 k (by omega)
        rw [mupd_ne2 _ _ hki, e8 28 (by omega) (by omega) (by omega), frO 28 (by omega) (by omega), e6 k hki, e7 k hki, frO 30 (by omega) (by omega), frO 31 (by omega) (by omega)]
        exact ⟨z1, rfl, z3, z4⟩
    · dsimp only
      funext z
      rw [mupd_ne _ _ a1, mupd_ne _ _ a2, e8 c a1 a4 a5, fr9 c a1 a2 a3 a4 a5]
  · rintro s ⟨k1, k2, k3, k4, k5, k6, k7⟩
    rw [k1]
    refine Ret.f (by omega) (Ret.pure ⟨n, ⟨fun k hk => k2 k (by omega), fun hg => ?_⟩, k6, k7⟩)
    have := plS_ge (W := W) (n := n) (n + 1) (fun k hk => by
      by_cases hkn : k = n
      · rw [hkn]; exact hg
      · exact k2 k (by omega))
    have := plS_n W n (n + 1)
    omega
