/-! TOKENS: the second side goes on from one to the next -/
def TXM (W : Nat → Int) (n : Nat) (M : KM) : Prop := n ≤ 1600 ∧ M 382 3 = (n : Int) ∧ ∀ i, i < n → kiand (M 384 i) 255 = W i
def pGo (k j : Nat) : Prop := k = 382 ∧ 6 ≤ j ∧ j ≤ 10
theorem TXM.congr {W : Nat → Int} {n : Nat} {M M' : KM} (h : TXM W n M) (h3 : M' 382 3 = M 382 3) (he : M' 384 = M 384) : TXM W n M' := ⟨h.1, by rw [h3]; exact h.2.1, fun i hi => by rw [he]; exact h.2.2 i hi⟩
theorem TXM.go {W : Nat → Int} {n : Nat} {M M' : KM} (h : TXM W n M) (hf : Fp pGo M M') : TXM W n M' := h.congr (hf 382 3 (fun q => by have := q.2.1; omega)) (hf.row fun j q => by have := q.1; omega)
theorem M_sign {W : Nat → Int} {n : Nat} {M : KM} (h : TXM W n M) (i : Nat) : f_M_sign (i : Int) M = some (if i < n then W i else 0) := by
  have := h.1
  unfold f_M_sign
  rw [h.2.1]
  by_cases hi : i < n
  · rw [if_pos (by omega), if_pos (by omega), Int.toNat_natCast, h.2.2 i hi, if_pos hi]; rfl
  · rw [if_neg (by omega), if_neg hi]; rfl
theorem M_isLetter (c : Int) (M : KM) : f_M_isLetter c M = some (if isLt c = true then 1 else 0) := X_isLetter c M
theorem M_isDigit (c : Int) (M : KM) : f_M_isDigit c M = some (if isDg c = true then 1 else 0) := X_isDigit c M
theorem M_isSign (c : Int) (M : KM) : f_M_isSign c M = some (if c ∈ sgL then 1 else 0) := by
  refine Ret.some_of ?_
  unfold f_M_isSign
  refine Ret.bind (R := fun y => y = if c ∈ sgL then 1 else 0) ?_ ?_
  · have hm : c ∈ sgL ↔ c = 59 ∨ c = 40 ∨ c = 41 ∨ c = 60 ∨ c = 62 ∨ c = 61 ∨ c = 43 ∨ c = 45 ∨ c = 42 ∨ c = 47 ∨ c = 37 := by unfold sgL; simp
    have yes : c ∈ sgL → Ret (some (1 : Int)) (fun y => y = if c ∈ sgL then 1 else 0) := fun q => Ret.pure (if_pos q).symm
    refine Ret.br (fun h => yes (hm.mpr (by omega))) fun h1 => Ret.br (fun h => yes (hm.mpr (by omega))) fun h2 => Ret.br (fun h => yes (hm.mpr (by omega))) fun h3 => Ret.br (fun h => yes (hm.mpr (by omega))) fun h4 => Ret.br (fun h => yes (hm.mpr (by omega))) fun h5 => Ret.br (fun h => yes (hm.mpr (by omega))) fun h6 => Ret.br (fun h => yes (hm.mpr (by omega))) fun h7 => Ret.br (fun h => yes (hm.mpr (by omega))) fun h8 => Ret.br (fun h => yes (hm.mpr (by omega))) fun h9 => Ret.br (fun h => yes (hm.mpr (by omega))) fun h10 => Ret.br (fun h => yes (hm.mpr (by omega))) fun h11 => Ret.pure (if_neg (fun q => ?_)).symm
    have := hm.mp q
    omega
  · rintro y rfl
    exact Ret.t (by split <;> omega) (Ret.pure rfl)
theorem klcmp0 {x y : Int} : klcmp x y = 0 ↔ x = y := by
  unfold klcmp
  by_cases h : x < y
  · rw [if_pos h]; omega
  · rw [if_neg h]
    by_cases h2 : x = y
    · rw [if_pos h2]; omega
    · rw [if_neg h2]; omega
theorem wKd_1 {L : List Int} (h : wKd L = 1) : ∀ (i : Nat) (u : List Int), WDS[i]? = some u → L ≠ u := fun i u hu e => by
  subst e
  have hi : i < 16 := (List.getElem?_eq_some_iff.mp hu).1
  have := (wd_iff hi).mpr hu
  unfold wKd at h
  rw [this] at h
  dsimp only at h
  omega
theorem WDS_lt : ∀ (i : Nat) (u : List Int), WDS[i]? = some u → ltrs u := fun i u hu => by
  have hi : i < 16 := (List.getElem?_eq_some_iff.mp hu).1
  have key : ∀ i, i < 16 → ∀ c, c ∈ (WDS[i]?).getD [] → 97 ≤ c ∧ c ≤ 122 := by decide +kernel
  have := key i hi
  rw [hu] at this
  exact this
theorem M_isKept {L : List Int} (hL : ltrs L) (M : KM) : f_M_isKept (nmM L) M = some (if wKd L = 1 then 0 else 1) := by
  have fin : ∀ (x : Option Int) (y : Int), x = some y → (0 ≤ y ∧ y ≤ 1) → Option.bind x (fun t2 => (if 0 ≤ t2 ∧ t2 ≤ 1 then some t2 else none)) = some y := fun x y h h2 => by rw [h, ob_some, if_pos h2]
  rcases wKd_R L with ⟨h1, h2⟩ | ⟨i, h1, h2, h3⟩
  · rw [if_pos h1]
    have key : ∀ (i : Nat) (u : List Int), WDS[i]? = some u → nmM L ≠ nmM u := fun i u hu e => wKd_1 h1 i u hu ((nmM_inj hL (WDS_lt i u hu)).mp e)
    have k0 : nmM L ≠ 123581014175598 := fun e => key 0 _ rfl (e.trans (by decide))
    have k1 : nmM L ≠ 6383461 := fun e => key 1 _ rfl (e.trans (by decide))
    have k2 : nmM L ≠ 1668245870 := fun e => key 2 _ rfl (e.trans (by decide))
    have k3 : nmM L ≠ 1852138852 := fun e => key 3 _ rfl (e.trans (by decide))
    have k4 : nmM L ≠ 112568633486457 := fun e => key 4 _ rfl (e.trans (by decide))
    have k5 : nmM L ≠ 112641580559972 := fun e => key 5 _ rfl (e.trans (by decide))
    have k6 : nmM L ≠ 29807 := fun e => key 6 _ rfl (e.trans (by decide))
    have k7 : nmM L ≠ 482955846501 := fun e => key 7 _ rfl (e.trans (by decide))
    have k8 : nmM L ≠ 491394656372 := fun e => key 8 _ rfl (e.trans (by decide))
    have k9 : nmM L ≠ 1868850291 := fun e => key 9 _ rfl (e.trans (by decide))
    have k10 : nmM L ≠ 1634166131 := fun e => key 10 _ rfl (e.trans (by decide))
    have k11 : nmM L ≠ 1685217655 := fun e => key 11 _ rfl (e.trans (by decide))
    have k12 : nmM L ≠ 28530 := fun e => key 12 _ rfl (e.trans (by decide))
    have k13 : nmM L ≠ 6385252 := fun e => key 13 _ rfl (e.trans (by decide))
    have k14 : nmM L ≠ 7237492 := fun e => key 14 _ rfl (e.trans (by decide))
    have k15 : nmM L ≠ 2036687218 := fun e => key 15 _ rfl (e.trans (by decide))
    unfold f_M_isKept
    simp only [klcmp0, k0, k1, k2, k3, k4, k5, k6, k7, k8, k9, k10, k11, k12, k13, k14, k15, if_false, ob_some, if_true]
    rfl
  · rw [if_neg (by omega)]
    have all : ∀ i, i < 16 → ∀ u, WDS[i]? = some u → f_M_isKept (nmM u) M = some 1 := by
      intro i hi u hu
      have : i = 0 ∨ i = 1 ∨ i = 2 ∨ i = 3 ∨ i = 4 ∨ i = 5 ∨ i = 6 ∨ i = 7 ∨ i = 8 ∨ i = 9 ∨ i = 10 ∨ i = 11 ∨ i = 12 ∨ i = 13 ∨ i = 14 ∨ i = 15 := by omega
      rcases this with h | h | h | h | h | h | h | h | h | h | h | h | h | h | h | h <;> subst h <;> cases hu <;> rfl
    exact all i h1 L h3
def tkT (k : Int) : Int := if k = 3 then 0 else if k = 0 then 1 else if k = 1 then 2 else if k = 2 then 4 else if 128 ≤ k then 3 else 5
/-- the second side stands at the token at p -/
def PTM (W : Nat → Int) (n p : Nat) (M : KM) : Prop := M 382 6 = (p : Int) ∧ M 382 7 = (tkE W n p : Int) ∧ M 382 8 = tkT (tkK W n p) ∧ (tkK W n p = 2 → M 382 9 = tkV W n p) ∧ (tkK W n p = 1 ∨ 128 ≤ tkK W n p → M 382 10 = nmM (tkW W n p))
theorem tkW_lt {W : Nat → Int} {n p : Nat} (hp : p < n) (hl : isLt (W p) = true) : ltrs (tkW W n p) := by
  have eE : tkE W n p = rnE isLt W n p := by unfold tkE; rw [if_neg (by omega), if_pos hl]
  unfold tkW
  rw [eE]
  exact ltrs_run (n := n) (Nat.le_refl _)
theorem w64_shor {a c : Int} (ha : 0 ≤ a) (ha2 : a < 36028797018963968) (hc : 0 ≤ c) (hc2 : c < 256) : klor (klshl a 8) c = a * 256 + c := by
  obtain ⟨x, rfl⟩ := Int.eq_ofNat_of_zero_le ha
  obtain ⟨y, rfl⟩ := Int.eq_ofNat_of_zero_le hc
  have toN : ∀ z : Nat, z < 9223372036854775808 → (Int64.ofInt (z : Int)).toBitVec.toNat = z := fun z hz => by
    rw [Int64.toBitVec_ofInt]
    have : BitVec.ofInt 64 (z : Int) = BitVec.ofNat 64 z := BitVec.ofInt_natCast ..
    rw [this, BitVec.toNat_ofNat]; omega
  have toI : ∀ (w : Int64) (z : Nat), w.toBitVec.toNat = z → z < 9223372036854775808 → w.toInt = z := fun w z h h2 => by
    rw [← Int64.toInt_toBitVec, BitVec.toInt_eq_toNat_of_lt (by omega), h]
  have es : klshl (x : Int) 8 = ((x * 256 : Nat) : Int) := by
    unfold klshl
    refine toI _ _ ?_ (by omega)
    have e : (Int64.ofInt (x : Int) <<< ((Int32.ofInt 8).toInt64 &&& 63)).toBitVec = (Int64.ofInt (x : Int)).toBitVec <<< (((Int32.ofInt 8).toInt64 &&& 63).toBitVec.smod 64#64) := rfl
    rw [e, show ((Int32.ofInt 8).toInt64 &&& 63).toBitVec.smod 64#64 = 8#64 by decide +kernel]
    show ((Int64.ofInt (x : Int)).toBitVec <<< (8#64).toNat).toNat = _
    rw [BitVec.toNat_shiftLeft, toN x (by omega)]
    show (x <<< 8) % 2 ^ 64 = x * 256
    rw [Nat.shiftLeft_eq]; omega
  rw [es]
  unfold klor
  have e2 : (x * 256 + y : Int) = ((x * 256 + y : Nat) : Int) := by omega
  rw [e2]
  refine toI _ _ ?_ (by omega)
  rw [Int64.toBitVec_or, BitVec.toNat_or, toN _ (by omega), toN _ (by omega)]
  have := Nat.shiftLeft_add_eq_or_of_lt (i := 8) (b := y) (by omega) x
  rw [Nat.shiftLeft_eq] at this
  exact this.symm
theorem nmM_7 {L : List Int} (h : ltrs L) (h7 : L.length ≤ 7) : 0 ≤ nmM L ∧ nmM L < 36028797018963968 := by
  have := nm_R h 7 h7
  have e : (256 : Nat) ^ (7 - 1) = 281474976710656 := by decide
  rw [e] at this
  omega
theorem M_goOn {W : Nat → Int} {n e0 : Nat} {M : KM} (h : TXM W n M) (hW : TXR W) (he : M 382 7 = (e0 : Int)) (hen : e0 ≤ n) : Ret (f_M_goOn M) (fun q => PTM W n (skB W n e0) q ∧ Fp pGo M q) := by
  have hn := h.1
  have lb := skB_le (W := W) (n := n) (i := e0)
  have ln := skB_n (W := W) hen
  unfold f_M_goOn
  rw [he]
  refine Ret.letM ?_
  generalize hp : skB W n e0 = p at lb ln ⊢
  refine Ret.bind (R := fun q => q 382 6 = (p : Int) ∧ Fp pGo M q) (Ret.loop (p - e0) (fun i q => q 382 6 = ((e0 + i : Nat) : Int) ∧ Fp pGo M q) ⟨by rw [mupd_same]; rfl, Fp.rf.upd ⟨rfl, by omega, by omega⟩⟩ ?_ ?_) ?_
  · rintro i q hi ⟨q1, q2⟩
    obtain ⟨g1, g2⟩ := rn_steps (f := isBl) (W := W) (n := n) (p := e0) (i := i) (by have : rnE isBl W n e0 = p := hp; omega)
    have ht := h.go q2
    have b := (isBl_iff _).mp g1
    rw [q1, ht.2.1, M_sign ht, ob_some, ob_some, if_pos g2, w32e (n := ((e0 + i : Nat) : Int) + 1) (by omega) (by omega)]
    refine Ret.t (by omega) (Ret.br (fun h1 => Ret.letM (Ret.pure ⟨?_, q2.upd ⟨rfl, by omega, by omega⟩⟩)) fun h1 => Ret.t (by omega) (Ret.letM (Ret.pure ⟨?_, q2.upd ⟨rfl, by omega, by omega⟩⟩)))
    · rw [mupd_same]; omega
    · rw [mupd_same]; omega
  · rintro q ⟨q1, q2⟩
    have ht := h.go q2
    have fin : q 382 6 = (p : Int) ∧ Fp pGo M q := ⟨by rw [q1]; omega, q2⟩
    have hst := rn_stop (f := isBl) (W := W) (n := n) (p := e0)
    have e1 : rnE isBl W n e0 = p := hp
    rw [e1] at hst
    rw [q1, ht.2.1, M_sign ht, ob_some, ob_some]
    refine Ret.br (fun hc => ?_) (fun hc => Ret.pure fin)
    have hc' : e0 + (p - e0) < n := by omega
    rw [if_pos hc']
    have nb : ¬ (W (e0 + (p - e0)) = 32 ∨ W (e0 + (p - e0)) = 10) := fun z => hst ⟨hc', (isBl_iff _).mpr z⟩
    exact Ret.f (by omega) (Ret.f (by omega) (Ret.pure fin))
  rintro e7 ⟨a1, a2⟩
  have ht7 := h.go a2
  rw [a1, M_sign ht7, ob_some, w32e (n := (p : Int) + 1) (by omega) (by omega)]
  refine Ret.letM ?_
  have m6 : mupd e7 382 7 ((p : Int) + 1) 382 6 = (p : Int) := by rw [mupd_ne2 _ _ (by omega)]; exact a1
  have m7 : mupd e7 382 7 ((p : Int) + 1) 382 7 = ((p + 1 : Nat) : Int) := by rw [mupd_same]; rfl
  have m8 : Fp pGo M (mupd e7 382 7 ((p : Int) + 1)) := a2.upd ⟨rfl, by omega, by omega⟩
  generalize mupd e7 382 7 ((p : Int) + 1) = M9 at m6 m7 m8 ⊢
  have ht9 := h.go m8
  refine Ret.bind (R := fun q => PTM W n p q ∧ Fp pGo M q) ?_ (fun q hq => Ret.pure hq)
  rw [m6, ht9.2.1]
  by_cases hpn : p < n
  · refine Ret.t (by omega) ?_
    rw [if_pos hpn, M_isLetter, ob_some]
    by_cases hl : isLt (W p) = true
    · rw [if_pos hl]
      refine Ret.f (by omega) ?_
      have eE : tkE W n p = rnE isLt W n p := by unfold tkE; rw [if_neg (by omega), if_pos hl]
      have eN : rnE isLt W n p = rnE isLt W n (p + 1) := rnE_s hpn hl
      have le := rnE_le (f := isLt) (W := W) (n := n) (i := p + 1)
      have len := rnE_n (f := isLt) (W := W) (n := n) (i := p + 1) (by omega)
      generalize hN : rnE isLt W n p - p = N
      have hE : tkE W n p = p + N := by omega
      have hWd : tkW W n p = wrd W p N := by unfold tkW; rw [hE, show p + N - p = N by omega]
      have hlt : ∀ i, i ≤ N → ltrs (wrd W p i) := fun i hi => ltrs_run (n := n) (by omega)
      refine Ret.bind (R := fun q => q 382 6 = (p : Int) ∧ q 382 7 = ((p + N : Nat) : Int) ∧ Fp pGo M q) (Ret.loop (N - 1) (fun i q => q 382 6 = (p : Int) ∧ q 382 7 = ((p + 1 + i : Nat) : Int) ∧ Fp pGo M q) ⟨m6, m7, m8⟩ ?_ ?_) ?_
      · rintro i q hi ⟨q1, q2, q3⟩
        obtain ⟨g1, g2⟩ := rn_steps (f := isLt) (W := W) (n := n) (p := p) (i := i + 1) (by omega)
        have ht := h.go q3
        rw [q2, M_sign ht, ob_some, show p + 1 + i = p + (i + 1) by omega, if_pos g2, M_isLetter, ob_some, if_pos g1, w32e (n := ((p + (i + 1) : Nat) : Int) + 1) (by omega) (by omega)]
        exact Ret.f (by omega) (Ret.letM (Ret.pure ⟨by show mupd _ _ _ _ _ _ = _; rw [mupd_ne2 _ _ (by omega)]; exact q1, by show mupd _ _ _ _ _ _ = _; rw [mupd_same]; omega, q3.upd ⟨rfl, by omega, by omega⟩⟩))
      · rintro q ⟨q1, q2, q3⟩
        have ht := h.go q3
        have hst := rn_stop (f := isLt) (W := W) (n := n) (p := p)
        rw [hN] at hst
        rw [q2, M_sign ht, ob_some, show p + 1 + (N - 1) = p + N by omega, M_isLetter, ob_some]
        refine Ret.t ?_ (Ret.pure ⟨q1, by rw [q2]; omega, q3⟩)
        by_cases hc : p + N < n
        · rw [if_pos hc, if_neg (fun z => hst ⟨hc, z⟩)]
        · rw [if_neg hc]; rfl
      rintro e33 ⟨b1, b2, b3⟩
      refine Ret.letM ?_
      have c6 : mupd e33 382 10 0 382 6 = (p : Int) := by rw [mupd_ne2 _ _ (by omega)]; exact b1
      rw [c6]
      refine Ret.letI ?_
      refine Ret.bind (R := fun q => q 382 6 = (p : Int) ∧ q 382 7 = ((p + N : Nat) : Int) ∧ (N ≤ 8 → q 382 10 = nmM (wrd W p N)) ∧ Fp pGo M q) (Ret.loop (min N 8) (fun i s => s.1 = ((p + i : Nat) : Int) ∧ s.2 382 6 = (p : Int) ∧ s.2 382 7 = ((p + N : Nat) : Int) ∧ s.2 382 10 = nmM (wrd W p i) ∧ Fp pGo M s.2) ⟨rfl, c6, by dsimp only; rw [mupd_ne2 _ _ (by omega)]; exact b2, by dsimp only; rw [mupd_same]; rfl, b3.upd ⟨rfl, by omega, by omega⟩⟩ ?_ ?_) ?_
      · rintro i s hi ⟨k1, k2, k3, k4, k5⟩
        obtain ⟨g1, g2⟩ := rn_steps (f := isLt) (W := W) (n := n) (p := p) (i := i) (by omega)
        have ht := h.go k5
        have r1 := nmM_7 (hlt i (by omega)) (by rw [wrd_len]; omega)
        have wr := hW (p + i)
        have e : nmM (wrd W p (i + 1)) = nmM (wrd W p i) * 256 + (W (p + i) - 0) := by rw [wrd_s]; exact nmv_s 256 0 _ _
        rw [k1, k2, k3, M_sign ht, ob_some, if_pos g2, k4, w64_shor r1.1 r1.2 wr.1 wr.2, w32e (n := (p : Int) + 8) (by omega) (by omega), w32e (n := ((p + i : Nat) : Int) + 1) (by omega) (by omega)]
        refine Ret.t (by omega) (Ret.t (by omega) (Ret.letM (Ret.pure ⟨by dsimp only; omega, by dsimp only; rw [mupd_ne2 _ _ (by omega)]; exact k2, by dsimp only; rw [mupd_ne2 _ _ (by omega)]; exact k3, by dsimp only; rw [mupd_same, e]; omega, k5.upd ⟨rfl, by omega, by omega⟩⟩)))
      · rintro s ⟨k1, k2, k3, k4, k5⟩
        have fin : s.2 382 6 = (p : Int) ∧ s.2 382 7 = ((p + N : Nat) : Int) ∧ (N ≤ 8 → s.2 382 10 = nmM (wrd W p N)) ∧ Fp pGo M s.2 := ⟨k2, k3, fun h8 => by rw [k4, show min N 8 = N by omega], k5⟩
        rw [k1, k2, k3, w32e (n := (p : Int) + 8) (by omega) (by omega)]
        exact Ret.br (fun _ => Ret.f (by omega) (Ret.pure fin)) fun _ => Ret.pure fin
      rintro e39 ⟨d1, d2, d3, d4⟩
      rw [d1, d2, w32e (n := ((p + N : Nat) : Int) - p) (by omega) (by omega)]
      have hK : tkK W n p = if N ≤ 8 then wKd (wrd W p N) else 0 := by
        unfold tkK
        rw [if_neg (by omega), if_pos hl, hWd, hE, show p + N - p = N by omega]
      refine Ret.bind (R := fun y => y = tkT (tkK W n p)) ?_ ?_
      · by_cases h8 : N ≤ 8
        · rw [if_pos h8] at hK
          rw [d3 h8, M_isKept (hlt N (Nat.le_refl _)), ob_some, hK]
          refine Ret.t (by omega) ?_
          rcases wKd_R (wrd W p N) with ⟨z, _⟩ | ⟨i, i1, z, _⟩
          · rw [z]; exact Ret.t rfl (Ret.pure rfl)
          · rw [z, if_neg (show ¬ (128 + (i : Int)) = 1 by omega)]
            refine Ret.f (by omega) (Ret.pure ?_)
            unfold tkT
            rw [if_neg (by omega), if_neg (by omega), if_neg (by omega), if_neg (by omega), if_pos (by omega)]
        · rw [if_neg h8] at hK
          rw [hK]
          exact Ret.f (by omega) (Ret.pure rfl)
      rintro y rfl
      refine Ret.letM (Ret.pure ⟨⟨by rw [mupd_ne2 _ _ (by omega)]; exact d1, by rw [mupd_ne2 _ _ (by omega), d2, hE], by rw [mupd_same], fun h2 => ?_, fun h1 => ?_⟩, d4.upd ⟨rfl, by omega, by omega⟩⟩)
      · rcases tkK_R W n p with ⟨z, _⟩ | ⟨_, z | ⟨z, _⟩ | ⟨_, z, _⟩ | ⟨z, _⟩ | ⟨j, _, z, _⟩⟩
        · omega
        · omega
        · omega
        · rw [hl] at z; cases z
        · omega
        · omega
      · rw [mupd_ne2 _ _ (by omega), hWd]
        refine d3 ?_
        by_cases h8 : N ≤ 8
        · exact h8
        · rw [if_neg h8] at hK; omega
    · rw [if_neg hl]
      refine Ret.t rfl ?_
      rw [M_isDigit, ob_some]
      rw [Bool.not_eq_true] at hl
      by_cases hd : isDg (W p) = true
      · rw [if_pos hd]
        refine Ret.f (by omega) (Ret.letM ?_)
        have eE : tkE W n p = rnE isDg W n p := by unfold tkE; rw [if_neg (by omega), if_neg (by rw [hl]; simp), if_pos hd]
        have le := rnE_le (f := isDg) (W := W) (n := n) (i := p)
        have len := rnE_n (f := isDg) (W := W) (n := n) (i := p) (by omega)
        generalize hN : rnE isDg W n p - p = N
        have hE : tkE W n p = p + N := by omega
        have hWd : tkW W n p = wrd W p N := by unfold tkW; rw [hE, show p + N - p = N by omega]
        have hK : tkK W n p = if N ≤ 4 ∧ ¬ (p + N < n ∧ isLt (W (p + N)) = true) then 2 else 0 := by
          unfold tkK
          rw [if_neg (by omega), if_neg (by rw [hl]; simp), if_pos hd, hE, show p + N - p = N by omega]
        have c6 : mupd M9 382 9 0 382 6 = (p : Int) := by rw [mupd_ne2 _ _ (by omega)]; exact m6
        rw [c6]
        refine Ret.letM ?_
        refine Ret.bind (R := fun q => q 382 6 = (p : Int) ∧ q 382 7 = ((p + N : Nat) : Int) ∧ (N ≤ 4 → q 382 9 = numV (wrd W p N)) ∧ Fp pGo M q) (Ret.loop N (fun i q => q 382 6 = (p : Int) ∧ q 382 7 = ((p + i : Nat) : Int) ∧ (i ≤ 4 → q 382 9 = numV (wrd W p i) ∧ 0 ≤ q 382 9 ∧ q 382 9 ≤ 9999 ∧ (i ≤ 3 → q 382 9 ≤ 999) ∧ (i ≤ 2 → q 382 9 ≤ 99) ∧ (i ≤ 1 → q 382 9 ≤ 9) ∧ (i = 0 → q 382 9 = 0)) ∧ Fp pGo M q) ⟨by rw [mupd_ne2 _ _ (by omega)]; exact c6, by rw [mupd_same]; rfl, fun _ => ?_, (m8.upd ⟨rfl, by omega, by omega⟩).upd ⟨rfl, by omega, by omega⟩⟩ ?_ ?_) ?_
        · rw [mupd_ne2 _ _ (by omega), mupd_same]
          exact ⟨rfl, by omega, by omega, fun _ => by omega, fun _ => by omega, fun _ => by omega, fun _ => rfl⟩
        · rintro i q hi ⟨q1, q2, q3, q4⟩
          obtain ⟨g1, g2⟩ := rn_steps (f := isDg) (W := W) (n := n) (p := p) (i := i) (by omega)
          have ht := h.go q4
          have dg := (isDg_iff _).mp g1
          rw [q1, q2, M_sign ht, ob_some, ob_some, if_pos g2, M_isDigit, ob_some, if_pos g1, w32e (n := ((p + i : Nat) : Int) - p) (by omega) (by omega)]
          refine Ret.f (by omega) ?_
          refine Ret.bind (R := fun q' => q' 382 6 = (p : Int) ∧ q' 382 7 = ((p + i : Nat) : Int) ∧ (i + 1 ≤ 4 → q' 382 9 = numV (wrd W p (i + 1)) ∧ 0 ≤ q' 382 9 ∧ q' 382 9 ≤ 9999 ∧ (i + 1 ≤ 3 → q' 382 9 ≤ 999) ∧ (i + 1 ≤ 2 → q' 382 9 ≤ 99) ∧ (i + 1 ≤ 1 → q' 382 9 ≤ 9) ∧ (i + 1 = 0 → q' 382 9 = 0)) ∧ Fp pGo M q') ?_ ?_
          · refine Ret.br (fun hc => Ret.letM (Ret.pure ⟨by rw [mupd_ne2 _ _ (by omega)]; exact q1, by rw [mupd_ne2 _ _ (by omega)]; exact q2, fun _ => ?_, q4.upd ⟨rfl, by omega, by omega⟩⟩)) (fun hc => Ret.pure ⟨q1, q2, fun h4 => by omega, q4⟩)
            obtain ⟨a1, a2, a3, a4, a5, a6, a7⟩ := q3 (by omega)
            have := a4 (by omega)
            rw [mupd_same, numV_s, ← a1]
            rw [w32e (n := 10 * q 382 9) (by omega) (by omega), w32e (n := 10 * q 382 9 + W (p + i)) (by omega) (by omega), w32e (by omega) (by omega)]
            refine ⟨by omega, by omega, by omega, fun _ => ?_, fun _ => ?_, fun _ => ?_, fun _ => by omega⟩
            · have := a5 (by omega); omega
            · have := a6 (by omega); omega
            · have := a7 (by omega); omega
          · rintro q' ⟨r1, r2, r3, r4⟩
            rw [r2, w32e (n := ((p + i : Nat) : Int) + 1) (by omega) (by omega)]
            refine Ret.letM (Ret.pure ⟨by show mupd _ _ _ _ _ _ = _; rw [mupd_ne2 _ _ (by omega)]; exact r1, by show mupd _ _ _ _ _ _ = _; rw [mupd_same]; omega, fun h4 => ?_, r4.upd ⟨rfl, by omega, by omega⟩⟩)
            have e9 : mupd q' 382 7 (((p + i : Nat) : Int) + 1) 382 9 = q' 382 9 := mupd_ne2 _ _ (by omega)
            rw [e9]; exact r3 h4
        · rintro q ⟨q1, q2, q3, q4⟩
          have ht := h.go q4
          have hst := rn_stop (f := isDg) (W := W) (n := n) (p := p)
          rw [hN] at hst
          rw [q2, M_sign ht, ob_some, M_isDigit, ob_some]
          refine Ret.t ?_ (Ret.pure ⟨q1, q2, fun h4 => (q3 h4).1, q4⟩)
          by_cases hc : p + N < n
          · rw [if_pos hc, if_neg (fun z => hst ⟨hc, z⟩)]
          · rw [if_neg hc]; rfl
        rintro e24 ⟨d1, d2, d3, d4⟩
        have ht := h.go d4
        rw [d1, d2, M_sign ht, ob_some, M_isLetter, ob_some, w32e (n := ((p + N : Nat) : Int) - p) (by omega) (by omega)]
        refine Ret.bind (R := fun y => y = tkT (tkK W n p)) ?_ ?_
        · rw [hK]
          refine Ret.br (fun h4 => Ret.br (fun hz => Ret.pure ?_) (fun hz => Ret.pure ?_)) (fun h4 => Ret.pure ?_)
          · have nq : ¬ (p + N < n ∧ isLt (W (p + N)) = true) := fun q => absurd hz (by rw [if_pos q.1, if_pos q.2]; decide)
            rw [if_pos ⟨by omega, nq⟩]; rfl
          · rw [if_neg (fun q => hz ?_)]; rfl
            by_cases hc : p + N < n
            · rw [if_pos hc, if_neg (fun z => q.2 ⟨hc, z⟩)]
            · rw [if_neg hc]; rfl
          · rw [if_neg (fun q => h4 (by omega))]; rfl
        rintro y rfl
        refine Ret.letM (Ret.pure ⟨⟨by rw [mupd_ne2 _ _ (by omega)]; exact d1, by rw [mupd_ne2 _ _ (by omega), d2, hE], by rw [mupd_same], fun h2 => ?_, fun h1 => ?_⟩, d4.upd ⟨rfl, by omega, by omega⟩⟩)
        · rw [mupd_ne2 _ _ (by omega)]
          unfold tkV
          rw [hWd]
          refine d3 ?_
          rw [hK] at h2
          by_cases hq : N ≤ 4 ∧ ¬ (p + N < n ∧ isLt (W (p + N)) = true)
          · exact hq.1
          · rw [if_neg hq] at h2; omega
        · rw [hK] at h1
          split at h1 <;> omega
      · rw [if_neg hd]
        refine Ret.t rfl ?_
        rw [Bool.not_eq_true] at hd
        have eE : tkE W n p = p + 1 := by unfold tkE; rw [if_neg (by omega), if_neg (by rw [hl]; simp), if_neg (by rw [hd]; simp)]
        have eK : tkK W n p = if W p ∈ sgL then W p else 0 := by unfold tkK; rw [if_neg (by omega), if_neg (by rw [hl]; simp), if_neg (by rw [hd]; simp)]
        rw [M_isSign, ob_some]
        refine Ret.bind (R := fun y => y = tkT (tkK W n p)) ?_ ?_
        · rw [eK]
          by_cases hs : W p ∈ sgL
          · have := sgL_R hs
            rw [if_pos hs, if_pos hs]
            refine Ret.f (by omega) (Ret.pure ?_)
            unfold tkT
            rw [if_neg (by omega), if_neg (by omega), if_neg (by omega), if_neg (by omega), if_neg (by omega)]
          · rw [if_neg hs, if_neg hs]
            exact Ret.t rfl (Ret.pure rfl)
        rintro y rfl
        have kr : tkK W n p ≠ 1 ∧ tkK W n p ≠ 2 ∧ ¬ 128 ≤ tkK W n p := by
          rw [eK]
          split
          · rename_i hs
            have := sgL_R hs
            omega
          · omega
        exact Ret.letM (Ret.pure ⟨⟨by rw [mupd_ne2 _ _ (by omega)]; exact m6, by rw [mupd_ne2 _ _ (by omega), m7, eE], by rw [mupd_same], fun h2 => absurd h2 kr.2.1, fun h1 => by omega⟩, m8.upd ⟨rfl, by omega, by omega⟩⟩)
  · have hpe : p = n := by omega
    have eK : tkK W n p = 3 := by unfold tkK; rw [if_pos (by omega)]
    have eE : tkE W n p = p := by unfold tkE; rw [if_pos (by omega)]
    refine Ret.f (by omega) (Ret.letM ?_)
    have e3a : mupd M9 382 8 0 382 3 = (n : Int) := by rw [mupd_ne2 _ _ (by omega)]; exact ht9.2.1
    rw [e3a]
    refine Ret.letM ?_
    have e3b : mupd (mupd M9 382 8 0) 382 6 (n : Int) 382 3 = (n : Int) := by rw [mupd_ne2 _ _ (by omega)]; exact e3a
    rw [e3b]
    exact Ret.letM (Ret.pure ⟨⟨by rw [mupd_ne2 _ _ (by omega), mupd_same, hpe], by rw [mupd_same, eE, hpe], by rw [mupd_ne2 _ _ (by omega), mupd_ne2 _ _ (by omega), mupd_same, eK]; rfl, fun h2 => by omega, fun h1 => by omega⟩, ((m8.upd ⟨rfl, by omega, by omega⟩).upd ⟨rfl, by omega, by omega⟩).upd ⟨rfl, by omega, by omega⟩⟩)
