/-! LINES of a town's text, apart from both sides -/
abbrev LST : Type := Nat × TW × (Nat → RL) × List (List Int) × List (List Int) × Bool
def sB {α β : Type} (x : (Int × Nat) ⊕ α) (f : α → (Int × Nat) ⊕ β) : (Int × Nat) ⊕ β := match x with
  | .inl e => .inl e
  | .inr y => f y
theorem sB_inr {α β : Type} {x : (Int × Nat) ⊕ α} {f : α → (Int × Nat) ⊕ β} {z : β} (h : sB x f = .inr z) : ∃ y, x = .inr y ∧ f y = .inr z := by
  cases x with
  | inl e => cases h
  | inr y => exact ⟨y, rfl, h⟩
def ftP (W : Nat → Int) (n j : Nat) {α : Type} : (Int × Nat) ⊕ α := .inl (f2 W n j, plS W n j)
def enP (W : Nat → Int) (n j : Nat) (T : TW) (R : Nat → RL) (NP NR : List (List Int)) (dr : Bool) : (Int × Nat) ⊕ LST := if kdJ W n j = 59 then .inr (j + 1, T, R, NP, NR, dr) else ftP W n j
def perT (T : TW) (age coin nd fa : Int) : TW := mupd (mupd (mupd (mupd (mupd T 1 (T 0 0).toNat age) 2 (T 0 0).toNat coin) 3 (T 0 0).toNat nd) 4 (T 0 0).toNat fa) 0 0 (T 0 0 + 1)
def friT (T : TW) (a b pr : Int) : TW := mupd (mupd (mupd (mupd T 5 (T 0 1).toNat a) 6 (T 0 1).toNat b) 7 (T 0 1).toNat pr) 0 1 (T 0 1 + 1)
def frB (T : TW) (a b : Int) : Bool := (List.range (T 0 1).toNat).any fun f => decide (T 5 f = a) && decide (T 6 f = b)
def rset (R : Nat → RL) (i : Nat) (L : RL) : Nat → RL := fun q => if q = i then L else R q
def opNm (W : Nat → Int) (n j : Nat) (k lo hi d : Int) : (Int × Nat) ⊕ (Int × Nat) := if kdJ W n j = k then sB (tkNum W n j k lo hi) (fun y => .inr (y, j + 2)) else .inr (d, j)
def perP (W : Nat → Int) (n j : Nat) (T : TW) (R : Nat → RL) (NP NR : List (List Int)) (dr : Bool) : (Int × Nat) ⊕ LST := if 8 ≤ T 0 0 then ftP W n j else sB (newNm W n (j + 1) NP) fun nm => sB (tkNum W n (j + 2) 129 (T 0 3) (T 0 4)) fun age => sB (tkNum W n (j + 4) 130 0 999) fun coin => sB (opNm W n (j + 6) 131 (T 0 3) (T 0 4) age) fun nd => sB (opNm W n nd.2 132 0 3 0) fun fa => enP W n fa.2 (perT T age coin nd.1 fa.1) R (NP ++ [nm]) NR dr
def friP (W : Nat → Int) (n j : Nat) (T : TW) (R : Nat → RL) (NP NR : List (List Int)) (dr : Bool) : (Int × Nat) ⊕ LST := if 20 ≤ T 0 1 then ftP W n j else sB (knNm W n (j + 1) NP) fun a => if kdJ W n (j + 2) = 134 then sB (knNm W n (j + 3) NP) (fun b => if a = b ∨ frB T a b = true then .inl (3, plS W n (j + 3)) else sB (tkNum W n (j + 4) 135 0 99) fun pr => enP W n (j + 6) (friT T a b pr) R NP NR dr) else ftP W n (j + 2)
def rigP (W : Nat → Int) (n j : Nat) (T : TW) (R : Nat → RL) (NP NR : List (List Int)) (dr : Bool) : (Int × Nat) ⊕ LST := if 6 ≤ T 0 2 then ftP W n j else sB (newNm W n (j + 1) NR) fun nm => sB (rulP W n (j + 2) (T 0 6).toNat) fun r => .inr (r.1, mupd (mupd T 0 6 (r.2.1 : Int)) 0 2 (T 0 2 + 1), rset R (T 0 2).toNat r.2.2, NP, NR ++ [nm], dr)
def oddP (W : Nat → Int) (n j : Nat) (T : TW) (R : Nat → RL) (NP NR : List (List Int)) (dr : Bool) : (Int × Nat) ⊕ LST := if T 0 7 = 1 then ftP W n j else sB (rulP W n (j + 1) (T 0 6).toNat) fun r => .inr (r.1, mupd (mupd T 0 6 (r.2.1 : Int)) 0 7 1, rset R 6 r.2.2, NP, NR, dr)
def ageP (W : Nat → Int) (n j ln : Nat) (T : TW) (R : Nat → RL) (NP NR : List (List Int)) (dr : Bool) : (Int × Nat) ⊕ LST := if 0 < ln then ftP W n j else sB (tkNum W n j 138 0 150) fun lo => sB (tkNum W n (j + 2) 134 lo 150) fun hi => enP W n (j + 4) (mupd (mupd T 0 3 lo) 0 4 hi) R NP NR dr
def draP (W : Nat → Int) (n j : Nat) (T : TW) (R : Nat → RL) (NP NR : List (List Int)) (dr : Bool) : (Int × Nat) ⊕ LST := if dr = true then ftP W n j else sB (tkNum W n j 139 0 999) fun y => enP W n (j + 2) (mupd T 0 5 y) R NP NR true
def lnP (W : Nat → Int) (n j ln : Nat) (T : TW) (R : Nat → RL) (NP NR : List (List Int)) (dr : Bool) : (Int × Nat) ⊕ LST := if kdJ W n j = 128 then perP W n j T R NP NR dr else if kdJ W n j = 133 then friP W n j T R NP NR dr else if kdJ W n j = 136 then rigP W n j T R NP NR dr else if kdJ W n j = 137 then oddP W n j T R NP NR dr else if kdJ W n j = 138 then ageP W n j ln T R NP NR dr else if kdJ W n j = 139 then draP W n j T R NP NR dr else ftP W n j
/-- what holds of a town that is being told -/
def LTP (T : TW) (R : Nat → RL) (NP NR : List (List Int)) (ln : Nat) : Prop := okT T R ∧ (NP.length : Int) = T 0 0 ∧ (NR.length : Int) = T 0 2 ∧ ltrN NP ∧ ltrN NR ∧ (ln = 0 → T 0 0 = 0 ∧ T 0 1 = 0)
theorem tkNum_R {W : Nat → Int} {n j : Nat} {k lo hi y : Int} (h : tkNum W n j k lo hi = .inr y) : lo ≤ y ∧ y ≤ hi ∧ kdJ W n j = k ∧ kdJ W n (j + 1) = 2 := by
  unfold tkNum at h
  split at h
  · rename_i h1
    split at h
    · rename_i h2
      split at h
      · rename_i h3
        cases h; exact ⟨h3.1, h3.2, h1, h2⟩
      · cases h
    · cases h
  · cases h
theorem newNm_R {W : Nat → Int} {n j : Nat} {N : List (List Int)} {u : List Int} (h : newNm W n j N = .inr u) : kdJ W n j = 1 ∧ ltrs u := by
  unfold newNm at h
  split at h
  · rename_i h1
    split at h
    · cases h; exact ⟨h1, kd1_lt h1⟩
    · cases h
  · cases h
theorem next_J {W : Nat → Int} {n J j : Nat} (hJ : lastT W n J) (hj : j ≤ J) (hg : good (kdJ W n j)) : j + 1 ≤ J := nxS_J (s := (j, 0, 0, [])) hJ hj hg
theorem tkNum_J {W : Nat → Int} {n J j : Nat} {k lo hi y : Int} (hJ : lastT W n J) (hj : j ≤ J) (hk : k ≠ 0 ∧ k ≠ 3) (h : tkNum W n j k lo hi = .inr y) : j + 2 ≤ J := by
  obtain ⟨_, _, h3, h4⟩ := tkNum_R h
  have := next_J hJ hj (good_of h3 hk)
  exact next_J hJ this (good_of h4 (by decide))
theorem opNm_J {W : Nat → Int} {n J j : Nat} {k lo hi d : Int} {y : Int × Nat} (hJ : lastT W n J) (hj : j ≤ J) (hk : k ≠ 0 ∧ k ≠ 3) (h : opNm W n j k lo hi d = .inr y) : j ≤ y.2 ∧ y.2 ≤ J ∧ ((lo ≤ y.1 ∧ y.1 ≤ hi) ∨ y.1 = d) := by
  unfold opNm at h
  split at h
  · obtain ⟨z, h1, h2⟩ := sB_inr h
    cases h2
    have := tkNum_R h1
    exact ⟨Nat.le_add_right _ _, tkNum_J hJ hj hk h1, Or.inl ⟨this.1, this.2.1⟩⟩
  · cases h
    exact ⟨Nat.le_refl _, hj, Or.inr rfl⟩
theorem enP_R {W : Nat → Int} {n J j : Nat} {T : TW} {R : Nat → RL} {NP NR : List (List Int)} {dr : Bool} {s : LST} (hJ : lastT W n J) (hj : j ≤ J) (h : enP W n j T R NP NR dr = .inr s) : s = (j + 1, T, R, NP, NR, dr) ∧ j + 1 ≤ J := by
  unfold enP at h
  split at h
  · rename_i h1
    cases h
    exact ⟨rfl, next_J hJ hj (good_of h1 (by decide))⟩
  · cases h
theorem rulP_R {W : Nat → Int} {n J j U : Nat} {r : Nat × Nat × RL} (hJ : lastT W n J) (hV : ∀ p, tkK W n p = 2 → 0 ≤ tkV W n p ∧ tkV W n p ≤ 9999) (hj : j ≤ J) (h : rulP W n j U = .inr r) : j < r.1 ∧ r.1 ≤ J ∧ U ≤ r.2.1 ∧ r.2.1 ≤ 60 ∧ wfs r.2.2 0 = some 1 := by
  unfold rulP at h
  cases hy : exP W n 70 0 0 (j, 0, U, []) with
  | none => rw [hy] at h; cases h
  | some y =>
    rw [hy] at h
    cases y with
    | inr f => cases h
    | inl s =>
      have K := exP_K hJ hV 70 0 0 _ s hj hy
      dsimp only at h
      split at h
      · rename_i h59
        cases h
        have hu5 : s.2.1 + U = s.2.2.1 + 0 := K.2.2.2.2.1
        have k1 : j < s.1 := K.1
        exact ⟨by show j < s.1 + 1; omega, next_J hJ K.2.1 (good_of h59 (by decide)), by show U ≤ s.2.2.1; omega, K.2.2.2.2.2.2.1, K.2.2.2.2.2.2.2.2 0 rfl (Nat.zero_le _)⟩
      · cases h
theorem knNm_J {W : Nat → Int} {n J j : Nat} {N : List (List Int)} {y : Int} (hJ : lastT W n J) (hj : j ≤ J) (h : knNm W n j N = .inr y) : j + 1 ≤ J := next_J hJ hj (good_of (knNm_R h).2.2 (by decide))
theorem newNm_J {W : Nat → Int} {n J j : Nat} {N : List (List Int)} {u : List Int} (hJ : lastT W n J) (hj : j ≤ J) (h : newNm W n j N = .inr u) : j + 1 ≤ J := next_J hJ hj (good_of (newNm_R h).1 (by decide))
theorem ltrN_app {N : List (List Int)} {u : List Int} (h : ltrN N) (hu : ltrs u) : ltrN (N ++ [u]) := fun v hv => by
  rcases List.mem_append.mp hv with h1 | h1
  · exact h v h1
  · have := List.mem_singleton.mp h1
    rw [this]; exact hu
theorem frB_no {T : TW} {a b : Int} (h : ¬ frB T a b = true) : ∀ f : Nat, (f : Int) < T 0 1 → ¬ (T 5 f = a ∧ T 6 f = b) := fun f hf hh => by
  apply h
  unfold frB
  rw [List.any_eq_true]
  exact ⟨f, List.mem_range.mpr (by omega), by rw [hh.1, hh.2]; simp⟩
theorem lnP_ok {W : Nat → Int} {n J j ln : Nat} {T : TW} {R : Nat → RL} {NP NR : List (List Int)} {dr : Bool} {s : LST} (hJ : lastT W n J) (hV : ∀ p, tkK W n p = 2 → 0 ≤ tkV W n p ∧ tkV W n p ≤ 9999) (hj : j ≤ J) (hP : LTP T R NP NR ln) (h : lnP W n j ln T R NP NR dr = .inr s) : j + 2 ≤ s.1 ∧ s.1 ≤ J ∧ LTP s.2.1 s.2.2.1 s.2.2.2.1 s.2.2.2.2.1 (ln + 1) := by
  obtain ⟨⟨o1, o2, o3, o4, o5, o6⟩, l1, l2, l3, l4, l5⟩ := hP
  unfold lnP at h
  split at h
  · rename_i hk
    have j1 := next_J hJ hj (good_of hk (by decide))
    unfold perP at h
    split at h
    · cases h
    rename_i h8
    obtain ⟨nm, a1, h⟩ := sB_inr h
    have j2 := newNm_J hJ j1 a1
    obtain ⟨age, a2, h⟩ := sB_inr h
    have j3 := tkNum_J hJ j2 (by decide) a2
    have r2 := tkNum_R a2
    obtain ⟨coin, a3, h⟩ := sB_inr h
    have j4 := tkNum_J hJ j3 (by decide) a3
    have r3 := tkNum_R a3
    obtain ⟨nd, a4, h⟩ := sB_inr h
    have j5 := opNm_J hJ j4 (by decide) a4
    obtain ⟨fa, a5, h⟩ := sB_inr h
    have j6 := opNm_J hJ j5.2.1 (by decide) a5
    obtain ⟨e, j7⟩ := enP_R hJ j6.2.1 h
    subst e
    refine ⟨by show j + 2 ≤ fa.2 + 1; omega, j7, ⟨⟨?_, fun p hp => ?_, fun f hf => ?_, o4, o5, o6⟩, ?_, l2, ltrN_app l3 (newNm_R a1).2, l4, fun q => by omega⟩⟩
    · show 0 ≤ T 0 0 + 1 ∧ T 0 0 + 1 ≤ 8 ∧ _
      exact ⟨by omega, by omega, o1.2.2⟩
    · have hp : (p : Int) < T 0 0 + 1 := hp
      show T 0 3 ≤ (if (1 : Nat) = 1 ∧ p = (T 0 0).toNat then age else T 1 p) ∧ (if (1 : Nat) = 1 ∧ p = (T 0 0).toNat then age else T 1 p) ≤ T 0 4 ∧ 0 ≤ (if (2 : Nat) = 2 ∧ p = (T 0 0).toNat then coin else T 2 p) ∧ (if (2 : Nat) = 2 ∧ p = (T 0 0).toNat then coin else T 2 p) ≤ 999 ∧ T 0 3 ≤ (if (3 : Nat) = 3 ∧ p = (T 0 0).toNat then nd.1 else T 3 p) ∧ (if (3 : Nat) = 3 ∧ p = (T 0 0).toNat then nd.1 else T 3 p) ≤ T 0 4 ∧ 0 ≤ (if (4 : Nat) = 4 ∧ p = (T 0 0).toNat then fa.1 else T 4 p) ∧ (if (4 : Nat) = 4 ∧ p = (T 0 0).toNat then fa.1 else T 4 p) ≤ 3
      by_cases hq : p = (T 0 0).toNat
      · rw [if_pos ⟨rfl, hq⟩, if_pos ⟨rfl, hq⟩, if_pos ⟨rfl, hq⟩, if_pos ⟨rfl, hq⟩]
        omega
      · rw [if_neg (fun z => hq z.2), if_neg (fun z => hq z.2), if_neg (fun z => hq z.2), if_neg (fun z => hq z.2)]
        exact o2 p (by omega)
    · have := o3 f hf
      show 0 ≤ T 5 f ∧ T 5 f < T 0 0 + 1 ∧ 0 ≤ T 6 f ∧ T 6 f < T 0 0 + 1 ∧ T 5 f ≠ T 6 f ∧ 0 ≤ T 7 f ∧ T 7 f ≤ 99
      omega
    · show ((NP ++ [nm]).length : Int) = T 0 0 + 1
      rw [List.length_append]
      show ((NP.length + 1 : Nat) : Int) = _
      omega
  · split at h
    · rename_i hk
      have j1 := next_J hJ hj (good_of hk (by decide))
      unfold friP at h
      split at h
      · cases h
      rename_i h20
      obtain ⟨a, a1, h⟩ := sB_inr h
      have j2 := knNm_J hJ j1 a1
      have r1 := knNm_R a1
      split at h
      · rename_i h134
        have j3 := next_J hJ j2 (good_of h134 (by decide))
        obtain ⟨b, a2, h⟩ := sB_inr h
        have j4 := knNm_J hJ j3 a2
        have r2 := knNm_R a2
        split at h
        · cases h
        rename_i hab
        obtain ⟨pr, a3, h⟩ := sB_inr h
        have j5 := tkNum_J hJ j4 (by decide) a3
        have r3 := tkNum_R a3
        obtain ⟨e, j7⟩ := enP_R hJ j5 h
        subst e
        have hfr := frB_no (fun q => hab (Or.inr q))
        refine ⟨by show j + 2 ≤ j + 6 + 1; omega, j7, ⟨⟨?_, o2, fun f hf => ?_, fun f g hf hg e1 e2 => ?_, o5, o6⟩, l1, l2, l3, l4, fun q => by omega⟩⟩
        · show 0 ≤ T 0 0 ∧ T 0 0 ≤ 8 ∧ 0 ≤ T 0 1 + 1 ∧ T 0 1 + 1 ≤ 20 ∧ _
          exact ⟨o1.1, o1.2.1, by omega, by omega, o1.2.2.2.2⟩
        · have hf : (f : Int) < T 0 1 + 1 := hf
          show 0 ≤ (if (5 : Nat) = 5 ∧ f = (T 0 1).toNat then a else T 5 f) ∧ (if (5 : Nat) = 5 ∧ f = (T 0 1).toNat then a else T 5 f) < T 0 0 ∧ 0 ≤ (if (6 : Nat) = 6 ∧ f = (T 0 1).toNat then b else T 6 f) ∧ (if (6 : Nat) = 6 ∧ f = (T 0 1).toNat then b else T 6 f) < T 0 0 ∧ (if (5 : Nat) = 5 ∧ f = (T 0 1).toNat then a else T 5 f) ≠ (if (6 : Nat) = 6 ∧ f = (T 0 1).toNat then b else T 6 f) ∧ 0 ≤ (if (7 : Nat) = 7 ∧ f = (T 0 1).toNat then pr else T 7 f) ∧ (if (7 : Nat) = 7 ∧ f = (T 0 1).toNat then pr else T 7 f) ≤ 99
          by_cases hq : f = (T 0 1).toNat
          · rw [if_pos ⟨rfl, hq⟩, if_pos ⟨rfl, hq⟩, if_pos ⟨rfl, hq⟩]
            exact ⟨r1.1, by omega, r2.1, by omega, fun z => hab (Or.inl z), by omega, by omega⟩
          · rw [if_neg (fun z => hq z.2), if_neg (fun z => hq z.2), if_neg (fun z => hq z.2)]
            exact o3 f (by omega)
        · have hf : (f : Int) < T 0 1 + 1 := hf
          have hg : (g : Int) < T 0 1 + 1 := hg
          have e1 : (if (5 : Nat) = 5 ∧ f = (T 0 1).toNat then a else T 5 f) = (if (5 : Nat) = 5 ∧ g = (T 0 1).toNat then a else T 5 g) := e1
          have e2 : (if (6 : Nat) = 6 ∧ f = (T 0 1).toNat then b else T 6 f) = (if (6 : Nat) = 6 ∧ g = (T 0 1).toNat then b else T 6 g) := e2
          by_cases hq : f = (T 0 1).toNat
          · by_cases hq2 : g = (T 0 1).toNat
            · omega
            · rw [if_pos ⟨rfl, hq⟩, if_neg (fun z => hq2 z.2)] at e1 e2
              exact absurd ⟨e1.symm, e2.symm⟩ (hfr g (by omega))
          · by_cases hq2 : g = (T 0 1).toNat
            · rw [if_neg (fun z => hq z.2), if_pos ⟨rfl, hq2⟩] at e1 e2
              exact absurd ⟨e1, e2⟩ (hfr f (by omega))
            · rw [if_neg (fun z => hq z.2), if_neg (fun z => hq2 z.2)] at e1 e2
              exact o4 f g (by omega) (by omega) e1 e2
      · cases h
    · split at h
      · rename_i hk
        have j1 := next_J hJ hj (good_of hk (by decide))
        unfold rigP at h
        split at h
        · cases h
        rename_i h6
        obtain ⟨nm, a1, h⟩ := sB_inr h
        have j2 := newNm_J hJ j1 a1
        obtain ⟨r, a2, h⟩ := sB_inr h
        have rr := rulP_R hJ hV j2 a2
        cases h
        refine ⟨by show j + 2 ≤ r.1; omega, rr.2.1, ⟨⟨?_, o2, o3, o4, fun q hq => ?_, fun q => ?_⟩, l1, ?_, l3, ltrN_app l4 (newNm_R a1).2, fun q => by omega⟩⟩
        · show 0 ≤ T 0 0 ∧ T 0 0 ≤ 8 ∧ 0 ≤ T 0 1 ∧ T 0 1 ≤ 20 ∧ 0 ≤ T 0 2 + 1 ∧ T 0 2 + 1 ≤ 6 ∧ 0 ≤ T 0 3 ∧ T 0 3 ≤ T 0 4 ∧ T 0 4 ≤ 150 ∧ 0 ≤ T 0 5 ∧ T 0 5 ≤ 999 ∧ 0 ≤ (r.2.1 : Int) ∧ (r.2.1 : Int) ≤ 60 ∧ (T 0 7 = 0 ∨ T 0 7 = 1)
          omega
        · have hq : (q : Int) < T 0 2 + 1 := hq
          show wfr (if q = (T 0 2).toNat then r.2.2 else R q) 0 = true
          by_cases hqe : q = (T 0 2).toNat
          · rw [if_pos hqe]; exact wfs_wfr _ _ rr.2.2.2.2
          · rw [if_neg hqe]; exact o5 q (by omega)
        · have q : T 0 7 = 1 := q
          show wfr (if 6 = (T 0 2).toNat then r.2.2 else R 6) 0 = true
          rw [if_neg (by omega)]; exact o6 q
        · show ((NR ++ [nm]).length : Int) = T 0 2 + 1
          rw [List.length_append]
          show ((NR.length + 1 : Nat) : Int) = _
          omega
      · split at h
        · rename_i hk
          have j1 := next_J hJ hj (good_of hk (by decide))
          unfold oddP at h
          split at h
          · cases h
          obtain ⟨r, a2, h⟩ := sB_inr h
          have rr := rulP_R hJ hV j1 a2
          cases h
          refine ⟨by show j + 2 ≤ r.1; omega, rr.2.1, ⟨⟨?_, o2, o3, o4, fun q hq => ?_, fun q => ?_⟩, l1, l2, l3, l4, fun q => by omega⟩⟩
          · show 0 ≤ T 0 0 ∧ T 0 0 ≤ 8 ∧ 0 ≤ T 0 1 ∧ T 0 1 ≤ 20 ∧ 0 ≤ T 0 2 ∧ T 0 2 ≤ 6 ∧ 0 ≤ T 0 3 ∧ T 0 3 ≤ T 0 4 ∧ T 0 4 ≤ 150 ∧ 0 ≤ T 0 5 ∧ T 0 5 ≤ 999 ∧ 0 ≤ (r.2.1 : Int) ∧ (r.2.1 : Int) ≤ 60 ∧ ((1 : Int) = 0 ∨ (1 : Int) = 1)
            omega
          · have hq : (q : Int) < T 0 2 := hq
            show wfr (if q = 6 then r.2.2 else R q) 0 = true
            rw [if_neg (by omega)]; exact o5 q hq
          · show wfr (if 6 = 6 then r.2.2 else R 6) 0 = true
            rw [if_pos rfl]; exact wfs_wfr _ _ rr.2.2.2.2
        · split at h
          · rename_i hk
            unfold ageP at h
            split at h
            · cases h
            rename_i h0
            have l0 := l5 (by omega)
            obtain ⟨lo, a1, h⟩ := sB_inr h
            have j2 := tkNum_J hJ hj (by decide) a1
            have r1 := tkNum_R a1
            obtain ⟨hi, a2, h⟩ := sB_inr h
            have j3 := tkNum_J hJ j2 (by decide) a2
            have r2 := tkNum_R a2
            obtain ⟨e, j7⟩ := enP_R hJ j3 h
            subst e
            refine ⟨by show j + 2 ≤ j + 4 + 1; omega, j7, ⟨⟨?_, fun p hp => ?_, fun f hf => ?_, o4, o5, o6⟩, l1, l2, l3, l4, fun q => by omega⟩⟩
            · show 0 ≤ T 0 0 ∧ T 0 0 ≤ 8 ∧ 0 ≤ T 0 1 ∧ T 0 1 ≤ 20 ∧ 0 ≤ T 0 2 ∧ T 0 2 ≤ 6 ∧ 0 ≤ lo ∧ lo ≤ hi ∧ hi ≤ 150 ∧ 0 ≤ T 0 5 ∧ T 0 5 ≤ 999 ∧ 0 ≤ T 0 6 ∧ T 0 6 ≤ 60 ∧ (T 0 7 = 0 ∨ T 0 7 = 1)
              omega
            · have hp : (p : Int) < T 0 0 := hp
              omega
            · have hf : (f : Int) < T 0 1 := hf
              omega
          · split at h
            · rename_i hk
              unfold draP at h
              split at h
              · cases h
              obtain ⟨y, a1, h⟩ := sB_inr h
              have j2 := tkNum_J hJ hj (by decide) a1
              have r1 := tkNum_R a1
              obtain ⟨e, j7⟩ := enP_R hJ j2 h
              subst e
              refine ⟨by show j + 2 ≤ j + 2 + 1; omega, j7, ⟨⟨?_, o2, o3, o4, o5, o6⟩, l1, l2, l3, l4, fun q => by omega⟩⟩
              show 0 ≤ T 0 0 ∧ T 0 0 ≤ 8 ∧ 0 ≤ T 0 1 ∧ T 0 1 ≤ 20 ∧ 0 ≤ T 0 2 ∧ T 0 2 ≤ 6 ∧ 0 ≤ T 0 3 ∧ T 0 3 ≤ T 0 4 ∧ T 0 4 ≤ 150 ∧ 0 ≤ y ∧ y ≤ 999 ∧ 0 ≤ T 0 6 ∧ T 0 6 ≤ 60 ∧ (T 0 7 = 0 ∨ T 0 7 = 1)
              omega
            · cases h
