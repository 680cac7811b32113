/-! WHAT THE TWO SIDES HOLD: a town T, its rules R, a state v (as the second side lays it) -/
abbrev TW : Type := Nat → Nat → Int
abbrev RL : Type := List (Int × Int)
def encC (q : Int × Int) : Int := if q.1 = 110 then 128 + q.2 else if q.1 = 97 then 1 else if q.1 = 99 then 2 else if q.1 = 121 then 3 else if q.1 = 102 then 4 else if q.1 = 126 then 5 else if q.1 = 124 then 6 else if q.1 = 38 then 7 else q.1
/-- a rule as the first side keeps it, its steps in the cells d + 9, d + 10 -/
def CRule (d : Nat) (M : KM) (s : Int) (L : RL) : Prop := 0 ≤ s ∧ s + L.length < M (d + 9) 1 ∧ (∀ i q, L[i]? = some q → M (d + 10) (s.toNat + i) = encC q) ∧ M (d + 10) (s.toNat + L.length) = 0
def MRule (b : Nat) (M : KM) (r : Nat) (L : RL) : Prop := 0 ≤ M 400 (7 * b + r) ∧ M 401 (7 * b + r) = M 400 (7 * b + r) + L.length ∧ M 401 (7 * b + r) ≤ 1120 ∧ (∀ i q, L[i]? = some q → M 406 ((M 400 (7 * b + r)).toNat + i) = q.1 ∧ M 407 ((M 400 (7 * b + r)).toNat + i) = q.2)
def TC (d : Nat) (T : TW) (R : Nat → RL) (M : KM) : Prop :=
  (M d 0 = T 0 0 ∧ M d 5 = T 0 1 ∧ M d 9 = T 0 2 ∧ M d 12 = T 0 3 ∧ M d 13 = T 0 4 ∧ M d 14 = T 0 5 ∧ M d 15 = T 0 6) ∧
  (∀ p : Nat, (p : Int) < T 0 0 → M (d + 1) p = T 1 p ∧ M (d + 2) p = T 2 p ∧ M (d + 3) p = T 3 p ∧ M (d + 4) p = T 4 p) ∧
  (∀ f : Nat, (f : Int) < T 0 1 → M (d + 5) f = T 5 f ∧ M (d + 6) f = T 6 f ∧ M (d + 7) f = T 7 f) ∧
  (∀ r : Nat, (r : Int) < T 0 2 → CRule d M (M (d + 8) r) (R r)) ∧
  ((T 0 7 = 0 → M d 11 = -1) ∧ (T 0 7 = 1 → CRule d M (M d 11) (R 6))) ∧ (0 ≤ M (d + 9) 1 ∧ M (d + 9) 1 ≤ 1600)
def TM (b : Nat) (T : TW) (R : Nat → RL) (M : KM) : Prop :=
  (M 385 b = T 0 0 ∧ M 386 b = T 0 1 ∧ M 387 b = T 0 2 ∧ M 390 b = T 0 3 ∧ M 391 b = T 0 4 ∧ M 389 b = T 0 5 ∧ M 388 b = T 0 6 ∧ M 403 (7 * b + 6) = T 0 7) ∧
  (∀ p : Nat, (p : Int) < T 0 0 → M 393 (8 * b + p) = T 1 p ∧ M 394 (8 * b + p) = T 2 p ∧ M 395 (8 * b + p) = T 3 p ∧ M 396 (8 * b + p) = T 4 p) ∧
  (∀ f : Nat, (f : Int) < T 0 1 → M 397 (20 * b + f) = T 5 f ∧ M 398 (20 * b + f) = T 6 f ∧ M 399 (20 * b + f) = T 7 f) ∧
  (∀ r : Nat, (r : Int) < T 0 2 → MRule b M r (R r)) ∧ (T 0 7 = 1 → MRule b M 6 (R 6))
/-- the bank in use -/
def BK (b : Nat) (M : KM) : Prop := b < 2 ∧ M 382 37 = (b : Int)
/-- a State of the first side at the cell k -/
def SC (k : Nat) (n : Int) (v : Nat → Int) (M : KM) : Prop :=
  (M k 2 = n ∧ M k 3 = v 16 ∧ M k 4 = v 19 ∧ M k 5 = v 20 ∧ M k 6 = v 17 ∧ M k 7 = v 18) ∧
  (∀ p : Nat, (p : Int) < n → M (k + 1) p = v p ∧ M (k + 2) p = v (8 + p)) ∧
  (0 ≤ M k 8 ∧ M k 8 < 1073741824 ∧ ∀ l : Nat, v 17 ≤ (l : Int) → bt (M k 8) l = false) ∧
  (∀ l : Nat, (l : Int) < v 17 → M (k + 3) l = v (21 + 5 * l) ∧ M (k + 4) l = v (22 + 5 * l) ∧ M (k + 5) l = v (23 + 5 * l) ∧ M (k + 6) l = v (24 + 5 * l) ∧ (if bt (M k 8) l = true then 1 else 0) = v (25 + 5 * l))
/-- the second side's row of 171 numbers at the cell c from o on -/
def SM (c o : Nat) (v : Nat → Int) (M : KM) : Prop := ∀ j : Nat, j < 171 → M c (o + j) = v j
/-- rules that can be reckoned with: letters, signs, heights -/
def isL (c : Int) : Bool := decide (97 ≤ c) && decide (c ≤ 122)
def okc (q : Int × Int) : Bool := (decide (q.1 = 110) && decide (0 ≤ q.2) && decide (q.2 ≤ 9999)) || [97, 99, 121, 102, 126, 124, 38, 43, 45, 42, 47, 37, 60, 62, 61].contains q.1
def wfr : RL → Nat → Bool
  | [], h => h == 1
  | q :: L, h => okc q && (if isL q.1 then decide (h < 30) && wfr L (h + 1) else if q.1 = 126 then decide (1 ≤ h) && wfr L h else decide (2 ≤ h) && wfr L (h - 1))
def okT (T : TW) (R : Nat → RL) : Prop :=
  (0 ≤ T 0 0 ∧ T 0 0 ≤ 8 ∧ 0 ≤ T 0 1 ∧ T 0 1 ≤ 20 ∧ 0 ≤ T 0 2 ∧ T 0 2 ≤ 6 ∧ 0 ≤ T 0 3 ∧ T 0 3 ≤ T 0 4 ∧ T 0 4 ≤ 150 ∧ 0 ≤ T 0 5 ∧ T 0 5 ≤ 999 ∧ 0 ≤ T 0 6 ∧ T 0 6 ≤ 60 ∧ (T 0 7 = 0 ∨ T 0 7 = 1)) ∧
  (∀ p : Nat, (p : Int) < T 0 0 → T 0 3 ≤ T 1 p ∧ T 1 p ≤ T 0 4 ∧ 0 ≤ T 2 p ∧ T 2 p ≤ 999 ∧ T 0 3 ≤ T 3 p ∧ T 3 p ≤ T 0 4 ∧ 0 ≤ T 4 p ∧ T 4 p ≤ 3) ∧
  (∀ f : Nat, (f : Int) < T 0 1 → 0 ≤ T 5 f ∧ T 5 f < T 0 0 ∧ 0 ≤ T 6 f ∧ T 6 f < T 0 0 ∧ T 5 f ≠ T 6 f ∧ 0 ≤ T 7 f ∧ T 7 f ≤ 99) ∧
  (∀ f g : Nat, (f : Int) < T 0 1 → (g : Int) < T 0 1 → T 5 f = T 5 g → T 6 f = T 6 g → f = g) ∧
  (∀ r : Nat, (r : Int) < T 0 2 → wfr (R r) 0 = true) ∧ (T 0 7 = 1 → wfr (R 6) 0 = true)
def okS (T : TW) (v : Nat → Int) : Prop :=
  (0 ≤ v 16 ∧ v 16 < 256 ∧ 0 ≤ v 17 ∧ v 17 ≤ 30 ∧ 0 ≤ v 19 ∧ v 19 ≤ 1000 ∧ 0 ≤ v 20 ∧ v 20 < 1000) ∧
  (∀ p : Nat, bt (v 16) p = true → (p : Int) < T 0 0) ∧
  (∀ p : Nat, (p : Int) < T 0 0 → T 0 3 ≤ v p ∧ v p ≤ T 0 4) ∧
  (∀ l : Nat, (l : Int) < v 17 → 0 ≤ v (21 + 5 * l) ∧ v (21 + 5 * l) < T 0 0 ∧ 0 ≤ v (22 + 5 * l) ∧ v (22 + 5 * l) < T 0 0 ∧ v (21 + 5 * l) ≠ v (22 + 5 * l) ∧ 1 ≤ v (23 + 5 * l) ∧ v (23 + 5 * l) ≤ 99 ∧ (v (25 + 5 * l) = 0 ∨ v (25 + 5 * l) = 1))
def alv (v : Nat → Int) (i : Int) : Bool := decide (0 ≤ i) && bt (v 16) i.toNat
/-! SMALL QUESTIONS -/
theorem e_X_isPerson (i : Int) (M : KM) : f_X_isPerson i M = some (if 0 ≤ i ∧ i < M 2 0 then 1 else 0) := by
  unfold f_X_isPerson
  by_cases h : i < 0
  · simp [h, Int.not_le.mpr h]
  · by_cases h2 : i < M 2 0
    · simp [h, h2, Int.not_lt.mp h]
    · simp [h, h2]
theorem e_X_isRight (i : Int) (M : KM) : f_X_isRight i M = some (if 0 ≤ i ∧ i < M 2 9 then 1 else 0) := by
  unfold f_X_isRight
  by_cases h : i < 0
  · simp [h, Int.not_le.mpr h]
  · by_cases h2 : i < M 2 9
    · simp [h, h2, Int.not_lt.mp h]
    · simp [h, h2]
theorem e_X_isAge (i : Int) (M : KM) : f_X_isAge i M = some (if M 2 12 ≤ i ∧ i ≤ M 2 13 then 1 else 0) := by
  unfold f_X_isAge
  by_cases h : i < M 2 12
  · simp [h, Int.not_le.mpr h]
  · by_cases h2 : i ≤ M 2 13
    · simp [h, h2, Int.not_lt.mp h]
    · simp [h, h2]
theorem e_X_isFamily (i : Int) (M : KM) : f_X_isFamily i M = some (if 0 ≤ i ∧ i < 4 then 1 else 0) := by
  unfold f_X_isFamily
  by_cases h : i < 0
  · simp [h, Int.not_le.mpr h]
  · by_cases h2 : i < 4
    · simp [h, h2, Int.not_lt.mp h]
    · simp [h, h2]
theorem e_X_isPrice (i : Int) (M : KM) : f_X_isPrice i M = some (if 0 ≤ i ∧ i ≤ 99 then 1 else 0) := by
  unfold f_X_isPrice
  by_cases h : i < 0
  · simp [h, Int.not_le.mpr h]
  · by_cases h2 : i ≤ 99
    · simp [h, h2, Int.not_lt.mp h]
    · simp [h, h2]
theorem e_M_isIn (i a b : Int) (M : KM) : f_M_isIn i a b M = some (if a ≤ i ∧ i ≤ b then 1 else 0) := by
  unfold f_M_isIn
  by_cases h : i < a
  · simp [h, Int.not_le.mpr h]
  · by_cases h2 : i ≤ b
    · simp [h, h2, Int.not_lt.mp h]
    · simp [h, h2]
theorem ifc {α : Type} {c d : Prop} [Decidable c] [Decidable d] {x y : α} (h : c ↔ d) : (if c then x else y) = (if d then x else y) := by
  by_cases hc : c
  · rw [if_pos hc, if_pos (h.mp hc)]
  · rw [if_neg hc, if_neg (fun q => hc (h.mpr q))]
theorem if01 {c : Prop} {dc : Decidable c} : (0 ≤ (if c then (1 : Int) else 0)) ∧ (if c then (1 : Int) else 0) ≤ 1 := by split <;> simp
theorem e_M_many {b : Nat} {M : KM} (hb : BK b M) : f_M_many M = some (M 385 b) := by
  unfold f_M_many
  rw [hb.2, if_pos (by have := hb.1; omega)]
  rfl
theorem e_M_isPerson {b : Nat} {M : KM} (hb : BK b M) (i : Int) (h : 0 ≤ M 385 b) (h2 : M 385 b ≤ 8) : f_M_isPerson i M = some (if 0 ≤ i ∧ i < M 385 b then 1 else 0) := by
  unfold f_M_isPerson
  rw [e_M_many hb, ob_some, w32e (by omega) (by omega), e_M_isIn, ob_some, if_pos if01]
  congr 1
  exact ifc (by omega)
theorem e_M_isRight {b : Nat} {M : KM} (hb : BK b M) (i : Int) (h : 0 ≤ M 387 b) (h2 : M 387 b ≤ 8) : f_M_isRight i M = some (if 0 ≤ i ∧ i < M 387 b then 1 else 0) := by
  unfold f_M_isRight
  rw [hb.2, if_pos (by have := hb.1; omega), Int.toNat_natCast, w32e (by omega) (by omega), e_M_isIn, ob_some, if_pos if01]
  congr 1
  exact ifc (by omega)
theorem e_M_isAge {b : Nat} {M : KM} (hb : BK b M) (i : Int) : f_M_isAge i M = some (if M 390 b ≤ i ∧ i ≤ M 391 b then 1 else 0) := by
  unfold f_M_isAge
  rw [hb.2, if_pos (by have := hb.1; omega), if_pos (by have := hb.1; omega), Int.toNat_natCast, e_M_isIn, ob_some, if_pos if01]
theorem e_X_isAlive {T : TW} {v : Nat → Int} {M : KM} (h0 : M 2 0 = T 0 0) (h3 : M 34 3 = v 16) (hS : okS T v) (i : Int) : f_X_isAlive i M = some (if alv v i = true then 1 else 0) := by
  unfold f_X_isAlive
  rw [e_X_isPerson, ob_some, h0, h3, isInV_bt hS.1.1 (by have := hS.1.2.1; omega)]
  unfold alv
  by_cases hi : 0 ≤ i
  · by_cases hb : bt (v 16) i.toNat = true
    · have := hS.2.1 _ hb
      have hn : i < T 0 0 := by omega
      simp [hi, hb, hn]
    · simp only [Bool.not_eq_true] at hb
      by_cases hn : i < T 0 0
      · simp [hi, hb, hn]
      · simp [hi, hb, hn]
  · simp [hi]
theorem e_M_isAlive {T : TW} {v : Nat → Int} {M : KM} (h : M 411 16 = v 16) (hS : okS T v) {i : Int} (h0 : 0 ≤ i) (h8 : i < 32) : f_M_isAlive i M = some (if alv v i = true then 1 else 0) := by
  obtain ⟨n, rfl⟩ := Int.eq_ofNat_of_zero_le h0
  unfold f_M_isAlive
  rw [if_pos (by omega)]
  have e : M 411 (16 : Int).toNat = v 16 := h
  rw [e, kishr_bt hS.1.1 (by have := hS.1.2.1; omega) (by omega)]
  unfold alv
  rw [Int.toNat_natCast]
  by_cases hb : bt (v 16) n = true
  · simp [hb]
  · simp [hb]
