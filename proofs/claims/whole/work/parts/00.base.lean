/-! NUMBERS, CELLS, LOOPS: nothing of the machine -/
abbrev KM : Type := Nat → Nat → Int
def mupd (M : KM) (k i : Nat) (v : Int) : KM := fun k' i' => if k' = k ∧ i' = i then v else M k' i'
def R32 (n : Int) : Prop := -2147483648 ≤ n ∧ n < 2147483648
def R64 (n : Int) : Prop := -9223372036854775808 ≤ n ∧ n < 9223372036854775808
def w32 (n : Int) : Int := (Int32.ofInt n).toInt
def w64 (n : Int) : Int := (Int64.ofInt n).toInt
theorem w32_R (n : Int) : R32 (w32 n) := ⟨Int32.le_toInt _, Int32.toInt_lt _⟩
theorem w64_R (n : Int) : R64 (w64 n) := ⟨Int64.le_toInt _, Int64.toInt_lt _⟩
theorem w32_id {n : Int} (h : R32 n) : w32 n = n := Int32.toInt_ofInt_of_le h.1 h.2
theorem w64_id {n : Int} (h : R64 n) : w64 n = n := Int64.toInt_ofInt_of_le h.1 h.2
theorem w32_of (n : Int) : Int32.ofInt (w32 n) = Int32.ofInt n := Int32.ofInt_toInt _
theorem w64_of (n : Int) : Int64.ofInt (w64 n) = Int64.ofInt n := Int64.ofInt_toInt _
theorem R32_toInt {n : Int} (h : R32 n) : (Int32.ofInt n).toInt = n := w32_id h
theorem R64_toInt {n : Int} (h : R64 n) : (Int64.ofInt n).toInt = n := w64_id h
theorem R32_i (x : Int32) : R32 x.toInt := ⟨Int32.le_toInt _, Int32.toInt_lt _⟩
theorem i32_eq {a b : Int} (ha : R32 a) (hb : R32 b) : (Int32.ofInt a = Int32.ofInt b) ↔ a = b := by
  constructor
  · intro h
    have h1 := congrArg Int32.toInt h
    rwa [R32_toInt ha, R32_toInt hb] at h1
  · rintro rfl; rfl
theorem i32_lt {a b : Int} (ha : R32 a) (hb : R32 b) : (Int32.ofInt a < Int32.ofInt b) ↔ a < b := by
  rw [Int32.lt_iff_toInt_lt, R32_toInt ha, R32_toInt hb]
theorem i32_le {a b : Int} (ha : R32 a) (hb : R32 b) : (Int32.ofInt a ≤ Int32.ofInt b) ↔ a ≤ b := by
  rw [Int32.le_iff_toInt_le, R32_toInt ha, R32_toInt hb]
theorem R32_0 : R32 0 := ⟨by decide, by decide⟩
def kiand (x y : Int) : Int := (Int32.ofInt x &&& Int32.ofInt y).toInt
def kior (x y : Int) : Int := (Int32.ofInt x ||| Int32.ofInt y).toInt
def kixor (x y : Int) : Int := (Int32.ofInt x ^^^ Int32.ofInt y).toInt
def kishl (x y : Int) : Int := (Int32.ofInt x <<< (Int32.ofInt y &&& 31)).toInt
def kishr (x y : Int) : Int := (Int32.ofInt x >>> (Int32.ofInt y &&& 31)).toInt
def kiushr (x y : Int) : Int := ((Int32.ofInt x).toUInt32 >>> ((Int32.ofInt y).toUInt32 &&& Int32.toUInt32 31)).toInt32.toInt
def klshl (x y : Int) : Int := (Int64.ofInt x <<< ((Int32.ofInt y).toInt64 &&& 63)).toInt
def klor (x y : Int) : Int := (Int64.ofInt x ||| Int64.ofInt y).toInt
def klcmp (x y : Int) : Int := if x < y then -1 else if x = y then 0 else 1
def kw8 (x : Int) : Int := (Int8.ofInt x).toInt
theorem kw8_R (x : Int) : -128 ≤ kw8 x ∧ kw8 x < 128 := ⟨Int8.le_toInt _, Int8.toInt_lt _⟩
theorem kw8_of (x : Int) : Int32.ofInt (kw8 x) = (Int32.ofInt x).toInt8.toInt32 := by
  apply Int32.toInt_inj.mp
  have h := kw8_R x
  rw [R32_toInt (by constructor <;> omega), Int8.toInt_toInt32, Int32.toInt_toInt8, Int32.toInt_ofInt, kw8, Int8.toInt_ofInt]
  exact (Int.bmod_bmod_of_dvd (by decide)).symm
def kc16 (x : Int) : Int := ((Int32.ofInt x).toUInt32 % 65536).toInt32.toInt
theorem R64_i (x : Int64) : R64 x.toInt := ⟨Int64.le_toInt _, Int64.toInt_lt _⟩
theorem klcmp_R (x y : Int) : R32 (klcmp x y) := by
  unfold klcmp
  split
  · exact ⟨by decide, by decide⟩
  · split <;> exact ⟨by decide, by decide⟩
/-- cut short; by 0 there is nothing -/
def kdiv (x y : Int) : Int := (Int32.ofInt x / Int32.ofInt y).toInt
def krem (x y : Int) : Int := (Int32.ofInt x - Int32.ofInt x / Int32.ofInt y * Int32.ofInt y).toInt
def iterO {σ ε : Type} (body : σ → Option (σ ⊕ ε)) : Nat → σ → Option ε
  | 0, _ => none
  | n + 1, s => match body s with
    | none => none
    | some (.inl s') => iterO body n s'
    | some (.inr e) => some e
theorem iterO_mono {σ ε : Type} {body : σ → Option (σ ⊕ ε)} : ∀ {n : Nat} {s : σ} {e : ε}, iterO body n s = some e → ∀ k, iterO body (n + k) s = some e := by
  intro n
  induction n with
  | zero => intro s e h; cases h
  | succ n ih =>
    intro s e h k
    rw [show n + 1 + k = (n + k) + 1 by omega]
    unfold iterO at h ⊢
    cases hb : body s with
    | none => rw [hb] at h; cases h
    | some q =>
      rw [hb] at h
      cases q with
      | inl s' => exact ih h k
      | inr e' => exact h
noncomputable def whileO {σ ε : Type} (body : σ → Option (σ ⊕ ε)) (s : σ) : Option ε :=
  @dite (Option ε) (∃ e, ∃ n, iterO body n s = some e) (Classical.propDecidable _) (fun h => some (Classical.choose h)) (fun _ => none)
theorem whileO_iff {σ ε : Type} {body : σ → Option (σ ⊕ ε)} {s : σ} {e : ε} : whileO body s = some e ↔ ∃ n, iterO body n s = some e := by
  unfold whileO
  constructor
  · intro h
    split at h
    · rename_i hh
      cases h
      exact Classical.choose_spec hh
    · cases h
  · rintro ⟨n, hn⟩
    have hh : ∃ e, ∃ n, iterO body n s = some e := ⟨e, n, hn⟩
    rw [dif_pos hh]
    obtain ⟨m, hm⟩ := Classical.choose_spec hh
    have h1 := iterO_mono hn m
    have h2 := iterO_mono hm n
    rw [Nat.add_comm] at h2
    rw [h1] at h2
    exact h2.symm
theorem whileO_inl {σ ε : Type} {body : σ → Option (σ ⊕ ε)} {s s' : σ} (h : body s = some (.inl s')) : whileO body s = whileO body s' := by
  apply Option.ext
  intro e
  rw [whileO_iff, whileO_iff]
  constructor
  · rintro ⟨n, hn⟩
    cases n with
    | zero => cases hn
    | succ n => unfold iterO at hn; rw [h] at hn; exact ⟨n, hn⟩
  · rintro ⟨n, hn⟩
    exact ⟨n + 1, by unfold iterO; rw [h]; exact hn⟩
theorem whileO_inr {σ ε : Type} {body : σ → Option (σ ⊕ ε)} {s : σ} {e : ε} (h : body s = some (.inr e)) : whileO body s = some e :=
  whileO_iff.mpr ⟨1, by unfold iterO; rw [h]⟩
/-- a loop whose measure falls: what holds at its end -/
theorem whileO_ind {σ ε : Type} {body : σ → Option (σ ⊕ ε)} (I : Nat → σ → Prop) (Q : ε → Prop) (h : ∀ n s, I n s → (∃ e, body s = some (.inr e) ∧ Q e) ∨ (∃ s' m, body s = some (.inl s') ∧ m < n ∧ I m s')) : ∀ n s, I n s → ∃ e, whileO body s = some e ∧ Q e := by
  intro n
  induction n using Nat.strongRecOn with
  | ind n ih =>
    intro s hs
    rcases h n s hs with ⟨e, he, hq⟩ | ⟨s', m, hs', hm, hI⟩
    · exact ⟨e, whileO_inr he, hq⟩
    · rw [whileO_inl hs']
      exact ih m hm s' hI
def letI_ {α : Type} (x : Int) (f : Int → Option α) : Option α := f x
def letM_ {α : Type} (M : KM) (f : KM → Option α) : Option α := f M
/-- copies the first n of a row of ints -/
def mcp (M : KM) (k0 k1 n : Nat) : KM := fun k i => if k = k1 ∧ i < n then M k0 i else M k i
def kabs (x : Int) : Int := if 0 ≤ x then x else w32 (-x)
theorem kabs_R {x : Int} (h : R32 x) : R32 (kabs x) := by
  unfold kabs
  split
  · exact h
  · exact w32_R _
def kStB (k : Nat) : Bool := k == 34 || (decide (43 ≤ k) && decide (k < 330) && decide ((k - 43) % 7 = 0)) || (decide (361 ≤ k) && decide (k < 382) && decide ((k - 361) % 7 = 0))
def kswords : List Nat := [112, 101, 114, 115, 111, 110, 32, 97, 103, 101, 32, 99, 111, 105, 110, 32, 110, 101, 101, 100, 32, 102, 97, 109, 105, 108, 121, 32, 102, 114, 105, 101, 110, 100, 32, 116, 111, 32, 112, 114, 105, 99, 101, 32, 114, 105, 103, 104, 116, 32, 111, 100, 100, 115, 32, 97, 103, 101, 115, 32, 100, 114, 97, 119, 32, 111, 114, 32, 97, 110, 100, 32, 110, 111, 116, 32, 121, 101, 97, 114, 32]
def kssigns : List Nat := [59, 40, 41, 60, 62, 61, 43, 45, 42, 47, 37]
def kslen0 : Int := kswords.length
def kschar0 (i : Int) : Int := (kswords.getD i.toNat 0 : Nat)
def ksixF (c : Int) : List Nat → Nat → Int
  | [], _ => -1
  | x :: r, k => if (x : Int) = c then (k : Int) else ksixF c r (k + 1)
def ksidx1 (c : Int) : Int := ksixF c kssigns 0
def atM (M : KM) (k n : Nat) (i : Int) : Int := if 0 ≤ i ∧ i < (n : Int) then M k i.toNat else 0
def putM (M : KM) (k n : Nat) (i v : Int) : KM := if 0 ≤ i ∧ i < (n : Int) then mupd M k i.toNat v else M
def isInV (b i : Int) : Int := if 0 ≤ i ∧ i < 32 ∧ ¬ kiand (kiushr b i) 1 = 0 then 1 else 0
