/-! THE TWO TEXTS (rows still owed: sorry) -/
def kswords : List Nat := [112, 101, 114, 115, 111, 110, 32, 97, 103, 101, 32, 99, 111, 105, 110, 32, 110, 101, 101, 100, 32, 102, 97, 109, 105, 108, 121, 32, 102, 114, 105, 101, 110, 100, 32, 116, 111, 32, 112, 114, 105, 99, 101, 32, 114, 105, 103, 104, 116, 32, 111, 100, 100, 115, 32, 97, 103, 101, 115, 32, 100, 114, 97, 119, 32, 111, 114, 32, 97, 110, 100, 32, 110, 111, 116, 32, 121, 101, 97, 114, 32]
def kssigns : List Nat := [59, 40, 41, 60, 62, 61, 43, 45, 42, 47, 37]
def kslen0 : Int := kswords.length
def kschar0 (i : Int) : Int := (kswords.getD i.toNat 0 : Nat)
def ksixF (c : Int) : List Nat → Nat → Int
  | [], _ => -1
  | x :: r, k => if (x : Int) = c then (k : Int) else ksixF c r (k + 1)
def ksidx1 (c : Int) : Int := ksixF c kssigns 0
section KSTR
variable {α : Type} {G : Gam} {Y : KY} {e : Option α} {κ : α → KCf} {pc : Nat} {ls : List (Option KV)} {st : List KV} {S : KS} {M : KM}
theorem s_ldcS0 (hd : decode Y.2.1 pc = .ok (.ldc 69, 2)) (k : Sim G Y e (kC (pc + 2) ls (VA (G.2.1.2.2.2.1 0) :: st) S M) κ) : Sim G Y e (kC pc ls st S M) κ := sorry
theorem s_ldcS1 (hd : decode Y.2.1 pc = .ok (.ldc 56, 2)) (k : Sim G Y e (kC (pc + 2) ls (VA (G.2.1.2.2.2.1 1) :: st) S M) κ) : Sim G Y e (kC pc ls st S M) κ := sorry
theorem s_str_length0 {idx : Nat} (hd : decode Y.2.1 pc = .ok (.invokevirtual idx, 3)) (hh : (Nat.ble 12 Y.2.2.2.2 && Nat.ble (kwords st) 8) = true) (k : Sim G Y e (kC (pc + 3) ls (VI kslen0 :: st) S M) κ) : Sim G Y e (kC pc ls (VA (G.2.1.2.2.2.1 0) :: st) S M) κ := sorry
theorem s_str_charAt0 {idx : Nat} {i : Int} (hd : decode Y.2.1 pc = .ok (.invokevirtual idx, 3)) (hh : (Nat.ble 12 Y.2.2.2.2 && Nat.ble (kwords st) 8) = true) (k : Sim G Y e (kC (pc + 3) ls (VI (kschar0 i) :: st) S M) κ) : Sim G Y (if 0 ≤ i ∧ i < kslen0 then e else none) (kC pc ls (VI i :: VA (G.2.1.2.2.2.1 0) :: st) S M) κ := sorry
theorem s_str_indexOf1 {idx : Nat} {c : Int} (hd : decode Y.2.1 pc = .ok (.invokevirtual idx, 3)) (hh : (Nat.ble 12 Y.2.2.2.2 && Nat.ble (kwords st) 8) = true) (k : Sim G Y e (kC (pc + 3) ls (VI (ksidx1 c) :: st) S M) κ) : Sim G Y e (kC pc ls (VI c :: VA (G.2.1.2.2.2.1 1) :: st) S M) κ := sorry
end KSTR
