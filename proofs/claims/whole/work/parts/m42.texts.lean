/-! THE TWO TEXTS (rows still owed: sorry) -/
section KSTR
variable {α : Type} {G : Gam} {Y : KY} {e : Option α} {κ : α → KCf} {pc : Nat} {ls : List (Option KV)} {st : List KV} {S : KS} {M : KM}
theorem s_ldcS0 (hd : decode Y.2.1 pc = .ok (.ldc 69, 2)) (k : Sim G Y e (kC (pc + 2) ls (VA (G.2.1.2.2.2.1 0) :: st) S M) κ) : Sim G Y e (kC pc ls st S M) κ := sorry
theorem s_ldcS1 (hd : decode Y.2.1 pc = .ok (.ldc 56, 2)) (k : Sim G Y e (kC (pc + 2) ls (VA (G.2.1.2.2.2.1 1) :: st) S M) κ) : Sim G Y e (kC pc ls st S M) κ := sorry
theorem s_str_length0 {idx : Nat} (hd : decode Y.2.1 pc = .ok (.invokevirtual idx, 3)) (hh : (Nat.ble 12 Y.2.2.2.2 && Nat.ble (kwords st) 8) = true) (k : Sim G Y e (kC (pc + 3) ls (VI kslen0 :: st) S M) κ) : Sim G Y e (kC pc ls (VA (G.2.1.2.2.2.1 0) :: st) S M) κ := sorry
theorem s_str_charAt0 {idx : Nat} {i : Int} (hd : decode Y.2.1 pc = .ok (.invokevirtual idx, 3)) (hh : (Nat.ble 12 Y.2.2.2.2 && Nat.ble (kwords st) 8) = true) (k : Sim G Y e (kC (pc + 3) ls (VI (kschar0 i) :: st) S M) κ) : Sim G Y (if 0 ≤ i ∧ i < kslen0 then e else none) (kC pc ls (VI i :: VA (G.2.1.2.2.2.1 0) :: st) S M) κ := sorry
theorem s_str_indexOf1 {idx : Nat} {c : Int} (hd : decode Y.2.1 pc = .ok (.invokevirtual idx, 3)) (hh : (Nat.ble 12 Y.2.2.2.2 && Nat.ble (kwords st) 8) = true) (k : Sim G Y e (kC (pc + 3) ls (VI (ksidx1 c) :: st) S M) κ) : Sim G Y e (kC pc ls (VI c :: VA (G.2.1.2.2.2.1 1) :: st) S M) κ := sorry
end KSTR
