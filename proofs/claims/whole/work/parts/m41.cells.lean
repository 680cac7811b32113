/-! BINDS, CALLS BY KIND -/
section KB
variable {α : Type} {G : Gam} {Y Y' : KY} {e e1 e2 : Option α} {κ : α → KCf} {pc : Nat} {ls : List (Option KV)} {st : List KV} {S : KS} {M : KM}
theorem s_bd {β : Type} {e : Option α} {f : α → Option β} {cf : KCf} {κ : α → KCf} {κ' : β → KCf} (h : Sim G Y e cf κ) (k : ∀ a, Sim G Y (f a) (κ a) κ') : Sim G Y (Option.bind e f) cf κ' := s_bind h k
theorem s_none {cf : KCf} : Sim G Y (none : Option α) cf κ := fun _ _ h => by cases h
theorem s_zret01 {n : Int} {a : α} (hd : decode Y.2.1 pc = .ok (.ireturn, 1)) (hr0 : Y.2.2.2.1 = some .boolean) (hn : (decide (0 ≤ n) && decide (n ≤ 1)) = true) (hκ : κ a = .inr (some (VI n), S, M)) : Sim G Y (some a) (kC pc ls [VI n] S M) κ := by
  simp only [Bool.and_eq_true, decide_eq_true_eq] at hn
  have h := s_zret (a := a) (ls := ls) hd hr0 hκ (G := G)
  rw [if_pos hn] at h
  exact h
theorem kInvS {idx pc np : Nat} {y : MethodName} {as : List KV} {ret : Option FieldType} (hd : decode Y.2.1 pc = .ok (.invokestatic idx, 3)) (hs : Cond.static y ∈ tbg) (hl : as.length = np) : kInv Y S idx pc y as ret np := Or.inl ⟨hd, hs, hl⟩
theorem kInvV {idx pc np k n : Nat} {rs : List (Option Nat)} {y : MethodName} {as : List KV} {ret : Option FieldType} (hd : decode Y.2.1 pc = .ok (.invokevirtual idx, 3)) (hi : Cond.instanceMethod y ∈ tbg) (c : Nat) (hc : Nat.ble (c + 1) 13 = true) (hS : S[k]? = some ((c, n), rs)) (hsel : Cond.selects (kCn c) y y ∈ tbg) (hl : as.length = np) : kInv Y S idx pc y (VR (some k) :: as) ret np :=
  Or.inr (Or.inl ⟨hd, hi, c, k, n, rs, as, Nat.le_of_ble_eq_true hc, hS, hsel, rfl, hl⟩)
theorem s_callO {β : Type} {f : Option β} {g : β → Option α} {y : MethodName} {np idx : Nat} {as st0 : List KV} {r : β → Option KV} {M' : β → KM} (hi : kInv Y S idx pc y as Y'.2.2.2.1 np) (hl : kML Y.1 idx y) (hm : KMd y Y' np) (hst : st0 = as.reverse ++ st) (hh : (Nat.ble (Y'.2.2.2.2 + 1) Y.2.2.2.2 && Nat.ble (kwords st) 8) = true) (hC : ∀ q, f = some q → Ctr y Y' as S M (r q) S (M' q))
    (k : ∀ q, Sim G Y (g q) (kC (pc + 3) ls ((r q).toList ++ st) S (M' q)) κ) : Sim G Y (Option.bind f g) (kC pc ls st0 S M) κ := s_callE hi hl hm hst hh hC k
end KB
theorem kbleR (d : Nat) {n : Nat} {b : Bool} (hb : b = true) : (Nat.ble (d + n + 1) (d + 1 + n) && b) = true := by
  rw [hb, Bool.and_true]
  exact Nat.ble_eq_true_of_le (by omega)
/-! THE CELLS THAT THE CONSTRUCTORS MAKE -/
def kHistRefs : List (Option Nat) := (List.range 41).map fun i => some (43 + 7 * i)
/-- all cells of the system and of the reference, in the order in which the constructors make them -/
def kS0 : KS := [((0, 17), [some 1, none, some 2, some 14, some 34, some 41, some 330, none, some 331, none, some 332, some 340, some 345, some 349, some 355, some 360, none]),
  ((22, 1600), []),
  ((12, 17), [none, some 3, some 4, some 5, some 6, none, some 7, some 8, some 9, none, some 10, none, none, none, none, none, some 11]),
  ((20, 8), []),
  ((20, 8), []),
  ((20, 8), []),
  ((20, 8), []),
  ((20, 20), []),
  ((20, 20), []),
  ((20, 20), []),
  ((20, 6), []),
  ((4, 4), [some 12, none, some 13, none]),
  ((20, 1600), []),
  ((20, 31), []),
  ((7, 12), [none, none, some 15, some 27, none, none, none, none, none, none, some 32, some 33]),
  ((12, 17), [none, some 16, some 17, some 18, some 19, none, some 20, some 21, some 22, none, some 23, none, none, none, none, none, some 24]),
  ((20, 8), []),
  ((20, 8), []),
  ((20, 8), []),
  ((20, 8), []),
  ((20, 20), []),
  ((20, 20), []),
  ((20, 20), []),
  ((20, 6), []),
  ((4, 4), [some 25, none, some 26, none]),
  ((20, 1600), []),
  ((20, 31), []),
  ((11, 6), [some 28, some 29, some 30, some 31, none, none]),
  ((20, 1601), []),
  ((20, 1601), []),
  ((20, 1601), []),
  ((21, 1601), []),
  ((21, 8), []),
  ((21, 6), []),
  ((10, 13), [some 35, some 36, none, none, none, none, none, none, none, some 37, some 38, some 39, some 40]),
  ((20, 8), []),
  ((20, 8), []),
  ((20, 30), []),
  ((20, 30), []),
  ((20, 30), []),
  ((20, 30), []),
  ((6, 4), [some 42, none, none, none]),
  ((24, 41), kHistRefs),
  ((10, 13), [some 44, some 45, none, none, none, none, none, none, none, some 46, some 47, some 48, some 49]),
  ((20, 8), []),
  ((20, 8), []),
  ((20, 30), []),
  ((20, 30), []),
  ((20, 30), []),
  ((20, 30), []),
  ((10, 13), [some 51, some 52, none, none, none, none, none, none, none, some 53, some 54, some 55, some 56]),
  ((20, 8), []),
  ((20, 8), []),
  ((20, 30), []),
  ((20, 30), []),
  ((20, 30), []),
  ((20, 30), []),
  ((10, 13), [some 58, some 59, none, none, none, none, none, none, none, some 60, some 61, some 62, some 63]),
  ((20, 8), []),
  ((20, 8), []),
  ((20, 30), []),
  ((20, 30), []),
  ((20, 30), []),
  ((20, 30), []),
  ((10, 13), [some 65, some 66, none, none, none, none, none, none, none, some 67, some 68, some 69, some 70]),
  ((20, 8), []),
  ((20, 8), []),
  ((20, 30), []),
  ((20, 30), []),
  ((20, 30), []),
  ((20, 30), []),
  ((10, 13), [some 72, some 73, none, none, none, none, none, none, none, some 74, some 75, some 76, some 77]),
  ((20, 8), []),
  ((20, 8), []),
  ((20, 30), []),
  ((20, 30), []),
  ((20, 30), []),
  ((20, 30), []),
  ((10, 13), [some 79, some 80, none, none, none, none, none, none, none, some 81, some 82, some 83, some 84]),
  ((20, 8), []),
  ((20, 8), []),
  ((20, 30), []),
  ((20, 30), []),
  ((20, 30), []),
  ((20, 30), []),
  ((10, 13), [some 86, some 87, none, none, none, none, none, none, none, some 88, some 89, some 90, some 91]),
  ((20, 8), []),
  ((20, 8), []),
  ((20, 30), []),
  ((20, 30), []),
  ((20, 30), []),
  ((20, 30), []),
  ((10, 13), [some 93, some 94, none, none, none, none, none, none, none, some 95, some 96, some 97, some 98]),
  ((20, 8), []),
  ((20, 8), []),
  ((20, 30), []),
  ((20, 30), []),
  ((20, 30), []),
  ((20, 30), []),
  ((10, 13), [some 100, some 101, none, none, none, none, none, none, none, some 102, some 103, some 104, some 105]),
  ((20, 8), []),
  ((20, 8), []),
  ((20, 30), []),
  ((20, 30), []),
  ((20, 30), []),
  ((20, 30), []),
  ((10, 13), [some 107, some 108, none, none, none, none, none, none, none, some 109, some 110, some 111, some 112]),
  ((20, 8), []),
  ((20, 8), []),
  ((20, 30), []),
  ((20, 30), []),
  ((20, 30), []),
  ((20, 30), []),
  ((10, 13), [some 114, some 115, none, none, none, none, none, none, none, some 116, some 117, some 118, some 119]),
  ((20, 8), []),
  ((20, 8), []),
  ((20, 30), []),
  ((20, 30), []),
  ((20, 30), []),
  ((20, 30), []),
  ((10, 13), [some 121, some 122, none, none, none, none, none, none, none, some 123, some 124, some 125, some 126]),
  ((20, 8), []),
  ((20, 8), []),
  ((20, 30), []),
  ((20, 30), []),
  ((20, 30), []),
  ((20, 30), []),
  ((10, 13), [some 128, some 129, none, none, none, none, none, none, none, some 130, some 131, some 132, some 133]),
  ((20, 8), []),
  ((20, 8), []),
  ((20, 30), []),
  ((20, 30), []),
  ((20, 30), []),
  ((20, 30), []),
  ((10, 13), [some 135, some 136, none, none, none, none, none, none, none, some 137, some 138, some 139, some 140]),
  ((20, 8), []),
  ((20, 8), []),
  ((20, 30), []),
  ((20, 30), []),
  ((20, 30), []),
  ((20, 30), []),
  ((10, 13), [some 142, some 143, none, none, none, none, none, none, none, some 144, some 145, some 146, some 147]),
  ((20, 8), []),
  ((20, 8), []),
  ((20, 30), []),
  ((20, 30), []),
  ((20, 30), []),
  ((20, 30), []),
  ((10, 13), [some 149, some 150, none, none, none, none, none, none, none, some 151, some 152, some 153, some 154]),
  ((20, 8), []),
  ((20, 8), []),
  ((20, 30), []),
  ((20, 30), []),
  ((20, 30), []),
  ((20, 30), []),
  ((10, 13), [some 156, some 157, none, none, none, none, none, none, none, some 158, some 159, some 160, some 161]),
  ((20, 8), []),
  ((20, 8), []),
  ((20, 30), []),
  ((20, 30), []),
  ((20, 30), []),
  ((20, 30), []),
  ((10, 13), [some 163, some 164, none, none, none, none, none, none, none, some 165, some 166, some 167, some 168]),
  ((20, 8), []),
  ((20, 8), []),
  ((20, 30), []),
  ((20, 30), []),
  ((20, 30), []),
  ((20, 30), []),
  ((10, 13), [some 170, some 171, none, none, none, none, none, none, none, some 172, some 173, some 174, some 175]),
  ((20, 8), []),
  ((20, 8), []),
  ((20, 30), []),
  ((20, 30), []),
  ((20, 30), []),
  ((20, 30), []),
  ((10, 13), [some 177, some 178, none, none, none, none, none, none, none, some 179, some 180, some 181, some 182]),
  ((20, 8), []),
  ((20, 8), []),
  ((20, 30), []),
  ((20, 30), []),
  ((20, 30), []),
  ((20, 30), []),
  ((10, 13), [some 184, some 185, none, none, none, none, none, none, none, some 186, some 187, some 188, some 189]),
  ((20, 8), []),
  ((20, 8), []),
  ((20, 30), []),
  ((20, 30), []),
  ((20, 30), []),
  ((20, 30), []),
  ((10, 13), [some 191, some 192, none, none, none, none, none, none, none, some 193, some 194, some 195, some 196]),
  ((20, 8), []),
  ((20, 8), []),
  ((20, 30), []),
  ((20, 30), []),
  ((20, 30), []),
  ((20, 30), []),
  ((10, 13), [some 198, some 199, none, none, none, none, none, none, none, some 200, some 201, some 202, some 203]),
  ((20, 8), []),
  ((20, 8), []),
  ((20, 30), []),
  ((20, 30), []),
  ((20, 30), []),
  ((20, 30), []),
  ((10, 13), [some 205, some 206, none, none, none, none, none, none, none, some 207, some 208, some 209, some 210]),
  ((20, 8), []),
  ((20, 8), []),
  ((20, 30), []),
  ((20, 30), []),
  ((20, 30), []),
  ((20, 30), []),
  ((10, 13), [some 212, some 213, none, none, none, none, none, none, none, some 214, some 215, some 216, some 217]),
  ((20, 8), []),
  ((20, 8), []),
  ((20, 30), []),
  ((20, 30), []),
  ((20, 30), []),
  ((20, 30), []),
  ((10, 13), [some 219, some 220, none, none, none, none, none, none, none, some 221, some 222, some 223, some 224]),
  ((20, 8), []),
  ((20, 8), []),
  ((20, 30), []),
  ((20, 30), []),
  ((20, 30), []),
  ((20, 30), []),
  ((10, 13), [some 226, some 227, none, none, none, none, none, none, none, some 228, some 229, some 230, some 231]),
  ((20, 8), []),
  ((20, 8), []),
  ((20, 30), []),
  ((20, 30), []),
  ((20, 30), []),
  ((20, 30), []),
  ((10, 13), [some 233, some 234, none, none, none, none, none, none, none, some 235, some 236, some 237, some 238]),
  ((20, 8), []),
  ((20, 8), []),
  ((20, 30), []),
  ((20, 30), []),
  ((20, 30), []),
  ((20, 30), []),
  ((10, 13), [some 240, some 241, none, none, none, none, none, none, none, some 242, some 243, some 244, some 245]),
  ((20, 8), []),
  ((20, 8), []),
  ((20, 30), []),
  ((20, 30), []),
  ((20, 30), []),
  ((20, 30), []),
  ((10, 13), [some 247, some 248, none, none, none, none, none, none, none, some 249, some 250, some 251, some 252]),
  ((20, 8), []),
  ((20, 8), []),
  ((20, 30), []),
  ((20, 30), []),
  ((20, 30), []),
  ((20, 30), []),
  ((10, 13), [some 254, some 255, none, none, none, none, none, none, none, some 256, some 257, some 258, some 259]),
  ((20, 8), []),
  ((20, 8), []),
  ((20, 30), []),
  ((20, 30), []),
  ((20, 30), []),
  ((20, 30), []),
  ((10, 13), [some 261, some 262, none, none, none, none, none, none, none, some 263, some 264, some 265, some 266]),
  ((20, 8), []),
  ((20, 8), []),
  ((20, 30), []),
  ((20, 30), []),
  ((20, 30), []),
  ((20, 30), []),
  ((10, 13), [some 268, some 269, none, none, none, none, none, none, none, some 270, some 271, some 272, some 273]),
  ((20, 8), []),
  ((20, 8), []),
  ((20, 30), []),
  ((20, 30), []),
  ((20, 30), []),
  ((20, 30), []),
  ((10, 13), [some 275, some 276, none, none, none, none, none, none, none, some 277, some 278, some 279, some 280]),
  ((20, 8), []),
  ((20, 8), []),
  ((20, 30), []),
  ((20, 30), []),
  ((20, 30), []),
  ((20, 30), []),
  ((10, 13), [some 282, some 283, none, none, none, none, none, none, none, some 284, some 285, some 286, some 287]),
  ((20, 8), []),
  ((20, 8), []),
  ((20, 30), []),
  ((20, 30), []),
  ((20, 30), []),
  ((20, 30), []),
  ((10, 13), [some 289, some 290, none, none, none, none, none, none, none, some 291, some 292, some 293, some 294]),
  ((20, 8), []),
  ((20, 8), []),
  ((20, 30), []),
  ((20, 30), []),
  ((20, 30), []),
  ((20, 30), []),
  ((10, 13), [some 296, some 297, none, none, none, none, none, none, none, some 298, some 299, some 300, some 301]),
  ((20, 8), []),
  ((20, 8), []),
  ((20, 30), []),
  ((20, 30), []),
  ((20, 30), []),
  ((20, 30), []),
  ((10, 13), [some 303, some 304, none, none, none, none, none, none, none, some 305, some 306, some 307, some 308]),
  ((20, 8), []),
  ((20, 8), []),
  ((20, 30), []),
  ((20, 30), []),
  ((20, 30), []),
  ((20, 30), []),
  ((10, 13), [some 310, some 311, none, none, none, none, none, none, none, some 312, some 313, some 314, some 315]),
  ((20, 8), []),
  ((20, 8), []),
  ((20, 30), []),
  ((20, 30), []),
  ((20, 30), []),
  ((20, 30), []),
  ((10, 13), [some 317, some 318, none, none, none, none, none, none, none, some 319, some 320, some 321, some 322]),
  ((20, 8), []),
  ((20, 8), []),
  ((20, 30), []),
  ((20, 30), []),
  ((20, 30), []),
  ((20, 30), []),
  ((10, 13), [some 324, some 325, none, none, none, none, none, none, none, some 326, some 327, some 328, some 329]),
  ((20, 8), []),
  ((20, 8), []),
  ((20, 30), []),
  ((20, 30), []),
  ((20, 30), []),
  ((20, 30), []),
  ((24, 3), [some 361, some (361 + 7), some (361 + 14)]),
  ((20, 8), []),
  ((8, 7), [some 333, some 334, some 335, some 336, some 337, some 338, some 339]),
  ((20, 8), []),
  ((20, 151), []),
  ((20, 64), []),
  ((20, 8), []),
  ((20, 20), []),
  ((20, 8), []),
  ((20, 8), []),
  ((2, 5), [some 341, none, some 342, some 343, some 344]),
  ((20, 8), []),
  ((20, 256), []),
  ((20, 256), []),
  ((20, 8), []),
  ((9, 5), [some 346, some 347, some 348, none, none]),
  ((20, 151), []),
  ((20, 8), []),
  ((20, 10809), []),
  ((3, 9), [none, none, some 350, some 351, some 352, some 353, none, some 354, none]),
  ((20, 30), []),
  ((20, 30), []),
  ((20, 30), []),
  ((20, 30), []),
  ((20, 8), []),
  ((5, 10), [none, none, some 356, none, none, some 357, some 358, some 359, none, none]),
  ((20, 4), []),
  ((20, 4), []),
  ((20, 8), []),
  ((20, 8), []),
  ((20, 8), []),
  ((10, 13), [some 362, some 363, none, none, none, none, none, none, none, some 364, some 365, some 366, some 367]),
  ((20, 8), []),
  ((20, 8), []),
  ((20, 30), []),
  ((20, 30), []),
  ((20, 30), []),
  ((20, 30), []),
  ((10, 13), [some 369, some 370, none, none, none, none, none, none, none, some 371, some 372, some 373, some 374]),
  ((20, 8), []),
  ((20, 8), []),
  ((20, 30), []),
  ((20, 30), []),
  ((20, 30), []),
  ((20, 30), []),
  ((10, 13), [some 376, some 377, none, none, none, none, none, none, none, some 378, some 379, some 380, some 381]),
  ((20, 8), []),
  ((20, 8), []),
  ((20, 30), []),
  ((20, 30), []),
  ((20, 30), []),
  ((20, 30), []),
  ((1, 78), [some 383, some 384, none, none, none, none, none, none, none, none, none, some 385, some 386, some 387, some 388, some 389, some 390, some 391, some 392, some 393, some 394, some 395, some 396, some 397, some 398, some 399, some 400, some 401, some 402, some 403, some 404, some 405, some 406, some 407, some 408, some 409, some 410, none, none, none, none, none, none, none, none, none, some 411, some 412, none, none, some 413, some 414, some 415, some 416, some 417, some 418, some 419, some 420, some 421, none, some 422, some 423, some 424, none, some 425, some 426, some 427, some 428, some 429, some 430, some 431, none, none, none, none, some 432, some 433, some 434]),
  ((22, 1620), []),
  ((22, 1600), []),
  ((20, 2), []),
  ((20, 2), []),
  ((20, 2), []),
  ((20, 2), []),
  ((20, 2), []),
  ((20, 2), []),
  ((20, 2), []),
  ((20, 2), []),
  ((20, 16), []),
  ((20, 16), []),
  ((20, 16), []),
  ((20, 16), []),
  ((20, 40), []),
  ((20, 40), []),
  ((20, 40), []),
  ((20, 14), []),
  ((20, 14), []),
  ((23, 2), []),
  ((23, 14), []),
  ((21, 16), []),
  ((21, 12), []),
  ((20, 1120), []),
  ((20, 1120), []),
  ((20, 90), []),
  ((20, 90), []),
  ((20, 60), []),
  ((20, 171), []),
  ((20, 7011), []),
  ((20, 64), []),
  ((20, 8), []),
  ((20, 8), []),
  ((20, 64), []),
  ((20, 8), []),
  ((20, 8), []),
  ((23, 8), []),
  ((20, 8), []),
  ((20, 256), []),
  ((20, 10809), []),
  ((20, 151), []),
  ((20, 8), []),
  ((20, 8), []),
  ((20, 30), []),
  ((20, 30), []),
  ((20, 30), []),
  ((20, 30), []),
  ((20, 8), []),
  ((20, 8), []),
  ((20, 8), []),
  ((20, 513), []),
  ((23, 3), [])]
def KExt (n : Nat) (S : KS) : Prop := ∀ (k : Nat) (q : KQ), k < n → kS0[k]? = some q → S[k]? = some q
theorem kxt {S : KS} {n : Nat} (h : KExt 435 S) (hn : n ≤ 435 := by decide) : KExt n S := fun k q hk hq => h k q (Nat.lt_of_lt_of_le hk hn) hq
def kSt (S : KS) (k : Nat) : Prop := S[k]? = some ((10, 13), [some (k + 1), some (k + 2), none, none, none, none, none, none, none, some (k + 3), some (k + 4), some (k + 5), some (k + 6)]) ∧ S[k + 1]? = some ((20, 8), []) ∧ S[k + 2]? = some ((20, 8), []) ∧ S[k + 3]? = some ((20, 30), []) ∧ S[k + 4]? = some ((20, 30), []) ∧ S[k + 5]? = some ((20, 30), []) ∧ S[k + 6]? = some ((20, 30), [])
def kStRs (k : Nat) : List (Option Nat) := [some (k + 1), some (k + 2), none, none, none, none, none, none, none, some (k + 3), some (k + 4), some (k + 5), some (k + 6)]
def kSeq (a b : Option KQ) : Bool := decide (a = b)
theorem kSt0a' : ∀ k, k < 382 → kStB k = true → kSeq kS0[k]? (some ((10, 13), kStRs k)) = true := by decide +kernel
theorem kSt0a (k : Nat) (h : k < 382) (h2 : kStB k = true) : kS0[k]? = some ((10, 13), kStRs k) := of_decide_eq_true (kSt0a' k h h2)
theorem kSt0b : ∀ k, k < 382 → kStB k = true → k + 6 < 382 := by decide +kernel
theorem kSt0_1' : ∀ k, k < 382 → kStB k = true → kSeq kS0[k + 1]? (some ((20, 8), [])) = true := by decide +kernel
theorem kSt0_1 (k : Nat) (h : k < 382) (h2 : kStB k = true) : kS0[k + 1]? = some ((20, 8), []) := of_decide_eq_true (kSt0_1' k h h2)
theorem kSt0_2' : ∀ k, k < 382 → kStB k = true → kSeq kS0[k + 2]? (some ((20, 8), [])) = true := by decide +kernel
theorem kSt0_2 (k : Nat) (h : k < 382) (h2 : kStB k = true) : kS0[k + 2]? = some ((20, 8), []) := of_decide_eq_true (kSt0_2' k h h2)
theorem kSt0_3' : ∀ k, k < 382 → kStB k = true → kSeq kS0[k + 3]? (some ((20, 30), [])) = true := by decide +kernel
theorem kSt0_3 (k : Nat) (h : k < 382) (h2 : kStB k = true) : kS0[k + 3]? = some ((20, 30), []) := of_decide_eq_true (kSt0_3' k h h2)
theorem kSt0_4' : ∀ k, k < 382 → kStB k = true → kSeq kS0[k + 4]? (some ((20, 30), [])) = true := by decide +kernel
theorem kSt0_4 (k : Nat) (h : k < 382) (h2 : kStB k = true) : kS0[k + 4]? = some ((20, 30), []) := of_decide_eq_true (kSt0_4' k h h2)
theorem kSt0_5' : ∀ k, k < 382 → kStB k = true → kSeq kS0[k + 5]? (some ((20, 30), [])) = true := by decide +kernel
theorem kSt0_5 (k : Nat) (h : k < 382) (h2 : kStB k = true) : kS0[k + 5]? = some ((20, 30), []) := of_decide_eq_true (kSt0_5' k h h2)
theorem kSt0_6' : ∀ k, k < 382 → kStB k = true → kSeq kS0[k + 6]? (some ((20, 30), [])) = true := by decide +kernel
theorem kSt0_6 (k : Nat) (h : k < 382) (h2 : kStB k = true) : kS0[k + 6]? = some ((20, 30), []) := of_decide_eq_true (kSt0_6' k h h2)
theorem kSt_of {S : KS} (hS : KExt 382 S) {k : Nat} (h : kStB k = true) : kSt S k := by
  have hk : k < 382 := by
    unfold kStB at h
    simp only [Bool.or_eq_true, Bool.and_eq_true, decide_eq_true_eq, beq_iff_eq] at h
    omega
  have hn := kSt0b k hk h
  exact ⟨hS _ _ hk (kSt0a k hk h), hS _ _ (by omega) (kSt0_1 k hk h), hS _ _ (by omega) (kSt0_2 k hk h), hS _ _ (by omega) (kSt0_3 k hk h), hS _ _ (by omega) (kSt0_4 k hk h), hS _ _ (by omega) (kSt0_5 k hk h), hS _ _ hn (kSt0_6 k hk h)⟩
theorem ho_hist {i : Int} (h : 0 ≤ i ∧ i < 41) : kHistRefs.getD i.toNat none = some (43 + 7 * i.toNat) := by
  have : i.toNat < 41 := by omega
  unfold kHistRefs
  rw [List.getD_eq_getElem?_getD, List.getElem?_map, List.getElem?_range this]
  rfl
theorem ho_box {i : Int} (h : 0 ≤ i ∧ i < 3) : ([some 361, some (361 + 7), some (361 + 14)] : List (Option Nat)).getD i.toNat none = some (361 + 7 * i.toNat) := by
  have : i = 0 ∨ i = 1 ∨ i = 2 := by omega
  rcases this with rfl | rfl | rfl <;> rfl
/-! THE LAW'S SCRIPT -/
def kScr (G : Gam) (b0 L : Nat) (xs : Nat → Int) : Prop := match G with
  | ((_, _, _, _, s, _, _, _, _, _), (_, _, b, _, _), _, _) => (∃ X : Nat → Int32, va_X b0 L X s s.heap ∧ ∀ j, xs j = (X j).toInt) ∧ b0 < s.heap.size ∧ b0 < b ∧ L < 2147483648
section KSCR
variable {α : Type} {G : Gam} {Y : KY} {e : Option α} {κ : α → KCf} {pc : Nat} {ls : List (Option KV)} {st : List KV} {S : KS} {M : KM} {b0 L : Nat} {xs : Nat → Int}
theorem s_slen (hX : kScr G b0 L xs) (hd : decode Y.2.1 pc = .ok (.arraylength, 1)) (k : Sim G Y e (kC (pc + 1) ls (VI (L : Int) :: st) S M) κ) : Sim G Y e (kC pc ls (VA b0 :: st) S M) κ := by
  intro hG a ha hk
  have k1 := k hG a ha hk
  obtain ⟨⟨p, l, e, R, s, m, args, below, meth, c⟩, ⟨D, dA, b, aK, aV⟩, ⟨n0, z0, nc, nz⟩, tg⟩ := G
  obtain ⟨hx, hb, -⟩ := hG
  obtain ⟨⟨X, hX, -⟩, hb1, hb2, hL⟩ := hX
  intro H locs la hM hc hl hs hn hS hlo
  refine va_slen hx hb hX hb1 (fun q => by have : b ≤ b0 := q; omega) hS hd ?_
  have e : Int32.ofNat L = Int32.ofInt (L : Int) := Int32.ofInt_eq_ofNat.symm
  rw [e]
  exact k1 H locs la hM hc hl (kst_I (by constructor <;> omega) (kst_tl hs)) hn hS hlo
theorem s_sld {i : Int} (hX : kScr G b0 L xs) (hd : decode Y.2.1 pc = .ok (.iaload, 1)) (k : Sim G Y e (kC (pc + 1) ls (VI (xs i.toNat) :: st) S M) κ) : Sim G Y (if 0 ≤ i ∧ i < (L : Int) then e else none) (kC pc ls (VI i :: VA b0 :: st) S M) κ := by
  refine s_if fun hi => ?_
  intro hG a ha hk
  have k1 := k hG a ha hk
  obtain ⟨⟨p, l, e, R, s, m, args, below, meth, c⟩, ⟨D, dA, b, aK, aV⟩, ⟨n0, z0, nc, nz⟩, tg⟩ := G
  obtain ⟨hx, hb, -⟩ := hG
  obtain ⟨⟨X, hX, hxs⟩, hb1, hb2, hL⟩ := hX
  intro H locs la hM hc hl hs hn hS hlo
  obtain ⟨h1, h2⟩ := kin_of hi (kst_hI hs)
  refine va_sld hx hb hX hb1 (fun q => by have : b ≤ b0 := q; omega) hS h1 hd ?_
  have e : X (Int32.ofInt i).toNatClampNeg = Int32.ofInt (xs i.toNat) := by rw [h2, hxs, Int32.ofInt_toInt]
  rw [e]
  exact k1 H locs la hM hc hl (kst_I (by rw [hxs]; exact R32_i _) (kst_tl (kst_tl hs))) hn hS hlo
end KSCR
theorem sc_0 {S : KS} (hS : KExt 382 S) : S[0]? = some ((0, 17), [some 1, none, some 2, some 14, some 34, some 41, some 330, none, some 331, none, some 332, some 340, some 345, some 349, some 355, some 360, none]) := hS 0 _ (by decide) (by decide +kernel)
theorem sc_1 {S : KS} (hS : KExt 382 S) : S[1]? = some ((22, 1600), []) := hS 1 _ (by decide) (by decide +kernel)
theorem sc_2 {S : KS} (hS : KExt 382 S) : S[2]? = some ((12, 17), [none, some 3, some 4, some 5, some 6, none, some 7, some 8, some 9, none, some 10, none, none, none, none, none, some 11]) := hS 2 _ (by decide) (by decide +kernel)
theorem sc_3 {S : KS} (hS : KExt 382 S) : S[3]? = some ((20, 8), []) := hS 3 _ (by decide) (by decide +kernel)
theorem sc_4 {S : KS} (hS : KExt 382 S) : S[4]? = some ((20, 8), []) := hS 4 _ (by decide) (by decide +kernel)
theorem sc_5 {S : KS} (hS : KExt 382 S) : S[5]? = some ((20, 8), []) := hS 5 _ (by decide) (by decide +kernel)
theorem sc_6 {S : KS} (hS : KExt 382 S) : S[6]? = some ((20, 8), []) := hS 6 _ (by decide) (by decide +kernel)
theorem sc_7 {S : KS} (hS : KExt 382 S) : S[7]? = some ((20, 20), []) := hS 7 _ (by decide) (by decide +kernel)
theorem sc_8 {S : KS} (hS : KExt 382 S) : S[8]? = some ((20, 20), []) := hS 8 _ (by decide) (by decide +kernel)
theorem sc_9 {S : KS} (hS : KExt 382 S) : S[9]? = some ((20, 20), []) := hS 9 _ (by decide) (by decide +kernel)
theorem sc_10 {S : KS} (hS : KExt 382 S) : S[10]? = some ((20, 6), []) := hS 10 _ (by decide) (by decide +kernel)
theorem sc_11 {S : KS} (hS : KExt 382 S) : S[11]? = some ((4, 4), [some 12, none, some 13, none]) := hS 11 _ (by decide) (by decide +kernel)
theorem sc_12 {S : KS} (hS : KExt 382 S) : S[12]? = some ((20, 1600), []) := hS 12 _ (by decide) (by decide +kernel)
theorem sc_13 {S : KS} (hS : KExt 382 S) : S[13]? = some ((20, 31), []) := hS 13 _ (by decide) (by decide +kernel)
theorem sc_14 {S : KS} (hS : KExt 382 S) : S[14]? = some ((7, 12), [none, none, some 15, some 27, none, none, none, none, none, none, some 32, some 33]) := hS 14 _ (by decide) (by decide +kernel)
theorem sc_15 {S : KS} (hS : KExt 382 S) : S[15]? = some ((12, 17), [none, some 16, some 17, some 18, some 19, none, some 20, some 21, some 22, none, some 23, none, none, none, none, none, some 24]) := hS 15 _ (by decide) (by decide +kernel)
theorem sc_16 {S : KS} (hS : KExt 382 S) : S[16]? = some ((20, 8), []) := hS 16 _ (by decide) (by decide +kernel)
theorem sc_17 {S : KS} (hS : KExt 382 S) : S[17]? = some ((20, 8), []) := hS 17 _ (by decide) (by decide +kernel)
theorem sc_18 {S : KS} (hS : KExt 382 S) : S[18]? = some ((20, 8), []) := hS 18 _ (by decide) (by decide +kernel)
theorem sc_19 {S : KS} (hS : KExt 382 S) : S[19]? = some ((20, 8), []) := hS 19 _ (by decide) (by decide +kernel)
theorem sc_20 {S : KS} (hS : KExt 382 S) : S[20]? = some ((20, 20), []) := hS 20 _ (by decide) (by decide +kernel)
theorem sc_21 {S : KS} (hS : KExt 382 S) : S[21]? = some ((20, 20), []) := hS 21 _ (by decide) (by decide +kernel)
theorem sc_22 {S : KS} (hS : KExt 382 S) : S[22]? = some ((20, 20), []) := hS 22 _ (by decide) (by decide +kernel)
theorem sc_23 {S : KS} (hS : KExt 382 S) : S[23]? = some ((20, 6), []) := hS 23 _ (by decide) (by decide +kernel)
theorem sc_24 {S : KS} (hS : KExt 382 S) : S[24]? = some ((4, 4), [some 25, none, some 26, none]) := hS 24 _ (by decide) (by decide +kernel)
theorem sc_25 {S : KS} (hS : KExt 382 S) : S[25]? = some ((20, 1600), []) := hS 25 _ (by decide) (by decide +kernel)
theorem sc_26 {S : KS} (hS : KExt 382 S) : S[26]? = some ((20, 31), []) := hS 26 _ (by decide) (by decide +kernel)
theorem sc_27 {S : KS} (hS : KExt 382 S) : S[27]? = some ((11, 6), [some 28, some 29, some 30, some 31, none, none]) := hS 27 _ (by decide) (by decide +kernel)
theorem sc_28 {S : KS} (hS : KExt 382 S) : S[28]? = some ((20, 1601), []) := hS 28 _ (by decide) (by decide +kernel)
theorem sc_29 {S : KS} (hS : KExt 382 S) : S[29]? = some ((20, 1601), []) := hS 29 _ (by decide) (by decide +kernel)
theorem sc_30 {S : KS} (hS : KExt 382 S) : S[30]? = some ((20, 1601), []) := hS 30 _ (by decide) (by decide +kernel)
theorem sc_31 {S : KS} (hS : KExt 382 S) : S[31]? = some ((21, 1601), []) := hS 31 _ (by decide) (by decide +kernel)
theorem sc_32 {S : KS} (hS : KExt 382 S) : S[32]? = some ((21, 8), []) := hS 32 _ (by decide) (by decide +kernel)
theorem sc_33 {S : KS} (hS : KExt 382 S) : S[33]? = some ((21, 6), []) := hS 33 _ (by decide) (by decide +kernel)
theorem sc_34 {S : KS} (hS : KExt 382 S) : S[34]? = some ((10, 13), [some 35, some 36, none, none, none, none, none, none, none, some 37, some 38, some 39, some 40]) := hS 34 _ (by decide) (by decide +kernel)
theorem sc_35 {S : KS} (hS : KExt 382 S) : S[35]? = some ((20, 8), []) := hS 35 _ (by decide) (by decide +kernel)
theorem sc_36 {S : KS} (hS : KExt 382 S) : S[36]? = some ((20, 8), []) := hS 36 _ (by decide) (by decide +kernel)
theorem sc_37 {S : KS} (hS : KExt 382 S) : S[37]? = some ((20, 30), []) := hS 37 _ (by decide) (by decide +kernel)
theorem sc_38 {S : KS} (hS : KExt 382 S) : S[38]? = some ((20, 30), []) := hS 38 _ (by decide) (by decide +kernel)
theorem sc_39 {S : KS} (hS : KExt 382 S) : S[39]? = some ((20, 30), []) := hS 39 _ (by decide) (by decide +kernel)
theorem sc_40 {S : KS} (hS : KExt 382 S) : S[40]? = some ((20, 30), []) := hS 40 _ (by decide) (by decide +kernel)
theorem sc_41 {S : KS} (hS : KExt 382 S) : S[41]? = some ((6, 4), [some 42, none, none, none]) := hS 41 _ (by decide) (by decide +kernel)
theorem sc_42 {S : KS} (hS : KExt 382 S) : S[42]? = some ((24, 41), kHistRefs) := hS 42 _ (by decide) (by decide +kernel)
theorem sc_330 {S : KS} (hS : KExt 382 S) : S[330]? = some ((24, 3), [some 361, some (361 + 7), some (361 + 14)]) := hS 330 _ (by decide) (by decide +kernel)
theorem sc_331 {S : KS} (hS : KExt 382 S) : S[331]? = some ((20, 8), []) := hS 331 _ (by decide) (by decide +kernel)
theorem sc_332 {S : KS} (hS : KExt 382 S) : S[332]? = some ((8, 7), [some 333, some 334, some 335, some 336, some 337, some 338, some 339]) := hS 332 _ (by decide) (by decide +kernel)
theorem sc_333 {S : KS} (hS : KExt 382 S) : S[333]? = some ((20, 8), []) := hS 333 _ (by decide) (by decide +kernel)
theorem sc_334 {S : KS} (hS : KExt 382 S) : S[334]? = some ((20, 151), []) := hS 334 _ (by decide) (by decide +kernel)
theorem sc_335 {S : KS} (hS : KExt 382 S) : S[335]? = some ((20, 64), []) := hS 335 _ (by decide) (by decide +kernel)
theorem sc_336 {S : KS} (hS : KExt 382 S) : S[336]? = some ((20, 8), []) := hS 336 _ (by decide) (by decide +kernel)
theorem sc_337 {S : KS} (hS : KExt 382 S) : S[337]? = some ((20, 20), []) := hS 337 _ (by decide) (by decide +kernel)
theorem sc_338 {S : KS} (hS : KExt 382 S) : S[338]? = some ((20, 8), []) := hS 338 _ (by decide) (by decide +kernel)
theorem sc_339 {S : KS} (hS : KExt 382 S) : S[339]? = some ((20, 8), []) := hS 339 _ (by decide) (by decide +kernel)
theorem sc_340 {S : KS} (hS : KExt 382 S) : S[340]? = some ((2, 5), [some 341, none, some 342, some 343, some 344]) := hS 340 _ (by decide) (by decide +kernel)
theorem sc_341 {S : KS} (hS : KExt 382 S) : S[341]? = some ((20, 8), []) := hS 341 _ (by decide) (by decide +kernel)
theorem sc_342 {S : KS} (hS : KExt 382 S) : S[342]? = some ((20, 256), []) := hS 342 _ (by decide) (by decide +kernel)
theorem sc_343 {S : KS} (hS : KExt 382 S) : S[343]? = some ((20, 256), []) := hS 343 _ (by decide) (by decide +kernel)
theorem sc_344 {S : KS} (hS : KExt 382 S) : S[344]? = some ((20, 8), []) := hS 344 _ (by decide) (by decide +kernel)
theorem sc_345 {S : KS} (hS : KExt 382 S) : S[345]? = some ((9, 5), [some 346, some 347, some 348, none, none]) := hS 345 _ (by decide) (by decide +kernel)
theorem sc_346 {S : KS} (hS : KExt 382 S) : S[346]? = some ((20, 151), []) := hS 346 _ (by decide) (by decide +kernel)
theorem sc_347 {S : KS} (hS : KExt 382 S) : S[347]? = some ((20, 8), []) := hS 347 _ (by decide) (by decide +kernel)
theorem sc_348 {S : KS} (hS : KExt 382 S) : S[348]? = some ((20, 10809), []) := hS 348 _ (by decide) (by decide +kernel)
theorem sc_349 {S : KS} (hS : KExt 382 S) : S[349]? = some ((3, 9), [none, none, some 350, some 351, some 352, some 353, none, some 354, none]) := hS 349 _ (by decide) (by decide +kernel)
theorem sc_350 {S : KS} (hS : KExt 382 S) : S[350]? = some ((20, 30), []) := hS 350 _ (by decide) (by decide +kernel)
theorem sc_351 {S : KS} (hS : KExt 382 S) : S[351]? = some ((20, 30), []) := hS 351 _ (by decide) (by decide +kernel)
theorem sc_352 {S : KS} (hS : KExt 382 S) : S[352]? = some ((20, 30), []) := hS 352 _ (by decide) (by decide +kernel)
theorem sc_353 {S : KS} (hS : KExt 382 S) : S[353]? = some ((20, 30), []) := hS 353 _ (by decide) (by decide +kernel)
theorem sc_354 {S : KS} (hS : KExt 382 S) : S[354]? = some ((20, 8), []) := hS 354 _ (by decide) (by decide +kernel)
theorem sc_355 {S : KS} (hS : KExt 382 S) : S[355]? = some ((5, 10), [none, none, some 356, none, none, some 357, some 358, some 359, none, none]) := hS 355 _ (by decide) (by decide +kernel)
theorem sc_356 {S : KS} (hS : KExt 382 S) : S[356]? = some ((20, 4), []) := hS 356 _ (by decide) (by decide +kernel)
theorem sc_357 {S : KS} (hS : KExt 382 S) : S[357]? = some ((20, 4), []) := hS 357 _ (by decide) (by decide +kernel)
theorem sc_358 {S : KS} (hS : KExt 382 S) : S[358]? = some ((20, 8), []) := hS 358 _ (by decide) (by decide +kernel)
theorem sc_359 {S : KS} (hS : KExt 382 S) : S[359]? = some ((20, 8), []) := hS 359 _ (by decide) (by decide +kernel)
theorem sc_360 {S : KS} (hS : KExt 382 S) : S[360]? = some ((20, 8), []) := hS 360 _ (by decide) (by decide +kernel)
theorem sc_361 {S : KS} (hS : KExt 382 S) : S[361]? = some ((10, 13), [some 362, some 363, none, none, none, none, none, none, none, some 364, some 365, some 366, some 367]) := hS 361 _ (by decide) (by decide +kernel)
theorem sc_362 {S : KS} (hS : KExt 382 S) : S[362]? = some ((20, 8), []) := hS 362 _ (by decide) (by decide +kernel)
theorem sc_363 {S : KS} (hS : KExt 382 S) : S[363]? = some ((20, 8), []) := hS 363 _ (by decide) (by decide +kernel)
theorem sc_364 {S : KS} (hS : KExt 382 S) : S[364]? = some ((20, 30), []) := hS 364 _ (by decide) (by decide +kernel)
theorem sc_365 {S : KS} (hS : KExt 382 S) : S[365]? = some ((20, 30), []) := hS 365 _ (by decide) (by decide +kernel)
theorem sc_366 {S : KS} (hS : KExt 382 S) : S[366]? = some ((20, 30), []) := hS 366 _ (by decide) (by decide +kernel)
theorem sc_367 {S : KS} (hS : KExt 382 S) : S[367]? = some ((20, 30), []) := hS 367 _ (by decide) (by decide +kernel)
theorem sc_368 {S : KS} (hS : KExt 382 S) : S[368]? = some ((10, 13), [some 369, some 370, none, none, none, none, none, none, none, some 371, some 372, some 373, some 374]) := hS 368 _ (by decide) (by decide +kernel)
theorem sc_369 {S : KS} (hS : KExt 382 S) : S[369]? = some ((20, 8), []) := hS 369 _ (by decide) (by decide +kernel)
theorem sc_370 {S : KS} (hS : KExt 382 S) : S[370]? = some ((20, 8), []) := hS 370 _ (by decide) (by decide +kernel)
theorem sc_371 {S : KS} (hS : KExt 382 S) : S[371]? = some ((20, 30), []) := hS 371 _ (by decide) (by decide +kernel)
theorem sc_372 {S : KS} (hS : KExt 382 S) : S[372]? = some ((20, 30), []) := hS 372 _ (by decide) (by decide +kernel)
theorem sc_373 {S : KS} (hS : KExt 382 S) : S[373]? = some ((20, 30), []) := hS 373 _ (by decide) (by decide +kernel)
theorem sc_374 {S : KS} (hS : KExt 382 S) : S[374]? = some ((20, 30), []) := hS 374 _ (by decide) (by decide +kernel)
theorem sc_375 {S : KS} (hS : KExt 382 S) : S[375]? = some ((10, 13), [some 376, some 377, none, none, none, none, none, none, none, some 378, some 379, some 380, some 381]) := hS 375 _ (by decide) (by decide +kernel)
theorem sc_376 {S : KS} (hS : KExt 382 S) : S[376]? = some ((20, 8), []) := hS 376 _ (by decide) (by decide +kernel)
theorem sc_377 {S : KS} (hS : KExt 382 S) : S[377]? = some ((20, 8), []) := hS 377 _ (by decide) (by decide +kernel)
theorem sc_378 {S : KS} (hS : KExt 382 S) : S[378]? = some ((20, 30), []) := hS 378 _ (by decide) (by decide +kernel)
theorem sc_379 {S : KS} (hS : KExt 382 S) : S[379]? = some ((20, 30), []) := hS 379 _ (by decide) (by decide +kernel)
theorem sc_380 {S : KS} (hS : KExt 382 S) : S[380]? = some ((20, 30), []) := hS 380 _ (by decide) (by decide +kernel)
theorem sc_381 {S : KS} (hS : KExt 382 S) : S[381]? = some ((20, 30), []) := hS 381 _ (by decide) (by decide +kernel)
theorem sc_382 {S : KS} (hS : KExt 435 S) : S[382]? = some ((1, 78), [some 383, some 384, none, none, none, none, none, none, none, none, none, some 385, some 386, some 387, some 388, some 389, some 390, some 391, some 392, some 393, some 394, some 395, some 396, some 397, some 398, some 399, some 400, some 401, some 402, some 403, some 404, some 405, some 406, some 407, some 408, some 409, some 410, none, none, none, none, none, none, none, none, none, some 411, some 412, none, none, some 413, some 414, some 415, some 416, some 417, some 418, some 419, some 420, some 421, none, some 422, some 423, some 424, none, some 425, some 426, some 427, some 428, some 429, some 430, some 431, none, none, none, none, some 432, some 433, some 434]) := hS 382 _ (by decide) (by decide +kernel)
theorem sc_383 {S : KS} (hS : KExt 435 S) : S[383]? = some ((22, 1620), []) := hS 383 _ (by decide) (by decide +kernel)
theorem sc_384 {S : KS} (hS : KExt 435 S) : S[384]? = some ((22, 1600), []) := hS 384 _ (by decide) (by decide +kernel)
theorem sc_385 {S : KS} (hS : KExt 435 S) : S[385]? = some ((20, 2), []) := hS 385 _ (by decide) (by decide +kernel)
theorem sc_386 {S : KS} (hS : KExt 435 S) : S[386]? = some ((20, 2), []) := hS 386 _ (by decide) (by decide +kernel)
theorem sc_387 {S : KS} (hS : KExt 435 S) : S[387]? = some ((20, 2), []) := hS 387 _ (by decide) (by decide +kernel)
theorem sc_388 {S : KS} (hS : KExt 435 S) : S[388]? = some ((20, 2), []) := hS 388 _ (by decide) (by decide +kernel)
theorem sc_389 {S : KS} (hS : KExt 435 S) : S[389]? = some ((20, 2), []) := hS 389 _ (by decide) (by decide +kernel)
theorem sc_390 {S : KS} (hS : KExt 435 S) : S[390]? = some ((20, 2), []) := hS 390 _ (by decide) (by decide +kernel)
theorem sc_391 {S : KS} (hS : KExt 435 S) : S[391]? = some ((20, 2), []) := hS 391 _ (by decide) (by decide +kernel)
theorem sc_392 {S : KS} (hS : KExt 435 S) : S[392]? = some ((20, 2), []) := hS 392 _ (by decide) (by decide +kernel)
theorem sc_393 {S : KS} (hS : KExt 435 S) : S[393]? = some ((20, 16), []) := hS 393 _ (by decide) (by decide +kernel)
theorem sc_394 {S : KS} (hS : KExt 435 S) : S[394]? = some ((20, 16), []) := hS 394 _ (by decide) (by decide +kernel)
theorem sc_395 {S : KS} (hS : KExt 435 S) : S[395]? = some ((20, 16), []) := hS 395 _ (by decide) (by decide +kernel)
theorem sc_396 {S : KS} (hS : KExt 435 S) : S[396]? = some ((20, 16), []) := hS 396 _ (by decide) (by decide +kernel)
theorem sc_397 {S : KS} (hS : KExt 435 S) : S[397]? = some ((20, 40), []) := hS 397 _ (by decide) (by decide +kernel)
theorem sc_398 {S : KS} (hS : KExt 435 S) : S[398]? = some ((20, 40), []) := hS 398 _ (by decide) (by decide +kernel)
theorem sc_399 {S : KS} (hS : KExt 435 S) : S[399]? = some ((20, 40), []) := hS 399 _ (by decide) (by decide +kernel)
theorem sc_400 {S : KS} (hS : KExt 435 S) : S[400]? = some ((20, 14), []) := hS 400 _ (by decide) (by decide +kernel)
theorem sc_401 {S : KS} (hS : KExt 435 S) : S[401]? = some ((20, 14), []) := hS 401 _ (by decide) (by decide +kernel)
theorem sc_402 {S : KS} (hS : KExt 435 S) : S[402]? = some ((23, 2), []) := hS 402 _ (by decide) (by decide +kernel)
theorem sc_403 {S : KS} (hS : KExt 435 S) : S[403]? = some ((23, 14), []) := hS 403 _ (by decide) (by decide +kernel)
theorem sc_404 {S : KS} (hS : KExt 435 S) : S[404]? = some ((21, 16), []) := hS 404 _ (by decide) (by decide +kernel)
theorem sc_405 {S : KS} (hS : KExt 435 S) : S[405]? = some ((21, 12), []) := hS 405 _ (by decide) (by decide +kernel)
theorem sc_406 {S : KS} (hS : KExt 435 S) : S[406]? = some ((20, 1120), []) := hS 406 _ (by decide) (by decide +kernel)
theorem sc_407 {S : KS} (hS : KExt 435 S) : S[407]? = some ((20, 1120), []) := hS 407 _ (by decide) (by decide +kernel)
theorem sc_408 {S : KS} (hS : KExt 435 S) : S[408]? = some ((20, 90), []) := hS 408 _ (by decide) (by decide +kernel)
theorem sc_409 {S : KS} (hS : KExt 435 S) : S[409]? = some ((20, 90), []) := hS 409 _ (by decide) (by decide +kernel)
theorem sc_410 {S : KS} (hS : KExt 435 S) : S[410]? = some ((20, 60), []) := hS 410 _ (by decide) (by decide +kernel)
theorem sc_411 {S : KS} (hS : KExt 435 S) : S[411]? = some ((20, 171), []) := hS 411 _ (by decide) (by decide +kernel)
theorem sc_412 {S : KS} (hS : KExt 435 S) : S[412]? = some ((20, 7011), []) := hS 412 _ (by decide) (by decide +kernel)
theorem sc_413 {S : KS} (hS : KExt 435 S) : S[413]? = some ((20, 64), []) := hS 413 _ (by decide) (by decide +kernel)
theorem sc_414 {S : KS} (hS : KExt 435 S) : S[414]? = some ((20, 8), []) := hS 414 _ (by decide) (by decide +kernel)
theorem sc_415 {S : KS} (hS : KExt 435 S) : S[415]? = some ((20, 8), []) := hS 415 _ (by decide) (by decide +kernel)
theorem sc_416 {S : KS} (hS : KExt 435 S) : S[416]? = some ((20, 64), []) := hS 416 _ (by decide) (by decide +kernel)
theorem sc_417 {S : KS} (hS : KExt 435 S) : S[417]? = some ((20, 8), []) := hS 417 _ (by decide) (by decide +kernel)
theorem sc_418 {S : KS} (hS : KExt 435 S) : S[418]? = some ((20, 8), []) := hS 418 _ (by decide) (by decide +kernel)
theorem sc_419 {S : KS} (hS : KExt 435 S) : S[419]? = some ((23, 8), []) := hS 419 _ (by decide) (by decide +kernel)
theorem sc_420 {S : KS} (hS : KExt 435 S) : S[420]? = some ((20, 8), []) := hS 420 _ (by decide) (by decide +kernel)
theorem sc_421 {S : KS} (hS : KExt 435 S) : S[421]? = some ((20, 256), []) := hS 421 _ (by decide) (by decide +kernel)
theorem sc_422 {S : KS} (hS : KExt 435 S) : S[422]? = some ((20, 10809), []) := hS 422 _ (by decide) (by decide +kernel)
theorem sc_423 {S : KS} (hS : KExt 435 S) : S[423]? = some ((20, 151), []) := hS 423 _ (by decide) (by decide +kernel)
theorem sc_424 {S : KS} (hS : KExt 435 S) : S[424]? = some ((20, 8), []) := hS 424 _ (by decide) (by decide +kernel)
theorem sc_425 {S : KS} (hS : KExt 435 S) : S[425]? = some ((20, 8), []) := hS 425 _ (by decide) (by decide +kernel)
theorem sc_426 {S : KS} (hS : KExt 435 S) : S[426]? = some ((20, 30), []) := hS 426 _ (by decide) (by decide +kernel)
theorem sc_427 {S : KS} (hS : KExt 435 S) : S[427]? = some ((20, 30), []) := hS 427 _ (by decide) (by decide +kernel)
theorem sc_428 {S : KS} (hS : KExt 435 S) : S[428]? = some ((20, 30), []) := hS 428 _ (by decide) (by decide +kernel)
theorem sc_429 {S : KS} (hS : KExt 435 S) : S[429]? = some ((20, 30), []) := hS 429 _ (by decide) (by decide +kernel)
theorem sc_430 {S : KS} (hS : KExt 435 S) : S[430]? = some ((20, 8), []) := hS 430 _ (by decide) (by decide +kernel)
theorem sc_431 {S : KS} (hS : KExt 435 S) : S[431]? = some ((20, 8), []) := hS 431 _ (by decide) (by decide +kernel)
theorem sc_432 {S : KS} (hS : KExt 435 S) : S[432]? = some ((20, 8), []) := hS 432 _ (by decide) (by decide +kernel)
theorem sc_433 {S : KS} (hS : KExt 435 S) : S[433]? = some ((20, 513), []) := hS 433 _ (by decide) (by decide +kernel)
theorem sc_434 {S : KS} (hS : KExt 435 S) : S[434]? = some ((23, 3), []) := hS 434 _ (by decide) (by decide +kernel)
