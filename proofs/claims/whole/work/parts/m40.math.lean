section KMATH
variable {α : Type} {G : Gam} {Y : KY} {e e1 e2 : Option α} {κ : α → KCf} {pc : Nat} {ls : List (Option KV)} {st : List KV} {S : KS} {M : KM}
theorem s_pureG {pc' : Nat} {st' : List KV} (h : ∀ (p : Program) (l : Launch) (e : Env) (R : Room) (s : State) (m : MethodId) (args : Array Value) (below : List Frame) (meth : Method) (c : Code) (H : Heap) (locs : List Loc) (cells slots : Nat) (Q : State → Prop) (la : Array Slot) (b : Nat), p.tables.exec = Jvm.exec → c.code = Y.2.1 → c.maxLocals = la.size → s.vm.findClass Y.1 = some m.cls → (∀ w ∈ tbg, w.before args s = true) → Y.2.2.2.2 ≤ R.frames → 64 * Y.2.2.2.2 ≤ R.locals → cells ≤ R.cells → slots ≤ R.slots → kst st → W p l e R s m args below meth c H locs cells slots Q (F0 m pc' la (st'.map (kconv b))) → W p l e R s m args below meth c H locs cells slots Q (F0 m pc la (st.map (kconv b))))
    (hok : kst st → kst st') (k : Sim G Y e (kC pc' ls st' S M) κ) : Sim G Y e (kC pc ls st S M) κ := by
  intro hG a ha hk
  have k1 := k hG a ha hk
  obtain ⟨⟨p, l, e, R, s, m, args, below, meth, c⟩, ⟨D, dA, b, aK, aV⟩, ⟨n0, z0, nc, nz⟩, tg⟩ := G
  obtain ⟨hx, hb, hml, hown, hts, hr, hlk, hK, hR, hlow⟩ := hG
  intro H locs la hM hc hl hs hn hS hlo
  refine h _ _ _ _ _ _ _ _ _ _ _ _ _ _ _ _ _ hx hb hlo.1.symm hown hts hR.1 hR.2.1 (by omega) (by omega) hs (k1 H locs la hM hc hl (hok hs) hn hS hlo)
theorem wm_min : Cond.static Lib.Math.min.name ∈ tbg ∧ Cond.initialized "java/lang/Math" ∈ tbg ∧ Cond.code Lib.Math.min.name Lib.Math.min.code 2 (some .int) ∈ tbg := ⟨tb_at 802 (by decide +kernel), tb_at 158 (by decide +kernel), tb_at 803 (by decide +kernel)⟩
theorem wm_max : Cond.static Lib.Math.max.name ∈ tbg ∧ Cond.initialized "java/lang/Math" ∈ tbg ∧ Cond.code Lib.Math.max.name Lib.Math.max.code 2 (some .int) ∈ tbg := ⟨tb_at 799 (by decide +kernel), tb_at 158 (by decide +kernel), tb_at 800 (by decide +kernel)⟩
theorem wm_abs : Cond.static Lib.Math.abs.name ∈ tbg ∧ Cond.initialized "java/lang/Math" ∈ tbg ∧ Cond.code Lib.Math.abs.name Lib.Math.abs.code 1 (some .int) ∈ tbg := ⟨tb_at 1272 (by decide +kernel), tb_at 158 (by decide +kernel), tb_at 1273 (by decide +kernel)⟩
theorem wm_copy : Cond.native arraycopyName ∈ tbg ∧ Cond.static arraycopyName ∈ tbg ∧ Cond.initialized "java/lang/System" ∈ tbg := ⟨tb_at 968 (by decide +kernel), tb_at 967 (by decide +kernel), tb_at 160 (by decide +kernel)⟩
theorem s_mmin {x y : Int} {idx : Nat} (hd : decode Y.2.1 pc = .ok (.invokestatic idx, 3)) (hl : Cond.methodLink Y.1 idx Lib.Math.min.name ∈ tbg) (hh : (Nat.ble 1 Y.2.2.2.2 && Nat.ble (kwords st) 8) = true) (k : Sim G Y e (kC (pc + 3) ls (VI (min x y) :: st) S M) κ) : Sim G Y e (kC pc ls (VI y :: VI x :: st) S M) κ := by
  simp only [Bool.and_eq_true] at hh
  have hh1 := Nat.le_of_ble_eq_true hh.1
  have hh2 := Nat.le_of_ble_eq_true hh.2
  refine s_pureG (st' := VI (min x y) :: st) (fun p l e R s m args below meth c H locs cells slots Q la b hx hb hml hown hts hf hlo hc hz hs k => ?_) (fun h => kst_I (by have h1 := kst_hI h; have h2 := kst_hI (kst_tl h); rw [Int.min_def]; split <;> assumption) (kst_tl (kst_tl h))) k
  refine va_mmin (x := Int32.ofInt x) (y := Int32.ofInt y) hx hb hml hown (hts _ hl) (hts _ wm_min.1) (hts _ wm_min.2.1) (hts _ wm_min.2.2) (Nat.le_trans hh1 hf) (by rw [kwords_map]; omega) hc hz hd ?_
  have e : (if Int32.ofInt y < Int32.ofInt x then Int32.ofInt y else Int32.ofInt x) = Int32.ofInt (min x y) := by
    have hy := kst_hI hs
    have hx := kst_hI (kst_tl hs)
    by_cases h : y < x
    · rw [if_pos ((i32_lt hy hx).mpr h), Int.min_def, if_neg (by omega)]
    · rw [if_neg (fun q => h ((i32_lt hy hx).mp q)), Int.min_def, if_pos (by omega)]
  rw [e]
  exact k
theorem s_mmax {x y : Int} {idx : Nat} (hd : decode Y.2.1 pc = .ok (.invokestatic idx, 3)) (hl : Cond.methodLink Y.1 idx Lib.Math.max.name ∈ tbg) (hh : (Nat.ble 1 Y.2.2.2.2 && Nat.ble (kwords st) 8) = true) (k : Sim G Y e (kC (pc + 3) ls (VI (max x y) :: st) S M) κ) : Sim G Y e (kC pc ls (VI y :: VI x :: st) S M) κ := by
  simp only [Bool.and_eq_true] at hh
  have hh1 := Nat.le_of_ble_eq_true hh.1
  have hh2 := Nat.le_of_ble_eq_true hh.2
  refine s_pureG (st' := VI (max x y) :: st) (fun p l e R s m args below meth c H locs cells slots Q la b hx hb hml hown hts hf hlo hc hz hs k => ?_) (fun h => kst_I (by have h1 := kst_hI h; have h2 := kst_hI (kst_tl h); rw [Int.max_def]; split <;> assumption) (kst_tl (kst_tl h))) k
  refine va_mmax (x := Int32.ofInt x) (y := Int32.ofInt y) hx hb hml hown (hts _ hl) (hts _ wm_max.1) (hts _ wm_max.2.1) (hts _ wm_max.2.2) (Nat.le_trans hh1 hf) (by rw [kwords_map]; omega) hc hz hd ?_
  have e : (if Int32.ofInt x < Int32.ofInt y then Int32.ofInt y else Int32.ofInt x) = Int32.ofInt (max x y) := by
    have hy := kst_hI hs
    have hx := kst_hI (kst_tl hs)
    by_cases h : x < y
    · rw [if_pos ((i32_lt hx hy).mpr h), Int.max_def, if_pos (by omega)]
    · rw [if_neg (fun q => h ((i32_lt hx hy).mp q)), Int.max_def]
      split
      · have : x = y := by omega
        rw [this]
      · rfl
  rw [e]
  exact k
theorem s_mabs {x : Int} {idx : Nat} (hd : decode Y.2.1 pc = .ok (.invokestatic idx, 3)) (hl : Cond.methodLink Y.1 idx Lib.Math.abs.name ∈ tbg) (hh : (Nat.ble 1 Y.2.2.2.2 && Nat.ble (kwords st) 8) = true) (k : Sim G Y e (kC (pc + 3) ls (VI (kabs x) :: st) S M) κ) : Sim G Y e (kC pc ls (VI x :: st) S M) κ := by
  simp only [Bool.and_eq_true] at hh
  have hh1 := Nat.le_of_ble_eq_true hh.1
  have hh2 := Nat.le_of_ble_eq_true hh.2
  refine s_pureG (st' := VI (kabs x) :: st) (fun p l e R s m args below meth c H locs cells slots Q la b hx hb hml hown hts hf hlo hc hz hs k => ?_) (fun h => kst_I (kabs_R (kst_hI h)) (kst_tl h)) k
  refine va_mabs (x := Int32.ofInt x) hx hb hml hown (hts _ hl) (hts _ wm_abs.1) (hts _ wm_abs.2.1) (hts _ wm_abs.2.2) (Nat.le_trans hh1 hf) (by rw [kwords_map]; omega) hc hz hd ?_
  have hle : (0 ≤ Int32.ofInt x) ↔ 0 ≤ x := i32_le R32_0 (kst_hI hs)
  have e : (if 0 ≤ Int32.ofInt x then Int32.ofInt x else 0 - Int32.ofInt x) = Int32.ofInt (kabs x) := by
    have hx := kst_hI hs
    unfold kabs
    by_cases h : 0 ≤ x
    · rw [if_pos h, if_pos (hle.mpr h)]
    · rw [if_neg h, if_neg (fun q => h (hle.mp q)), w32_of, Int32.ofInt_neg, Int32.zero_sub]
  rw [e]
  exact k
end KMATH
