/-! ROADS: what a year's way costs -/
def rdE (T : TW) (v : Nat → Int) : Nat → Nat → Nat → Int
  | 0, a, b => if a = b then 0 else 100000000
  | f + 1, a, b => if (alv v (T 5 f) = true ∧ alv v (T 6 f) = true) ∧ T 5 f = (a : Int) ∧ T 6 f = (b : Int) then T 7 f else rdE T v f a b
def rdK (T : TW) (v : Nat → Int) : Nat → Nat → Nat → Int
  | 0, a, b => rdE T v (T 0 1).toNat a b
  | k + 1, a, b => min (rdK T v k a b) (rdK T v k a k + rdK T v k k b)
theorem rdE_s (T : TW) (v : Nat → Int) (f a b : Nat) : rdE T v (f + 1) a b = if (alv v (T 5 f) = true ∧ alv v (T 6 f) = true) ∧ T 5 f = (a : Int) ∧ T 6 f = (b : Int) then T 7 f else rdE T v f a b := rfl
theorem rdK_s (T : TW) (v : Nat → Int) (k a b : Nat) : rdK T v (k + 1) a b = min (rdK T v k a b) (rdK T v k a k + rdK T v k k b) := rfl
theorem rdE_R {T : TW} {R : Nat → RL} (hT : okT T R) (v : Nat → Int) : ∀ f, f ≤ (T 0 1).toNat → ∀ a b, (a = b → rdE T v f a b = 0) ∧ 0 ≤ rdE T v f a b ∧ (rdE T v f a b ≤ 99 ∨ rdE T v f a b = 100000000) := by
  intro f
  induction f with
  | zero =>
    intro _ a b
    show (a = b → (if a = b then (0 : Int) else 100000000) = 0) ∧ 0 ≤ (if a = b then (0 : Int) else 100000000) ∧ ((if a = b then (0 : Int) else 100000000) ≤ 99 ∨ (if a = b then (0 : Int) else 100000000) = 100000000)
    by_cases h : a = b
    · rw [if_pos h]; omega
    · rw [if_neg h]; omega
  | succ f ih =>
    intro hf a b
    have h := ih (by omega) a b
    have ht := hT.2.2.1 f (by omega)
    rw [rdE_s]
    split
    · rename_i hc
      omega
    · exact h
theorem rdE_out {T : TW} {R : Nat → RL} (hT : okT T R) (v : Nat → Int) {a b : Nat} (hab : a ≠ b) (h : T 0 0 ≤ (a : Int) ∨ T 0 0 ≤ (b : Int)) : ∀ f, f ≤ (T 0 1).toNat → rdE T v f a b = 100000000 := by
  intro f
  induction f with
  | zero => intro _; exact if_neg hab
  | succ f ih =>
    intro hf
    have ht := hT.2.2.1 f (by omega)
    rw [rdE_s, if_neg (by omega)]
    exact ih (by omega)
theorem rdK_R {T : TW} {R : Nat → RL} (hT : okT T R) (v : Nat → Int) : ∀ k a b, (a = b → rdK T v k a b = 0) ∧ 0 ≤ rdK T v k a b ∧ (rdK T v k a b ≤ 99 * ((2 ^ k : Nat) : Int) ∨ rdK T v k a b = 100000000) ∧ rdK T v k a b ≤ 100000000 := by
  intro k
  induction k with
  | zero =>
    intro a b
    have h := rdE_R hT v (T 0 1).toNat (Nat.le_refl _) a b
    show (a = b → rdE T v (T 0 1).toNat a b = 0) ∧ 0 ≤ rdE T v (T 0 1).toNat a b ∧ (rdE T v (T 0 1).toNat a b ≤ 99 * ((2 ^ 0 : Nat) : Int) ∨ rdE T v (T 0 1).toNat a b = 100000000) ∧ rdE T v (T 0 1).toNat a b ≤ 100000000
    rw [show ((2 ^ 0 : Nat) : Int) = 1 from rfl]
    omega
  | succ k ih =>
    intro a b
    have h1 := ih a b
    have h2 := ih a k
    have h3 := ih k b
    have hp : (2 : Nat) ^ (k + 1) = 2 * 2 ^ k := by rw [Nat.pow_succ]; omega
    have hpos := Nat.two_pow_pos k
    rw [rdK_s, hp]
    generalize (2 : Nat) ^ k = B at *
    refine ⟨fun hab => ?_, by omega, by omega, by omega⟩
    subst hab
    have := h1.1 rfl
    omega
theorem rdK_8 {T : TW} {R : Nat → RL} (hT : okT T R) (v : Nat → Int) (a b : Nat) : 0 ≤ rdK T v 8 a b ∧ (rdK T v 8 a b ≤ 25344 ∨ rdK T v 8 a b = 100000000) ∧ rdK T v 8 a b ≤ 100000000 := by
  have h := rdK_R hT v 8 a b
  rw [show ((2 ^ 8 : Nat) : Int) = 256 from rfl] at h
  omega
theorem rdK_out {T : TW} {R : Nat → RL} (hT : okT T R) (v : Nat → Int) : ∀ k a b : Nat, a ≠ b → (T 0 0 ≤ (a : Int) ∨ T 0 0 ≤ (b : Int)) → rdK T v k a b = 100000000 := by
  intro k
  induction k with
  | zero => intro a b hab h; exact rdE_out hT v hab h _ (Nat.le_refl _)
  | succ k ih =>
    intro a b hab h
    have h1 := ih a b hab h
    have r1 := rdK_R hT v k a k
    have r2 := rdK_R hT v k k b
    rw [rdK_s, h1]
    rcases h with h | h
    · by_cases hak : a = k
      · subst hak
        omega
      · have := ih a k hak (Or.inl h)
        omega
    · by_cases hkb : k = b
      · subst hkb
        omega
      · have := ih k b hkb (Or.inr h)
        omega
theorem rdK_row {T : TW} {R : Nat → RL} (hT : okT T R) (v : Nat → Int) (k b : Nat) : rdK T v (k + 1) k b = rdK T v k k b := by
  rw [rdK_s]
  have h := (rdK_R hT v k k k).1 rfl
  omega
theorem rdK_col {T : TW} {R : Nat → RL} (hT : okT T R) (v : Nat → Int) (k a : Nat) : rdK T v (k + 1) a k = rdK T v k a k := by
  rw [rdK_s]
  have h := (rdK_R hT v k k k).1 rfl
  omega
theorem rdK_stop {T : TW} {R : Nat → RL} (hT : okT T R) (v : Nat → Int) (a b : Nat) : ∀ j, rdK T v ((T 0 0).toNat + j) a b = rdK T v (T 0 0).toNat a b := by
  intro j
  induction j with
  | zero => rfl
  | succ j ih =>
    have e : (T 0 0).toNat + (j + 1) = (T 0 0).toNat + j + 1 := by omega
    have o := hT.1.1
    have r1 := rdK_R hT v ((T 0 0).toNat + j) a b
    have r2 := rdK_R hT v ((T 0 0).toNat + j) a ((T 0 0).toNat + j)
    have r3 := rdK_R hT v ((T 0 0).toNat + j) ((T 0 0).toNat + j) b
    rw [e, rdK_s, ← ih]
    by_cases ha : a = (T 0 0).toNat + j
    · subst ha
      have := r2.1 rfl
      omega
    · have := rdK_out hT v ((T 0 0).toNat + j) a ((T 0 0).toNat + j) ha (Or.inr (by omega))
      omega
/-! a square of 8 by 8 -/
def SQ (c : Nat) (D : Nat → Nat → Int) (M : KM) : Prop := ∀ a b, a < 8 → b < 8 → M c (8 * a + b) = D a b
theorem sq_ix {a b x y : Nat} (hb : b < 8) (hy : y < 8) : 8 * a + b = 8 * x + y ↔ a = x ∧ b = y := by omega
theorem w8 {a b : Nat} (ha : a < 8) (hb : b < 8) : w32 (w32 (8 * (a : Int)) + (b : Int)) = ((8 * a + b : Nat) : Int) ∧ w32 (w32 ((a : Int) * 8) + (b : Int)) = ((8 * a + b : Nat) : Int) ∧ 8 * a + b < 64 := by
  refine ⟨?_, ?_, by omega⟩
  · rw [w32e (n := 8 * (a : Int)) (by omega) (by omega), w32e (by omega) (by omega)]; omega
  · rw [w32e (n := (a : Int) * 8) (by omega) (by omega), w32e (by omega) (by omega)]; omega
theorem M_layRoads {b : Nat} {T : TW} {R : Nat → RL} {v : Nat → Int} {M : KM} (h : WM b T R v M) (ho : WO T R v) : Ret (f_M_layRoads M) (fun q => SQ 413 (rdK T v 8) q ∧ ∀ c, c ≠ 413 → q c = M c) := by
  have o := ho.1.1
  have hb := h.1.1
  unfold f_M_layRoads
  refine Ret.bind (R := fun M1 => SQ 413 (rdE T v 0) M1 ∧ ∀ c, c ≠ 413 → M1 c = M c) (Ret.loop 64 (fun i s => s.1 = (i : Int) ∧ (∀ x y, x < 8 → y < 8 → 8 * x + y < i → s.2 413 (8 * x + y) = rdE T v 0 x y) ∧ ∀ c, c ≠ 413 → s.2 c = M c) ⟨rfl, fun x y _ _ hj => absurd hj (Nat.not_lt_zero _), fun c _ => rfl⟩ ?_ ?_) ?_
  · rintro i s hi ⟨k1, k2, k3⟩
    have d1 := kdiv_nn (a := (i : Int)) (b := 8) (by omega) (by omega) (by omega) (by omega)
    have d2 := krem_nn (a := (i : Int)) (b := 8) (by omega) (by omega) (by omega) (by omega)
    rw [k1, w32e (n := (i : Int) + 1) (by omega) (by omega), Int.toNat_natCast]
    refine Ret.t (by omega) (Ret.f (by omega) (Ret.f (by omega) ?_))
    refine Ret.bind (R := fun x => x = if i / 8 = i % 8 then 0 else 100000000) (Ret.br (fun hc => Ret.pure ?_) (fun hc => Ret.pure ?_)) ?_
    · rw [d1, d2] at hc
      rw [if_pos (by omega)]
    · rw [d1, d2] at hc
      rw [if_neg (by omega)]
    · rintro x rfl
      refine Ret.t (by omega) (Ret.letM (Ret.pure ⟨rfl, fun x y hx hy hj => ?_, fun c hc => by funext z; dsimp only; rw [mupd_ne _ _ hc, k3 c hc]⟩))
      dsimp only
      by_cases hji : 8 * x + y = i
      · subst hji
        rw [mupd_same]
        show _ = if x = y then (0 : Int) else 100000000
        exact ifc (by omega)
      · rw [mupd_ne2 _ _ hji]
        exact k2 x y hx hy (by omega)
  · rintro s ⟨k1, k2, k3⟩
    rw [k1]
    exact Ret.f (by omega) (Ret.pure ⟨fun x y hx hy => k2 x y hx hy (by omega), k3⟩)
  rintro M1 ⟨z1, z2⟩
  have ew : ∀ (M2 : KM), (∀ c, c ≠ 413 → M2 c = M c) → WM b T R v M2 := fun M2 hM => h.congr fun k j hk => by rw [hM k (by unfold pR at hk; omega)]
  have e37 : w32 (20 * M1 382 37) = ((20 * b : Nat) : Int) := (ew M1 z2).bf ho |>.1
  rw [e37]
  refine Ret.letI ?_
  refine Ret.bind (R := fun M2 => SQ 413 (rdK T v 0) M2 ∧ ∀ c, c ≠ 413 → M2 c = M c) (Ret.loop (T 0 1).toNat (fun f s => s.1 = ((20 * b + f : Nat) : Int) ∧ SQ 413 (rdE T v f) s.2 ∧ ∀ c, c ≠ 413 → s.2 c = M c) ⟨rfl, z1, z2⟩ ?_ ?_) ?_
  · rintro f s hf ⟨k1, k2, k3⟩
    have hw := ew s.2 k3
    have hf' : (f : Int) < T 0 1 := by omega
    have ht := hw.2.1.2.2.1 f hf'
    have hokt := ho.1.2.2.1 f hf'
    obtain ⟨x, hx⟩ := Int.eq_ofNat_of_zero_le hokt.1
    obtain ⟨y, hy⟩ := Int.eq_ofNat_of_zero_le hokt.2.2.1
    rw [k1, (hw.bf ho).2, w32e (n := ((20 * b + f : Nat) : Int) + 1) (by omega) (by omega), Int.toNat_natCast, ht.1, ht.2.1, ht.2.2, e_M_isAlive (hw.all (by omega)) ho.2 (by omega) (by omega), e_M_isAlive (hw.all (by omega)) ho.2 (by omega) (by omega), ob_some, ob_some]
    have w := w8 (a := x) (b := y) (by omega) (by omega)
    refine Ret.t hw.bl.1 (Ret.t (by omega) (Ret.t (by omega) ?_))
    refine Ret.bind (R := fun M2 => SQ 413 (rdE T v (f + 1)) M2 ∧ ∀ c, c ≠ 413 → M2 c = M c) ?_ (fun M2 hM => Ret.pure ⟨by dsimp only; omega, hM.1, hM.2⟩)
    by_cases ha : alv v (T 5 f) = true
    · refine Ret.f (by rw [if_pos ha]; omega) (Ret.t (by omega) ?_)
      by_cases ha2 : alv v (T 6 f) = true
      · rw [hx, hy, w.1]
        refine Ret.f (by rw [if_pos (show alv v (y : Int) = true by rw [← hy]; exact ha2)]; omega) (Ret.t (by omega) (Ret.t (by omega) (Ret.t (by omega) (Ret.t (by omega) (Ret.letM (Ret.pure ⟨fun p q hp hq => ?_, fun c hc => ?_⟩))))))
        · rw [rdE_s, mupd_at, Int.toNat_natCast, hx, hy]
          rw [hx] at ha
          rw [hy] at ha2
          by_cases hpq : p = x ∧ q = y
          · rw [if_pos ⟨rfl, by omega⟩, if_pos ⟨⟨ha, ha2⟩, by omega⟩]
          · rw [if_neg (by rintro ⟨_, h9⟩; exact hpq (by omega)), if_neg (fun h9 => hpq (by omega))]
            exact k2 p q hp hq
        · funext z; rw [mupd_ne _ _ hc, k3 c hc]
      · refine Ret.t (by rw [if_neg ha2]) (Ret.pure ⟨fun p q hp hq => ?_, k3⟩)
        rw [rdE_s, if_neg (fun q => ha2 q.1.2)]
        exact k2 p q hp hq
    · refine Ret.t (by rw [if_neg ha]) (Ret.pure ⟨fun p q hp hq => ?_, k3⟩)
      rw [rdE_s, if_neg (fun q => ha q.1.1)]
      exact k2 p q hp hq
  · rintro s ⟨k1, k2, k3⟩
    have hw := ew s.2 k3
    rw [k1, (hw.bf ho).2]
    exact Ret.t hw.bl.1 (Ret.f (by omega) (Ret.pure ⟨k2, k3⟩))
  rintro M2 ⟨y1, y2⟩
  refine Ret.bind (R := fun M3 => SQ 413 (rdK T v 8) M3 ∧ ∀ c, c ≠ 413 → M3 c = M c) (Ret.loop 8 (fun k s => s.1 = (k : Int) ∧ SQ 413 (rdK T v k) s.2 ∧ ∀ c, c ≠ 413 → s.2 c = M c) ⟨rfl, y1, y2⟩ ?_ ?_) (fun M3 hM => Ret.pure hM)
  · rintro k s hk ⟨k1, k2, k3⟩
    rw [k1, w32e (n := (k : Int) + 1) (by omega) (by omega)]
    refine Ret.t (by omega) ?_
    refine Ret.bind (R := fun M3 => SQ 413 (rdK T v (k + 1)) M3 ∧ ∀ c, c ≠ 413 → M3 c = M c) (Ret.loop 8 (fun a t => t.1 = (a : Int) ∧ SQ 413 (fun x y => if x < a then rdK T v (k + 1) x y else rdK T v k x y) t.2 ∧ ∀ c, c ≠ 413 → t.2 c = M c) ⟨rfl, fun x y hx hy => by dsimp only; rw [if_neg (Nat.not_lt_zero _)]; exact k2 x y hx hy, k3⟩ ?_ ?_) (fun M3 hM => Ret.pure ⟨rfl, hM.1, hM.2⟩)
    · rintro a t ha ⟨t1, t2, t3⟩
      rw [t1, w32e (n := (a : Int) + 1) (by omega) (by omega)]
      refine Ret.t (by omega) ?_
      refine Ret.bind (R := fun M3 => SQ 413 (fun x y => if x < a + 1 then rdK T v (k + 1) x y else rdK T v k x y) M3 ∧ ∀ c, c ≠ 413 → M3 c = M c) (Ret.loop 8 (fun b' u => u.1 = (b' : Int) ∧ SQ 413 (fun x y => if x < a ∨ (x = a ∧ y < b') then rdK T v (k + 1) x y else rdK T v k x y) u.2 ∧ ∀ c, c ≠ 413 → u.2 c = M c) ⟨rfl, fun x y hx hy => by dsimp only; rw [t2 x y hx hy]; exact ifc (by omega), t3⟩ ?_ ?_) (fun M3 hM => Ret.pure ⟨rfl, hM.1, hM.2⟩)
      · rintro b' u hb' ⟨u1, u2, u3⟩
        have w1 := w8 (a := a) (b := k) ha hk
        have w2 := w8 (a := k) (b := b') hk hb'
        have w3 := w8 (a := a) (b := b') ha hb'
        have c1 : u.2 413 (8 * a + k) = rdK T v k a k := by
          rw [u2 a k ha hk]
          dsimp only
          split
          · exact rdK_col ho.1 v k a
          · rfl
        have c2 : u.2 413 (8 * k + b') = rdK T v k k b' := by
          rw [u2 k b' hk hb']
          dsimp only
          split
          · exact rdK_row ho.1 v k b'
          · rfl
        have c3 : u.2 413 (8 * a + b') = rdK T v k a b' := by
          rw [u2 a b' ha hb']
          dsimp only
          rw [if_neg (by omega)]
        have r1 := rdK_R ho.1 v k a k
        have r2 := rdK_R ho.1 v k k b'
        rw [u1, w1.1, w2.1, w3.1, w32e (n := (b' : Int) + 1) (by omega) (by omega), Int.toNat_natCast, Int.toNat_natCast, Int.toNat_natCast, c1, c2, c3, w32e (n := rdK T v k a k + rdK T v k k b') (by omega) (by omega)]
        have up : ∀ (x y : Nat), ¬ (x = a ∧ y = b') → ((x < a ∨ (x = a ∧ y < b' + 1)) ↔ (x < a ∨ (x = a ∧ y < b'))) := fun x y hxy => by omega
        refine Ret.t (by omega) (Ret.t (by omega) (Ret.t (by omega) (Ret.letI (Ret.t (by omega) ?_))))
        refine Ret.bind (R := fun M3 => SQ 413 (fun x y => if x < a ∨ (x = a ∧ y < b' + 1) then rdK T v (k + 1) x y else rdK T v k x y) M3 ∧ ∀ c, c ≠ 413 → M3 c = M c) (Ret.br (fun hc => Ret.t (by omega) (Ret.letM (Ret.pure ⟨fun x y hx hy => ?_, fun c hc => ?_⟩))) (fun hc => Ret.pure ⟨fun x y hx hy => ?_, u3⟩)) (fun M3 hM => Ret.pure ⟨rfl, hM.1, hM.2⟩)
        · dsimp only
          by_cases hxy : x = a ∧ y = b'
          · obtain ⟨rfl, rfl⟩ := hxy
            rw [mupd_same, if_pos (Or.inr ⟨rfl, by omega⟩), rdK_s]; omega
          · rw [mupd_ne2 _ _ (by omega), u2 x y hx hy]
            exact (ifc (up x y hxy)).symm
        · funext z; rw [mupd_ne _ _ hc, u3 c hc]
        · dsimp only
          by_cases hxy : x = a ∧ y = b'
          · obtain ⟨rfl, rfl⟩ := hxy
            rw [if_pos (Or.inr ⟨rfl, by omega⟩), rdK_s, c3]; omega
          · rw [u2 x y hx hy]
            exact (ifc (up x y hxy)).symm
      · rintro u ⟨u1, u2, u3⟩
        rw [u1]
        refine Ret.f (by omega) (Ret.pure ⟨fun x y hx hy => ?_, u3⟩)
        rw [u2 x y hx hy]
        exact ifc (by omega)
    · rintro t ⟨t1, t2, t3⟩
      rw [t1]
      refine Ret.f (by omega) (Ret.pure ⟨fun x y hx hy => ?_, t3⟩)
      rw [t2 x y hx hy]
      exact if_pos hx
  · rintro s ⟨k1, k2, k3⟩
    rw [k1]
    exact Ret.f (by omega) (Ret.pure ⟨k2, k3⟩)
