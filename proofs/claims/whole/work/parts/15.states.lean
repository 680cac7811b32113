/-! STATES: how they change, how they are copied, what is kept of them -/
def vset (v : Nat → Int) (i : Nat) (x : Int) : Nat → Int := fun j => if j = i then x else v j
theorem vset_same (v : Nat → Int) (i : Nat) (x : Int) : vset v i x i = x := by simp [vset]
theorem vset_ne (v : Nat → Int) {i j : Nat} (x : Int) (h : j ≠ i) : vset v i x j = v j := by simp [vset, h]
theorem SC.congr {k : Nat} {n : Int} {v : Nat → Int} {M M' : KM} (h : SC k n v M) (he : ∀ c, k ≤ c → c ≤ k + 6 → M' c = M c) : SC k n v M' := by
  unfold SC at h ⊢
  rw [he k (by omega) (by omega), he (k + 1) (by omega) (by omega), he (k + 2) (by omega) (by omega), he (k + 3) (by omega) (by omega), he (k + 4) (by omega) (by omega), he (k + 5) (by omega) (by omega), he (k + 6) (by omega) (by omega)]
  exact h
theorem SM.congr {c o : Nat} {v : Nat → Int} {M M' : KM} (h : SM c o v M) (he : ∀ j, j < 171 → M' c (o + j) = M c (o + j)) : SM c o v M' := fun j hj => by rw [he j hj]; exact h j hj
theorem SM_set {v : Nat → Int} {M : KM} (h : SM 411 0 v M) (i : Nat) (x : Int) : SM 411 0 (vset v i x) (mupd M 411 i x) := fun j hj => by
  rw [Nat.zero_add]
  by_cases hij : j = i
  · subst hij; rw [mupd_same, vset_same]
  · rw [mupd_ne2 _ _ hij, vset_ne _ _ hij]
    have := h j hj
    rwa [Nat.zero_add] at this
theorem SC_age {k : Nat} {n : Int} {v : Nat → Int} {M : KM} (h : SC k n v M) (hn : n ≤ 8) {p : Nat} (hp : (p : Int) < n) (x : Int) : SC k n (vset v p x) (mupd M (k + 1) p x) := by
  obtain ⟨h1, h2, h3, h4⟩ := h
  refine ⟨?_, fun q hq => ?_, ?_, fun l hl => ?_⟩
  · rw [vset_ne _ _ (by omega), vset_ne _ _ (by omega), vset_ne _ _ (by omega), vset_ne _ _ (by omega), vset_ne _ _ (by omega)]
    simp only [mupd_ne M (k := k + 1) x (show k ≠ k + 1 by omega)]
    exact h1
  · rw [mupd_ne M x (show k + 2 ≠ k + 1 by omega), vset_ne _ _ (show 8 + q ≠ p by omega)]
    by_cases hqp : q = p
    · subst hqp; rw [mupd_same, vset_same]; exact ⟨rfl, (h2 q hq).2⟩
    · rw [mupd_ne2 _ _ hqp, vset_ne _ _ hqp]; exact h2 q hq
  · rw [vset_ne _ _ (show 17 ≠ p by omega)]; simp only [mupd_ne M (k := k + 1) x (show k ≠ k + 1 by omega)]; exact h3
  · rw [vset_ne _ _ (by omega)] at hl
    rw [vset_ne _ _ (by omega), vset_ne _ _ (by omega), vset_ne _ _ (by omega), vset_ne _ _ (by omega), vset_ne _ _ (by omega), mupd_ne M x (show k + 3 ≠ k + 1 by omega), mupd_ne M x (show k + 4 ≠ k + 1 by omega), mupd_ne M x (show k + 5 ≠ k + 1 by omega), mupd_ne M x (show k + 6 ≠ k + 1 by omega), mupd_ne M x (show k ≠ k + 1 by omega)]
    exact h4 l hl
theorem SC_coin {k : Nat} {n : Int} {v : Nat → Int} {M : KM} (h : SC k n v M) (hn : n ≤ 8) {p : Nat} (hp : (p : Int) < n) (x : Int) : SC k n (vset v (8 + p) x) (mupd M (k + 2) p x) := by
  obtain ⟨h1, h2, h3, h4⟩ := h
  refine ⟨?_, fun q hq => ?_, ?_, fun l hl => ?_⟩
  · rw [vset_ne _ _ (by omega), vset_ne _ _ (by omega), vset_ne _ _ (by omega), vset_ne _ _ (by omega), vset_ne _ _ (by omega)]
    simp only [mupd_ne M (k := k + 2) x (show k ≠ k + 2 by omega)]
    exact h1
  · rw [mupd_ne M x (show k + 1 ≠ k + 2 by omega), vset_ne _ _ (show q ≠ 8 + p by omega)]
    by_cases hqp : q = p
    · subst hqp; rw [mupd_same, vset_same]; exact ⟨(h2 q hq).1, rfl⟩
    · rw [mupd_ne2 _ _ hqp, vset_ne _ _ (by omega)]; exact h2 q hq
  · rw [vset_ne _ _ (show 17 ≠ 8 + p by omega)]; simp only [mupd_ne M (k := k + 2) x (show k ≠ k + 2 by omega)]; exact h3
  · rw [vset_ne _ _ (by omega)] at hl
    rw [vset_ne _ _ (by omega), vset_ne _ _ (by omega), vset_ne _ _ (by omega), vset_ne _ _ (by omega), vset_ne _ _ (by omega), mupd_ne M x (show k + 3 ≠ k + 2 by omega), mupd_ne M x (show k + 4 ≠ k + 2 by omega), mupd_ne M x (show k + 5 ≠ k + 2 by omega), mupd_ne M x (show k + 6 ≠ k + 2 by omega), mupd_ne M x (show k ≠ k + 2 by omega)]
    exact h4 l hl
/-- a number of its own: alive, YEAR, SEED, DEFAULTS -/
theorem SC_num {k : Nat} {n : Int} {v : Nat → Int} {M : KM} (h : SC k n v M) (j i : Nat) (hji : (j = 3 ∧ i = 16) ∨ (j = 4 ∧ i = 19) ∨ (j = 5 ∧ i = 20) ∨ (j = 7 ∧ i = 18)) (hn : n ≤ 8) (x : Int) : SC k n (vset v i x) (mupd M k j x) := by
  obtain ⟨h1, h2, h3, h4⟩ := h
  refine ⟨?_, fun q hq => ?_, ?_, fun l hl => ?_⟩
  · rcases hji with ⟨rfl, rfl⟩ | ⟨rfl, rfl⟩ | ⟨rfl, rfl⟩ | ⟨rfl, rfl⟩ <;> simp [mupd, vset, h1]
  · rw [mupd_ne M x (show k + 1 ≠ k by omega), mupd_ne M x (show k + 2 ≠ k by omega), vset_ne _ _ (by omega), vset_ne _ _ (by omega)]
    exact h2 q hq
  · rw [mupd_ne2 M x (show 8 ≠ j by omega), vset_ne _ _ (show 17 ≠ i by omega)]; exact h3
  · rw [vset_ne _ _ (by omega)] at hl
    rw [vset_ne _ _ (by omega), vset_ne _ _ (by omega), vset_ne _ _ (by omega), vset_ne _ _ (by omega), vset_ne _ _ (by omega), mupd_ne M x (show k + 3 ≠ k by omega), mupd_ne M x (show k + 4 ≠ k by omega), mupd_ne M x (show k + 5 ≠ k by omega), mupd_ne M x (show k + 6 ≠ k by omega), mupd_ne2 M x (show 8 ≠ j by omega)]
    exact h4 l hl
theorem State_copy {k0 k1 : Nat} {M : KM} (hk : k0 + 7 ≤ k1 ∨ k1 + 7 ≤ k0) : ∃ M', f_State_copy k0 k1 M = some M' ∧ (∀ c, c < k1 ∨ k1 + 7 ≤ c → M' c = M c) ∧ ∀ n v, SC k0 n v M → v 17 ≤ 30 → n ≤ 8 → SC k1 n v M' := by
  obtain ⟨M1, e1⟩ : ∃ X, X = mcp M (k0 + 1) (k1 + 1) (min 8 8) := ⟨_, rfl⟩
  have g1 : ∀ c j, c ≠ k1 + 1 → M1 c j = M c j := fun c j h => by rw [e1, mcp_at, if_neg (fun q => h q.1)]
  have r1 : ∀ j, j < 8 → M1 (k1 + 1) j = M (k0 + 1) j := fun j h => by rw [e1, mcp_at, if_pos ⟨rfl, h⟩]
  obtain ⟨M2, e2⟩ : ∃ X, X = mcp M1 (k0 + 2) (k1 + 2) (min 8 8) := ⟨_, rfl⟩
  have g2 : ∀ c j, c ≠ k1 + 2 → M2 c j = M1 c j := fun c j h => by rw [e2, mcp_at, if_neg (fun q => h q.1)]
  have r2 : ∀ j, j < 8 → M2 (k1 + 2) j = M1 (k0 + 2) j := fun j h => by rw [e2, mcp_at, if_pos ⟨rfl, h⟩]
  obtain ⟨M3, e3⟩ : ∃ X, X = mupd M2 k1 2 (M2 k0 2) := ⟨_, rfl⟩
  have g3 : ∀ c j, c ≠ k1 ∨ j ≠ 2 → M3 c j = M2 c j := fun c j h => by rw [e3, mupd_at, if_neg (by omega)]
  have r3 : M3 k1 2 = M2 k0 2 := by rw [e3, mupd_same]
  obtain ⟨M4, e4⟩ : ∃ X, X = mupd M3 k1 3 (M3 k0 3) := ⟨_, rfl⟩
  have g4 : ∀ c j, c ≠ k1 ∨ j ≠ 3 → M4 c j = M3 c j := fun c j h => by rw [e4, mupd_at, if_neg (by omega)]
  have r4 : M4 k1 3 = M3 k0 3 := by rw [e4, mupd_same]
  obtain ⟨M5, e5⟩ : ∃ X, X = mupd M4 k1 4 (M4 k0 4) := ⟨_, rfl⟩
  have g5 : ∀ c j, c ≠ k1 ∨ j ≠ 4 → M5 c j = M4 c j := fun c j h => by rw [e5, mupd_at, if_neg (by omega)]
  have r5 : M5 k1 4 = M4 k0 4 := by rw [e5, mupd_same]
  obtain ⟨M6, e6⟩ : ∃ X, X = mupd M5 k1 5 (M5 k0 5) := ⟨_, rfl⟩
  have g6 : ∀ c j, c ≠ k1 ∨ j ≠ 5 → M6 c j = M5 c j := fun c j h => by rw [e6, mupd_at, if_neg (by omega)]
  have r6 : M6 k1 5 = M5 k0 5 := by rw [e6, mupd_same]
  obtain ⟨M7, e7⟩ : ∃ X, X = mupd M6 k1 6 (M6 k0 6) := ⟨_, rfl⟩
  have g7 : ∀ c j, c ≠ k1 ∨ j ≠ 6 → M7 c j = M6 c j := fun c j h => by rw [e7, mupd_at, if_neg (by omega)]
  have r7 : M7 k1 6 = M6 k0 6 := by rw [e7, mupd_same]
  obtain ⟨M8, e8⟩ : ∃ X, X = mupd M7 k1 7 (M7 k0 7) := ⟨_, rfl⟩
  have g8 : ∀ c j, c ≠ k1 ∨ j ≠ 7 → M8 c j = M7 c j := fun c j h => by rw [e8, mupd_at, if_neg (by omega)]
  have r8 : M8 k1 7 = M7 k0 7 := by rw [e8, mupd_same]
  obtain ⟨M9, e9⟩ : ∃ X, X = mupd M8 k1 8 (M8 k0 8) := ⟨_, rfl⟩
  have g9 : ∀ c j, c ≠ k1 ∨ j ≠ 8 → M9 c j = M8 c j := fun c j h => by rw [e9, mupd_at, if_neg (by omega)]
  have r9 : M9 k1 8 = M8 k0 8 := by rw [e9, mupd_same]
  obtain ⟨M10, e10⟩ : ∃ X, X = mcp M9 (k0 + 3) (k1 + 3) (min 30 30) := ⟨_, rfl⟩
  have g10 : ∀ c j, c ≠ k1 + 3 → M10 c j = M9 c j := fun c j h => by rw [e10, mcp_at, if_neg (fun q => h q.1)]
  have r10 : ∀ j, j < 30 → M10 (k1 + 3) j = M9 (k0 + 3) j := fun j h => by rw [e10, mcp_at, if_pos ⟨rfl, h⟩]
  obtain ⟨M11, e11⟩ : ∃ X, X = mcp M10 (k0 + 4) (k1 + 4) (min 30 30) := ⟨_, rfl⟩
  have g11 : ∀ c j, c ≠ k1 + 4 → M11 c j = M10 c j := fun c j h => by rw [e11, mcp_at, if_neg (fun q => h q.1)]
  have r11 : ∀ j, j < 30 → M11 (k1 + 4) j = M10 (k0 + 4) j := fun j h => by rw [e11, mcp_at, if_pos ⟨rfl, h⟩]
  obtain ⟨M12, e12⟩ : ∃ X, X = mcp M11 (k0 + 5) (k1 + 5) (min 30 30) := ⟨_, rfl⟩
  have g12 : ∀ c j, c ≠ k1 + 5 → M12 c j = M11 c j := fun c j h => by rw [e12, mcp_at, if_neg (fun q => h q.1)]
  have r12 : ∀ j, j < 30 → M12 (k1 + 5) j = M11 (k0 + 5) j := fun j h => by rw [e12, mcp_at, if_pos ⟨rfl, h⟩]
  obtain ⟨M13, e13⟩ : ∃ X, X = mcp M12 (k0 + 6) (k1 + 6) (min 30 30) := ⟨_, rfl⟩
  have g13 : ∀ c j, c ≠ k1 + 6 → M13 c j = M12 c j := fun c j h => by rw [e13, mcp_at, if_neg (fun q => h q.1)]
  have r13 : ∀ j, j < 30 → M13 (k1 + 6) j = M12 (k0 + 6) j := fun j h => by rw [e13, mcp_at, if_pos ⟨rfl, h⟩]
  have gc : ∀ c j, (c < k1 ∨ k1 + 7 ≤ c) → M13 c j = M c j := fun c j h => by rw [g13 _ _ (by omega), g12 _ _ (by omega), g11 _ _ (by omega), g10 _ _ (by omega), g9 _ _ (by omega), g8 _ _ (by omega), g7 _ _ (by omega), g6 _ _ (by omega), g5 _ _ (by omega), g4 _ _ (by omega), g3 _ _ (by omega), g2 _ _ (by omega), g1 _ _ (by omega)]
  have f1 : ∀ j, j < 8 → M13 (k1 + 1) j = M (k0 + 1) j := fun j h => by rw [g13 _ _ (by omega), g12 _ _ (by omega), g11 _ _ (by omega), g10 _ _ (by omega), g9 _ _ (by omega), g8 _ _ (by omega), g7 _ _ (by omega), g6 _ _ (by omega), g5 _ _ (by omega), g4 _ _ (by omega), g3 _ _ (by omega), g2 _ _ (by omega), r1 j h]
  have f2 : ∀ j, j < 8 → M13 (k1 + 2) j = M (k0 + 2) j := fun j h => by rw [g13 _ _ (by omega), g12 _ _ (by omega), g11 _ _ (by omega), g10 _ _ (by omega), g9 _ _ (by omega), g8 _ _ (by omega), g7 _ _ (by omega), g6 _ _ (by omega), g5 _ _ (by omega), g4 _ _ (by omega), g3 _ _ (by omega), r2 j h, g1 _ _ (by omega)]
  have f3 : M13 k1 2 = M k0 2 := by rw [g13 _ _ (by omega), g12 _ _ (by omega), g11 _ _ (by omega), g10 _ _ (by omega), g9 _ _ (by omega), g8 _ _ (by omega), g7 _ _ (by omega), g6 _ _ (by omega), g5 _ _ (by omega), g4 _ _ (by omega), r3, g2 _ _ (by omega), g1 _ _ (by omega)]
  have f4 : M13 k1 3 = M k0 3 := by rw [g13 _ _ (by omega), g12 _ _ (by omega), g11 _ _ (by omega), g10 _ _ (by omega), g9 _ _ (by omega), g8 _ _ (by omega), g7 _ _ (by omega), g6 _ _ (by omega), g5 _ _ (by omega), r4, g3 _ _ (by omega), g2 _ _ (by omega), g1 _ _ (by omega)]
  have f5 : M13 k1 4 = M k0 4 := by rw [g13 _ _ (by omega), g12 _ _ (by omega), g11 _ _ (by omega), g10 _ _ (by omega), g9 _ _ (by omega), g8 _ _ (by omega), g7 _ _ (by omega), g6 _ _ (by omega), r5, g4 _ _ (by omega), g3 _ _ (by omega), g2 _ _ (by omega), g1 _ _ (by omega)]
  have f6 : M13 k1 5 = M k0 5 := by rw [g13 _ _ (by omega), g12 _ _ (by omega), g11 _ _ (by omega), g10 _ _ (by omega), g9 _ _ (by omega), g8 _ _ (by omega), g7 _ _ (by omega), r6, g5 _ _ (by omega), g4 _ _ (by omega), g3 _ _ (by omega), g2 _ _ (by omega), g1 _ _ (by omega)]
  have f7 : M13 k1 6 = M k0 6 := by rw [g13 _ _ (by omega), g12 _ _ (by omega), g11 _ _ (by omega), g10 _ _ (by omega), g9 _ _ (by omega), g8 _ _ (by omega), r7, g6 _ _ (by omega), g5 _ _ (by omega), g4 _ _ (by omega), g3 _ _ (by omega), g2 _ _ (by omega), g1 _ _ (by omega)]
  have f8 : M13 k1 7 = M k0 7 := by rw [g13 _ _ (by omega), g12 _ _ (by omega), g11 _ _ (by omega), g10 _ _ (by omega), g9 _ _ (by omega), r8, g7 _ _ (by omega), g6 _ _ (by omega), g5 _ _ (by omega), g4 _ _ (by omega), g3 _ _ (by omega), g2 _ _ (by omega), g1 _ _ (by omega)]
  have f9 : M13 k1 8 = M k0 8 := by rw [g13 _ _ (by omega), g12 _ _ (by omega), g11 _ _ (by omega), g10 _ _ (by omega), r9, g8 _ _ (by omega), g7 _ _ (by omega), g6 _ _ (by omega), g5 _ _ (by omega), g4 _ _ (by omega), g3 _ _ (by omega), g2 _ _ (by omega), g1 _ _ (by omega)]
  have f10 : ∀ j, j < 30 → M13 (k1 + 3) j = M (k0 + 3) j := fun j h => by rw [g13 _ _ (by omega), g12 _ _ (by omega), g11 _ _ (by omega), r10 j h, g9 _ _ (by omega), g8 _ _ (by omega), g7 _ _ (by omega), g6 _ _ (by omega), g5 _ _ (by omega), g4 _ _ (by omega), g3 _ _ (by omega), g2 _ _ (by omega), g1 _ _ (by omega)]
  have f11 : ∀ j, j < 30 → M13 (k1 + 4) j = M (k0 + 4) j := fun j h => by rw [g13 _ _ (by omega), g12 _ _ (by omega), r11 j h, g10 _ _ (by omega), g9 _ _ (by omega), g8 _ _ (by omega), g7 _ _ (by omega), g6 _ _ (by omega), g5 _ _ (by omega), g4 _ _ (by omega), g3 _ _ (by omega), g2 _ _ (by omega), g1 _ _ (by omega)]
  have f12 : ∀ j, j < 30 → M13 (k1 + 5) j = M (k0 + 5) j := fun j h => by rw [g13 _ _ (by omega), r12 j h, g11 _ _ (by omega), g10 _ _ (by omega), g9 _ _ (by omega), g8 _ _ (by omega), g7 _ _ (by omega), g6 _ _ (by omega), g5 _ _ (by omega), g4 _ _ (by omega), g3 _ _ (by omega), g2 _ _ (by omega), g1 _ _ (by omega)]
  have f13 : ∀ j, j < 30 → M13 (k1 + 6) j = M (k0 + 6) j := fun j h => by rw [r13 j h, g12 _ _ (by omega), g11 _ _ (by omega), g10 _ _ (by omega), g9 _ _ (by omega), g8 _ _ (by omega), g7 _ _ (by omega), g6 _ _ (by omega), g5 _ _ (by omega), g4 _ _ (by omega), g3 _ _ (by omega), g2 _ _ (by omega), g1 _ _ (by omega)]
  refine ⟨M13, ?_, fun c hc => by funext j; exact gc c j hc, fun n v h hv hn => ?_⟩
  · rw [e13, e12, e11, e10, e9, e8, e7, e6, e5, e4, e3, e2, e1]; rfl
  · obtain ⟨h1, h2, h3, h4⟩ := h
    refine ⟨?_, fun q hq => ?_, ?_, fun l hl => ?_⟩
    · rw [f3, f4, f5, f6, f7, f8]; exact h1
    · rw [f1 q (by omega), f2 q (by omega)]; exact h2 q hq
    · rw [f9]; exact h3
    · rw [f10 l (by omega), f11 l (by omega), f12 l (by omega), f13 l (by omega), f9]; exact h4 l hl
