/-! NUMBERS, LOOPS, CELLS: how they are reckoned with -/
theorem w32e {n : Int} (h1 : -2147483648 ≤ n) (h2 : n < 2147483648) : w32 n = n := w32_id ⟨h1, h2⟩
theorem wh_for {σ ε : Type} {body : σ → Option (σ ⊕ ε)} {s0 : σ} (st : Nat → σ) (N : Nat) (e : ε) (h0 : s0 = st 0) (hs : ∀ i, i < N → body (st i) = some (.inl (st (i + 1)))) (he : body (st N) = some (.inr e)) : whileO body s0 = some e := by
  have key : ∀ k, k ≤ N → whileO body (st (N - k)) = some e := by
    intro k
    induction k with
    | zero => intro _; exact whileO_inr he
    | succ k ih =>
      intro hk
      rw [whileO_inl (hs (N - (k + 1)) (by omega))]
      rw [show N - (k + 1) + 1 = N - k by omega]
      exact ih (by omega)
  have h := key N (Nat.le_refl _)
  rw [Nat.sub_self] at h
  rw [h0]; exact h
/-- a counting loop with an invariant: what holds at its end -/
theorem wh_inv {σ ε : Type} {body : σ → Option (σ ⊕ ε)} {s0 : σ} (I : Nat → σ → Prop) (Q : ε → Prop) (N : Nat) (h0 : I 0 s0) (hs : ∀ i s, i < N → I i s → (∃ e, body s = some (.inr e) ∧ Q e) ∨ (∃ s', body s = some (.inl s') ∧ I (i + 1) s')) (he : ∀ s, I N s → ∃ e, body s = some (.inr e) ∧ Q e) : ∃ e, whileO body s0 = some e ∧ Q e := by
  refine whileO_ind (fun n s => ∃ i, i ≤ N ∧ n = N - i ∧ I i s) Q ?_ N s0 ⟨0, Nat.zero_le _, by omega, h0⟩
  rintro n s ⟨i, hi, hn, hI⟩
  by_cases hiN : i = N
  · subst hiN
    exact Or.inl (he s hI)
  · rcases hs i s (by omega) hI with ⟨e, h1, h2⟩ | ⟨s', h1, h2⟩
    · exact Or.inl ⟨e, h1, h2⟩
    · exact Or.inr ⟨s', N - (i + 1), h1, by omega, i + 1, by omega, rfl, h2⟩
/-- two loops side by side -/
theorem wh_rel {σ τ ε δ : Type} {b1 : σ → Option (σ ⊕ ε)} {b2 : τ → Option (τ ⊕ δ)} {s0 : σ} {t0 : τ} (R : Nat → σ → τ → Prop) (Q : ε → δ → Prop) (N : Nat) (h0 : R 0 s0 t0)
    (hs : ∀ i s t, i < N → R i s t → (∃ e d, b1 s = some (.inr e) ∧ b2 t = some (.inr d) ∧ Q e d) ∨ (∃ s' t', b1 s = some (.inl s') ∧ b2 t = some (.inl t') ∧ R (i + 1) s' t'))
    (he : ∀ s t, R N s t → ∃ e d, b1 s = some (.inr e) ∧ b2 t = some (.inr d) ∧ Q e d) : ∃ e d, whileO b1 s0 = some e ∧ whileO b2 t0 = some d ∧ Q e d := by
  have key : ∀ k, k ≤ N → ∀ s t, R (N - k) s t → ∃ e d, whileO b1 s = some e ∧ whileO b2 t = some d ∧ Q e d := by
    intro k
    induction k with
    | zero =>
      intro _ s t h
      obtain ⟨e, d, h1, h2, h3⟩ := he s t h
      exact ⟨e, d, whileO_inr h1, whileO_inr h2, h3⟩
    | succ k ih =>
      intro hk s t h
      rcases hs (N - (k + 1)) s t (by omega) h with ⟨e, d, h1, h2, h3⟩ | ⟨s', t', h1, h2, h3⟩
      · exact ⟨e, d, whileO_inr h1, whileO_inr h2, h3⟩
      · rw [show N - (k + 1) + 1 = N - k by omega] at h3
        obtain ⟨e, d, h4, h5, h6⟩ := ih (by omega) s' t' h3
        exact ⟨e, d, by rw [whileO_inl h1]; exact h4, by rw [whileO_inl h2]; exact h5, h6⟩
  exact key N (Nat.le_refl _) s0 t0 (by rw [Nat.sub_self]; exact h0)
theorem mupd_at (M : KM) (k i : Nat) (v : Int) (k' i' : Nat) : mupd M k i v k' i' = if k' = k ∧ i' = i then v else M k' i' := rfl
theorem mupd_same (M : KM) (k i : Nat) (v : Int) : mupd M k i v k i = v := by simp [mupd]
theorem mupd_ne (M : KM) {k i : Nat} (v : Int) {k' i' : Nat} (h : k' ≠ k) : mupd M k i v k' i' = M k' i' := by simp [mupd, h]
theorem mupd_ne2 (M : KM) {k i : Nat} (v : Int) {k' i' : Nat} (h : i' ≠ i) : mupd M k i v k' i' = M k' i' := by simp [mupd, h]
theorem mcp_at (M : KM) (k0 k1 n k i : Nat) : mcp M k0 k1 n k i = if k = k1 ∧ i < n then M k0 i else M k i := rfl
theorem atM_in (M : KM) (k n : Nat) {i : Int} (h : 0 ≤ i) (h2 : i < (n : Int)) : atM M k n i = M k i.toNat := by unfold atM; rw [if_pos ⟨h, h2⟩]
theorem atM_nat (M : KM) (k n : Nat) {i : Nat} (h2 : i < n) : atM M k n (i : Int) = M k i := by rw [atM_in M k n (Int.natCast_nonneg _) (by omega)]; rfl
theorem putM_in (M : KM) (k n : Nat) {i : Int} (v : Int) (h : 0 ≤ i) (h2 : i < (n : Int)) : putM M k n i v = mupd M k i.toNat v := by unfold putM; rw [if_pos ⟨h, h2⟩]
theorem putM_nat (M : KM) (k n : Nat) {i : Nat} (v : Int) (h2 : i < n) : putM M k n (i : Int) v = mupd M k i v := by rw [putM_in M k n v (Int.natCast_nonneg _) (by omega)]; rfl
theorem ob_some {α β : Type} (a : α) (f : α → Option β) : Option.bind (some a) f = f a := rfl
theorem letI_e {α : Type} (x : Int) (f : Int → Option α) : letI_ x f = f x := rfl
theorem letM_e {α : Type} (x : KM) (f : KM → Option α) : letM_ x f = f x := rfl
/-- the cells that may have changed -/
def Fr (A : List Nat) (M M' : KM) : Prop := ∀ k, k ∉ A → M' k = M k
theorem Fr.rf {A : List Nat} {M : KM} : Fr A M M := fun _ _ => rfl
theorem Fr.tr {A B : List Nat} {M M1 M2 : KM} (h1 : Fr A M M1) (h2 : Fr B M1 M2) : Fr (A ++ B) M M2 := fun k hk => by
  rw [List.mem_append] at hk
  rw [h2 k (fun h => hk (Or.inr h)), h1 k (fun h => hk (Or.inl h))]
theorem Fr.tr1 {A : List Nat} {M M1 M2 : KM} (h1 : Fr A M M1) (h2 : Fr A M1 M2) : Fr A M M2 := fun k hk => by rw [h2 k hk, h1 k hk]
theorem Fr.mono {A B : List Nat} {M M' : KM} (h : Fr A M M') (hb : (A.all fun a => B.contains a) = true) : Fr B M M' := fun k hk => h k (fun ha => hk (by
  have := List.all_eq_true.mp hb k ha
  exact List.contains_iff_mem.mp this))
theorem Fr.upd {A : List Nat} {M M' : KM} {k i : Nat} {v : Int} (h : Fr A M M') (hk : A.contains k = true) : Fr A M (mupd M' k i v) := fun k' hk' => by
  have hne : k' ≠ k := fun e => hk' (by rw [e]; exact List.contains_iff_mem.mp hk)
  rw [← h k' hk']
  funext j
  exact mupd_ne M' v hne
theorem Fr.cp {A : List Nat} {M M' : KM} {k0 k1 n : Nat} (h : Fr A M M') (hk : A.contains k1 = true) : Fr A M (mcp M' k0 k1 n) := fun k' hk' => by
  have hne : k' ≠ k1 := fun e => hk' (by rw [e]; exact List.contains_iff_mem.mp hk)
  rw [← h k' hk']
  funext j
  rw [mcp_at, if_neg (fun q => hne q.1)]
theorem Fr.get {A : List Nat} {M M' : KM} (h : Fr A M M') {k : Nat} (hk : A.contains k = false) : M' k = M k := h k (fun hh => by rw [List.contains_iff_mem.mpr hh] at hk; cases hk)
