/-! WHAT A RUN COMES TO -/
def Ret {β : Type} (x : Option β) (P : β → Prop) : Prop := ∃ r, x = some r ∧ P r
section RET
variable {α β : Type} {a b : Option β} {P Q : β → Prop}
theorem Ret.pure {r : β} (h : P r) : Ret (some r) P := ⟨r, rfl, h⟩
theorem Ret.eq {x : Option β} {r : β} (h : x = some r) (hP : P r) : Ret x P := ⟨r, h, hP⟩
theorem Ret.bind {x : Option α} {k : α → Option β} {R : α → Prop} (h : Ret x R) (hk : ∀ e, R e → Ret (k e) P) : Ret (Option.bind x k) P := by
  obtain ⟨e, rfl, hq⟩ := h
  exact hk e hq
theorem Ret.bindE {x : Option α} {k : α → Option β} {r : α} (h : x = some r) (hk : Ret (k r) P) : Ret (Option.bind x k) P := by
  subst h; exact hk
theorem Ret.br {c : Prop} {dc : Decidable c} (h1 : c → Ret a P) (h2 : ¬c → Ret b P) : Ret (@ite _ c dc a b) P := by
  by_cases h : c
  · rw [if_pos h]; exact h1 h
  · rw [if_neg h]; exact h2 h
theorem Ret.t {c : Prop} {dc : Decidable c} (hc : c) (h : Ret a P) : Ret (@ite _ c dc a b) P := by rw [if_pos hc]; exact h
theorem Ret.f {c : Prop} {dc : Decidable c} (hc : ¬c) (h : Ret b P) : Ret (@ite _ c dc a b) P := by rw [if_neg hc]; exact h
theorem Ret.letI {x : Int} {f : Int → Option β} (h : Ret (f x) P) : Ret (letI_ x f) P := h
theorem Ret.letM {x : KM} {f : KM → Option β} (h : Ret (f x) P) : Ret (letM_ x f) P := h
theorem Ret.mono {x : Option β} (h : Ret x P) (hPQ : ∀ r, P r → Q r) : Ret x Q := by
  obtain ⟨r, h1, h2⟩ := h
  exact ⟨r, h1, hPQ r h2⟩
theorem Ret.some_of {x : Option β} {r : β} (h : Ret x fun q => q = r) : x = some r := by
  obtain ⟨q, h1, rfl⟩ := h; exact h1
/-- a counting loop -/
theorem Ret.loop {σ ε : Type} {body : σ → Option (σ ⊕ ε)} {s0 : σ} {Q : ε → Prop} (N : Nat) (I : Nat → σ → Prop) (h0 : I 0 s0)
    (hs : ∀ i s, i < N → I i s → Ret (body s) (Sum.elim (fun s' => I (i + 1) s') Q)) (he : ∀ s, I N s → Ret (body s) (Sum.elim (fun _ => False) Q)) : Ret (whileO body s0) Q := by
  refine wh_inv I Q N h0 (fun i s hi hI => ?_) (fun s hI => ?_)
  · obtain ⟨r, h1, h2⟩ := hs i s hi hI
    cases r with
    | inl s' => exact Or.inr ⟨s', h1, h2⟩
    | inr e => exact Or.inl ⟨e, h1, h2⟩
  · obtain ⟨r, h1, h2⟩ := he s hI
    cases r with
    | inl s' => exact h2.elim
    | inr e => exact ⟨e, h1, h2⟩
/-- a loop along a list -/
theorem Ret.list {σ ε δ : Type} {body : σ → Option (σ ⊕ ε)} {Q : ε → Prop} (I : List δ → σ → Prop)
    (hc : ∀ d L s, I (d :: L) s → Ret (body s) (Sum.elim (fun s' => I L s') fun _ => False)) (hn : ∀ s, I [] s → Ret (body s) (Sum.elim (fun _ => False) Q)) : ∀ (L : List δ) (s0 : σ), I L s0 → Ret (whileO body s0) Q := by
  intro L
  induction L with
  | nil =>
    intro s0 h0
    obtain ⟨r, h1, h2⟩ := hn s0 h0
    cases r with
    | inl s' => exact h2.elim
    | inr e => exact ⟨e, whileO_inr h1, h2⟩
  | cons d L ih =>
    intro s0 h0
    obtain ⟨r, h1, h2⟩ := hc d L s0 h0
    cases r with
    | inl s' => rw [whileO_inl h1]; exact ih s' h2
    | inr e => exact h2.elim
/-- a loop with a measure -/
theorem Ret.meas {σ ε : Type} {body : σ → Option (σ ⊕ ε)} {Q : ε → Prop} (I : Nat → σ → Prop)
    (hs : ∀ n s, I n s → Ret (body s) (Sum.elim (fun s' => ∃ m, m < n ∧ I m s') Q)) : ∀ n s0, I n s0 → Ret (whileO body s0) Q := by
  refine whileO_ind I Q (fun n s hI => ?_)
  obtain ⟨r, h1, h2⟩ := hs n s hI
  cases r with
  | inl s' => obtain ⟨m, h3, h4⟩ := h2; exact Or.inr ⟨s', m, h1, h3, h4⟩
  | inr e => exact Or.inl ⟨e, h1, h2⟩
end RET
/-! WHAT STAYS -/
def Fp (P : Nat → Nat → Prop) (M M' : KM) : Prop := ∀ k j, ¬ P k j → M' k j = M k j
theorem Fp.rf {P : Nat → Nat → Prop} {M : KM} : Fp P M M := fun _ _ _ => rfl
theorem Fp.tr {P : Nat → Nat → Prop} {M M1 M2 : KM} (h1 : Fp P M M1) (h2 : Fp P M1 M2) : Fp P M M2 := fun k j hk => by rw [h2 k j hk, h1 k j hk]
theorem Fp.mono {P Q : Nat → Nat → Prop} {M M' : KM} (h : Fp P M M') (hb : ∀ k j, P k j → Q k j) : Fp Q M M' := fun k j hk => h k j (fun hp => hk (hb k j hp))
theorem Fp.upd {P : Nat → Nat → Prop} {M M' : KM} {k i : Nat} {v : Int} (h : Fp P M M') (hk : P k i) : Fp P M (mupd M' k i v) := fun k' j' hp => by
  rw [mupd_at, if_neg, h k' j' hp]
  rintro ⟨rfl, rfl⟩
  exact hp hk
theorem Fp.cp {P : Nat → Nat → Prop} {M M' : KM} {k0 k1 n : Nat} (h : Fp P M M') (hk : ∀ j, j < n → P k1 j) : Fp P M (mcp M' k0 k1 n) := fun k' j' hp => by
  rw [mcp_at, if_neg, h k' j' hp]
  rintro ⟨rfl, hj⟩
  exact hp (hk _ hj)
/-- the same cells but for some numbers -/
theorem Fp.row {P : Nat → Nat → Prop} {M M' : KM} (h : Fp P M M') {k : Nat} (hk : ∀ j, ¬ P k j) : M' k = M k := by
  funext j; exact h k j (hk j)
