/-! WHAT THE CONSTRUCTORS LEAVE is held by both sides: a town with nobody in it -/
theorem JJ_start {M : KM} (h0 : ∀ k i, k ≠ 2 → k ≠ 14 → k ≠ 15 → k ≠ 382 → k ≠ 391 → k ≠ 414 → M k i = 0) (h2 : ∀ i, M 2 i = if i = 11 then -1 else if i = 13 then 120 else 0) (h14 : M 14 0 = 0 ∧ M 14 1 = -1) (h382 : ∀ i, M 382 i = if i = 5 ∨ i = 59 then -1 else 0) (h391 : M 391 0 = 120) (h414 : ∀ i, i < 8 → M 414 i = -1) : JJ M := by
  have z : ∀ k i, k < 2 ∨ (2 < k ∧ k < 14) ∨ (15 < k ∧ k < 382) ∨ (382 < k ∧ k < 391) ∨ (391 < k ∧ k < 414) ∨ 414 < k → M k i = 0 := fun k i hk => h0 k i (by omega) (by omega) (by omega) (by omega) (by omega) (by omega)
  have no : ∀ i : Nat, ¬ (i : Int) < 0 := fun i => by omega
  have v0 : ∀ j, j < 171 → vIni empT j = 0 := fun j hj => by
    unfold vIni
    split
    · exact if_neg (no _)
    · split
      · exact if_neg (no _)
      · split
        · rfl
        · split <;> rfl
  have sc : ∀ k, (∀ c i, k ≤ c → c ≤ k + 6 → M c i = 0) → SC k (empT 0 0) (vIni empT) M := fun k hk => by
    refine ⟨⟨hk k 2 (by omega) (by omega), ?_, ?_, ?_, ?_, ?_⟩, fun p hp => absurd hp (no p), ?_, fun l hl => ?_⟩
    · rw [hk k 3 (by omega) (by omega), v0 16 (by omega)]
    · rw [hk k 4 (by omega) (by omega), v0 19 (by omega)]
    · rw [hk k 5 (by omega) (by omega), v0 20 (by omega)]
    · rw [hk k 6 (by omega) (by omega), v0 17 (by omega)]
    · rw [hk k 7 (by omega) (by omega), v0 18 (by omega)]
    · rw [hk k 8 (by omega) (by omega)]; exact ⟨by decide, by decide, fun i _ => by unfold bt; simp⟩
    · rw [v0 17 (by omega)] at hl; exact absurd hl (no l)
  refine JJ.mk (b := 0) (T := empT) (R := fun _ => []) (v := vIni empT) (a := 0) (u := 0) (hs := fun _ => vIni empT) (fl := fun _ => false) (bx := fun _ _ => 0) (c := 0) (t := 0) (F := empT) (l := []) (tg := fun _ => false) (ta := fun _ => 0) (L := 0) (X := fun _ => 0) (e0 := 0) (e1 := -1) ⟨⟨okT_emp, okS_ini okT_emp⟩, ⟨fun i _ => okS_ini okT_emp, rfl⟩, (fun i _ hf => (by cases hf)), ⟨⟨Nat.zero_le _, Int.le_refl _, (by decide)⟩, fun i hi => absurd hi (Nat.not_lt_zero i)⟩, okG_none, Nat.zero_le _, fun i hi => absurd hi (Nat.not_lt_zero i)⟩ ?_ ?_
  · refine ⟨⟨⟨⟨h2 0, h2 5, h2 9, h2 12, h2 13, h2 14, h2 15⟩, fun p hp => absurd hp (no p), fun f hf => absurd hf (no f), fun r hr => absurd hr (no r), ⟨fun _ => h2 11, fun q => by have q : (0 : Int) = 1 := q; omega⟩, ?_⟩, sc 34 fun c i h1 h2 => z c i (by omega)⟩, ⟨0, by omega, ⟨z 41 1 (by omega), z 41 2 (by omega), z 41 3 (by omega)⟩, by omega, fun i hi => ?_⟩, ⟨⟨?_, ?_, fun i hi => ?_⟩, (fun i _ hf => (by cases hf))⟩, ⟨⟨z 349 0 (by omega), z 349 1 (by omega)⟩, fun i hi => absurd hi (Nat.not_lt_zero i)⟩, ⟨Nat.zero_le _, z 0 16 (by omega), (fun i x hx => (by cases hx))⟩, ⟨⟨?_, ?_, fun p => ?_⟩, (fun p _ hp => (by cases hp))⟩, ⟨z 0 1 (by omega), fun i hi => absurd hi (Nat.not_lt_zero i)⟩, h14⟩
    · show 0 ≤ M 11 1 ∧ M 11 1 ≤ 1600
      rw [z 11 1 (by omega)]; decide
    · have : i = 0 := by omega
      subst this
      exact sc _ fun c i h1 h2 => z c i (by omega)
    · rw [z 0 7 (by omega)]; decide
    · rw [z 0 7 (by omega)]; decide
    · rw [z 0 7 (by omega)]; exact bt_0 i
    · rw [z 0 9 (by omega)]; decide
    · rw [z 0 9 (by omega)]; decide
    · rw [z 0 9 (by omega)]; exact bt_0 p
  · refine ⟨⟨⟨⟨by omega, by rw [h382]; rfl⟩, ⟨⟨z 385 0 (by omega), z 386 0 (by omega), z 387 0 (by omega), z 390 0 (by omega), h391, z 389 0 (by omega), z 388 0 (by omega), z 403 _ (by omega)⟩, fun p hp => absurd hp (no p), fun f hf => absurd hf (no f), fun r hr => absurd hr (no r), fun q => by have q : (0 : Int) = 1 := q; omega⟩, fun j hj => ?_⟩, ⟨fun r hr => absurd hr (no r), fun q => by have q : (0 : Int) = 1 := q; omega⟩⟩, ⟨⟨by rw [h382]; rfl, by rw [h382]; rfl⟩, by omega, fun i hi => absurd hi (Nat.not_lt_zero i), fun i hi => absurd hi (Nat.not_lt_zero i)⟩, ⟨fun i hi => ?_, (fun i _ hf => (by cases hf))⟩, ⟨⟨by rw [h382]; rfl, by rw [h382]; rfl⟩, fun i hi => absurd hi (Nat.not_lt_zero i)⟩, ⟨Nat.zero_le _, by rw [h382]; rfl, (fun i x hx => (by cases hx))⟩, fun p hp => ?_, ⟨by rw [h382]; rfl, fun i hi => absurd hi (Nat.not_lt_zero i)⟩, ⟨by rw [h382]; rfl, by rw [h382]; rfl⟩, by rw [h382]; rfl⟩
    · rw [z 411 _ (by omega), v0 j hj]
    · rw [z 434 i (by omega)]; rfl
    · rw [h414 p hp]; rfl
