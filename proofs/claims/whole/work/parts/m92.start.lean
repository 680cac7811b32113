/-! WHAT THE CONSTRUCTORS LEAVE is held by both sides: a town with nobody in it -/
theorem JJ_startB {M : KM} (h0 : ∀ k i, k < 382 → k ≠ 2 → k ≠ 14 → k ≠ 15 → ¬ pHC k i → M k i = 0) (h2 : ∀ i, M 2 i = if i = 11 then -1 else if i = 13 then 120 else 0) (h14 : M 14 0 = 0 ∧ M 14 1 = -1) (hH : HC 0 0 (fun _ => vIni empT) (empT 0 0) M) (hW : WM 0 empT (fun _ => []) (vIni empT) M) (h414 : ∀ i, i < 8 → M 414 i = -1) (h434 : ∀ i, i < 3 → M 434 i = 0) (h48 : M 382 48 = 0 ∧ M 382 49 = 0 ∧ M 382 71 = 0 ∧ M 382 63 = 0) (h45 : M 382 4 = 0 ∧ M 382 5 = -1) (h382 : M 382 2 = 0 ∧ M 382 59 = -1 ∧ M 382 72 = 0) : JJ M := by
  have z : ∀ k i, k < 2 ∨ (2 < k ∧ k < 14) ∨ (15 < k ∧ k < 41) ∨ (330 ≤ k ∧ k < 382) → M k i = 0 := fun k i hk => h0 k i (by omega) (by omega) (by omega) (by omega) (by unfold pHC; omega)
  have no : ∀ i : Nat, ¬ (i : Int) < 0 := fun i => by omega
  have v0 : ∀ j, j < 171 → vIni empT j = 0 := fun j hj => by
    unfold vIni
    split
    · exact if_neg (no _)
    · split
      · exact if_neg (no _)
      · split
        · rfl
        · split <;> rfl
  have sc : ∀ k, (∀ c i, k ≤ c → c ≤ k + 6 → M c i = 0) → SC k (empT 0 0) (vIni empT) M := fun k hk => by
    refine ⟨⟨hk k 2 (by omega) (by omega), ?_, ?_, ?_, ?_, ?_⟩, fun p hp => absurd hp (no p), ?_, fun l hl => ?_⟩
    · rw [hk k 3 (by omega) (by omega), v0 16 (by omega)]
    · rw [hk k 4 (by omega) (by omega), v0 19 (by omega)]
    · rw [hk k 5 (by omega) (by omega), v0 20 (by omega)]
    · rw [hk k 6 (by omega) (by omega), v0 17 (by omega)]
    · rw [hk k 7 (by omega) (by omega), v0 18 (by omega)]
    · rw [hk k 8 (by omega) (by omega)]; exact ⟨by decide, by decide, fun i _ => by unfold bt; simp⟩
    · rw [v0 17 (by omega)] at hl; exact absurd hl (no l)
  refine JJ.mk (b := 0) (T := empT) (R := fun _ => []) (v := vIni empT) (a := 0) (u := 0) (hs := fun _ => vIni empT) (fl := fun _ => false) (bx := fun _ _ => 0) (c := 0) (t := 0) (F := empT) (l := []) (tg := fun _ => false) (ta := fun _ => 0) (L := 0) (X := fun _ => 0) (e0 := 0) (e1 := -1) ⟨⟨okT_emp, okS_ini okT_emp⟩, ⟨fun i _ => okS_ini okT_emp, rfl⟩, (fun i _ hf => (by cases hf)), ⟨⟨Nat.zero_le _, Int.le_refl _, (by decide)⟩, fun i hi => absurd hi (Nat.not_lt_zero i)⟩, okG_none, Nat.zero_le _, fun i hi => absurd hi (Nat.not_lt_zero i)⟩ ?_ ?_
  · refine ⟨⟨⟨⟨h2 0, h2 5, h2 9, h2 12, h2 13, h2 14, h2 15⟩, fun p hp => absurd hp (no p), fun f hf => absurd hf (no f), fun r hr => absurd hr (no r), ⟨fun _ => h2 11, fun q => by have q : (0 : Int) = 1 := q; omega⟩, ?_⟩, sc 34 fun c i h1 h2 => z c i (by omega)⟩, hH, ⟨⟨?_, ?_, fun i hi => ?_⟩, (fun i _ hf => (by cases hf))⟩, ⟨⟨z 349 0 (by omega), z 349 1 (by omega)⟩, fun i hi => absurd hi (Nat.not_lt_zero i)⟩, ⟨Nat.zero_le _, z 0 16 (by omega), (fun i x hx => (by cases hx))⟩, ⟨⟨?_, ?_, fun p => ?_⟩, (fun p _ hp => (by cases hp))⟩, ⟨z 0 1 (by omega), fun i hi => absurd hi (Nat.not_lt_zero i)⟩, h14⟩
    · show 0 ≤ M 11 1 ∧ M 11 1 ≤ 1600
      rw [z 11 1 (by omega)]; decide
    · rw [z 0 7 (by omega)]; decide
    · rw [z 0 7 (by omega)]; decide
    · rw [z 0 7 (by omega)]; exact bt_0 i
    · rw [z 0 9 (by omega)]; decide
    · rw [z 0 9 (by omega)]; decide
    · rw [z 0 9 (by omega)]; exact bt_0 p
  · refine ⟨⟨hW, ⟨fun r hr => absurd hr (no r), fun q => by have q : (0 : Int) = 1 := q; omega⟩⟩, ⟨⟨h48.1, h48.2.1⟩, by omega, fun i hi => absurd hi (Nat.not_lt_zero i), fun i hi => absurd hi (Nat.not_lt_zero i)⟩, ⟨fun i hi => ?_, (fun i _ hf => (by cases hf))⟩, ⟨⟨h48.2.2.1, h382.2.2⟩, fun i hi => absurd hi (Nat.not_lt_zero i)⟩, ⟨Nat.zero_le _, h48.2.2.2, (fun i x hx => (by cases hx))⟩, fun p hp => ?_, ⟨h382.1, fun i hi => absurd hi (Nat.not_lt_zero i)⟩, h45, h382.2.1⟩
    · rw [h434 i hi]; rfl
    · rw [h414 p hp]; rfl
/-! THE CONSTRUCTORS' OWN STEPS come to it -/
theorem mupd_is {M : KM} {k i : Nat} {x : Int} (h : M k i = x) : mupd M k i x = M := by
  funext k' i'
  rw [mupd_at]
  split
  · rename_i q; rw [q.1, q.2, h]
  · rfl
theorem mcp_is {M : KM} {k0 k1 n : Nat} (h : M k1 = M k0) : mcp M k0 k1 n = M := by
  funext k i
  unfold mcp
  split
  · rename_i q; rw [q.1, h]
  · rfl
def madeM : KM := fun k i => if k = 2 ∨ k = 15 then (if i = 11 then -1 else if i = 13 then 120 else 0) else if k = 14 then (if i = 1 then -1 else 0) else 0
theorem madeM_z {k : Nat} (h : k ≠ 2 ∧ k ≠ 14 ∧ k ≠ 15) (i : Nat) : madeM k i = 0 := by
  unfold madeM
  rw [if_neg (by omega), if_neg (by omega)]
theorem madeM_row {k : Nat} (h : k ≠ 2 ∧ k ≠ 14 ∧ k ≠ 15) : madeM k = fun _ => 0 := funext fun i => madeM_z h i
theorem JJ_made : ∃ q1 q3 : KM, f_M_clearBank (mupd (mupd madeM 382 5 (-1)) 382 59 (-1)) = some q1 ∧ f_M_startAnew q1 = some q3 ∧ JJ q3 := by
  have no : ∀ i : Nat, ¬ (i : Int) < 0 := fun i => by omega
  have v0 : ∀ j, j < 171 → vIni empT j = 0 := fun j hj => by
    unfold vIni
    split
    · exact if_neg (no _)
    · split
      · exact if_neg (no _)
      · split
        · rfl
        · split <;> rfl
  have z : ∀ c, 34 ≤ c → ∀ i, madeM c i = 0 := fun c hc i => madeM_z (by omega) i
  have s43 : SC 43 (empT 0 0) (vIni empT) madeM := by
    refine ⟨⟨z 43 (by omega) 2, ?_, ?_, ?_, ?_, ?_⟩, fun p hp => absurd hp (no p), ?_, fun l hl => ?_⟩
    · rw [z 43 (by omega), v0 16 (by omega)]
    · rw [z 43 (by omega), v0 19 (by omega)]
    · rw [z 43 (by omega), v0 20 (by omega)]
    · rw [z 43 (by omega), v0 17 (by omega)]
    · rw [z 43 (by omega), v0 18 (by omega)]
    · rw [z 43 (by omega)]; exact ⟨by decide, by decide, fun i _ => by unfold bt; simp⟩
    · rw [v0 17 (by omega)] at hl; exact absurd hl (no l)
  have a2 : HC 0 0 (fun _ => vIni empT) (empT 0 0) madeM := ⟨0, by omega, ⟨by rw [z 41 (by omega)]; rfl, by rw [z 41 (by omega)]; rfl, by rw [z 41 (by omega)]; rfl⟩, by omega, fun i hi => by
    have : i = 0 := by omega
    subst this
    exact s43⟩
  have b0 : ∀ c, 382 ≤ c → ∀ i, madeM c i = 0 := fun c hc i => z c (by omega) i
  have c0 : ∀ i, i ≠ 5 → i ≠ 59 → mupd (mupd madeM 382 5 (-1)) 382 59 (-1) 382 i = 0 := fun i h1 h2 => by rw [mupd_ne2 _ _ h2, mupd_ne2 _ _ h1]; exact b0 382 (by omega) i
  have c5 : mupd (mupd madeM 382 5 (-1)) 382 59 (-1) 382 5 = -1 := by rw [mupd_ne2 _ _ (by omega), mupd_same]
  have c59 : mupd (mupd madeM 382 5 (-1)) 382 59 (-1) 382 59 = -1 := mupd_same _ _ _ _
  have cr : ∀ k, k ≠ 382 → mupd (mupd madeM 382 5 (-1)) 382 59 (-1) k = madeM k := fun k hk => by funext i; rw [mupd_ne _ _ hk, mupd_ne _ _ hk]
  generalize hM1 : mupd (mupd madeM 382 5 (-1)) 382 59 (-1) = M1 at c0 c5 c59 cr ⊢
  obtain ⟨q1, d1, d2, d3, d4, d5⟩ := M_clearBank (rb := 0) (c0 38 (by omega) (by omega)) (by omega)
  have hbk : BK 0 q1 := ⟨by omega, by rw [d4 37 (by omega)]; exact c0 37 (by omega) (by omega)⟩
  have hT : okT empT (fun _ => []) := okT_emp
  obtain ⟨q3, e1, e2, e3, e4, e5, e6⟩ := M_startAnew hbk hT d2.2.1
  have r18 : ∀ k, 383 ≤ k → k < 411 → q3 k = q1 k := fun k h1 h2 => e6.row fun j q => by unfold pSA at q; omega
  have k18 : ∀ i, i ≠ 48 → i ≠ 49 → i ≠ 71 → i ≠ 63 → i ≠ 39 → q3 382 i = M1 382 i := fun i h1 h2 h3 h4 h5 => by rw [e6 382 i (by unfold pSA; omega), d4 i h5]
  have lo : ∀ k, k < 382 → q3 k = madeM k := fun k hk => by
    rw [e6.row fun j q => by unfold pSA at q; omega, d3.row fun j q => by unfold pLM at q; rcases q with q | q | q | q | q | q | q | q | q | q | q <;> omega, cr k (by omega)]
  have h18 : TM 0 empT (fun _ => []) q3 := TM_congr d2.2.1 (fun c h1 h2 => by rw [r18 c (by omega) (by omega)]) (fun c h1 h2 p hp => by rw [r18 c (by omega) (by omega)]) (fun c h1 h2 p hp => by rw [r18 c (by omega) (by omega)]) (by rw [r18 403 (by omega) (by omega)]) (fun r hr hm => absurd hr (no r)) (fun q hm => by have q : (0 : Int) = 1 := q; omega)
  refine ⟨q1, q3, d1, e1, JJ_startB (fun k i h1 h2 h3 h4 h5 => ?_) (fun i => ?_) ⟨?_, ?_⟩ ?_ ⟨⟨by omega, ?_⟩, h18, e2⟩ e3 e4 e5 ⟨?_, ?_⟩ ⟨?_, ?_, ?_⟩⟩
  · rw [lo k h1]; exact madeM_z ⟨h2, h3, h4⟩ i
  · rw [lo 2 (by omega)]; rfl
  · rw [lo 14 (by omega)]; rfl
  · rw [lo 14 (by omega)]; rfl
  · exact a2.congr fun k j hk => by rw [lo k (by unfold pHC at hk; omega)]
  · rw [k18 37 (by omega) (by omega) (by omega) (by omega) (by omega)]; exact c0 37 (by omega) (by omega)
  · rw [k18 4 (by omega) (by omega) (by omega) (by omega) (by omega)]; exact c0 4 (by omega) (by omega)
  · rw [k18 5 (by omega) (by omega) (by omega) (by omega) (by omega)]; exact c5
  · rw [k18 2 (by omega) (by omega) (by omega) (by omega) (by omega)]; exact c0 2 (by omega) (by omega)
  · rw [k18 59 (by omega) (by omega) (by omega) (by omega) (by omega)]; exact c59
  · rw [k18 72 (by omega) (by omega) (by omega) (by omega) (by omega)]; exact c0 72 (by omega) (by omega)
