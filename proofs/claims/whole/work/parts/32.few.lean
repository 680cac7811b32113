/-! LOANS TOLD, LYING TOLD -/
def toldV (v : Nat → Int) (n w : Int) : Int := if (0 ≤ n ∧ n < v 17) ∧ (0 ≤ w ∧ w ≤ 4) then v (21 + 5 * n.toNat + w.toNat) else -1
theorem X_loan {T : TW} {R : Nat → RL} {v : Nat → Int} {M : KM} (h : WC T R v M) (ho : WO T R v) (n w : Int) : f_X_loan n w M = some (toldV v n w) := by
  have h6 : M 34 6 = v 17 := h.2.1.2.2.2.2.1
  have h30 := ho.2.1.2.2.2.1
  unfold f_X_loan toldV
  rw [h6]
  by_cases hn : 0 ≤ n ∧ n < v 17
  · have hl := h.2.2.2.2 n.toNat (by omega)
    rw [if_neg (by omega), if_pos hn.2, atM_in _ _ _ hn.1 (by omega), atM_in _ _ _ hn.1 (by omega), atM_in _ _ _ hn.1 (by omega), atM_in _ _ _ hn.1 (by omega), hl.1, hl.2.1, hl.2.2.1, hl.2.2.2.1]
    by_cases w0 : w = 0
    · subst w0; rw [if_pos rfl, if_pos (by omega)]; rfl
    · by_cases w1 : w = 1
      · subst w1; rw [if_neg (by omega), if_pos rfl, if_pos (by omega)]; congr 2; omega
      · by_cases w2 : w = 2
        · subst w2; rw [if_neg (by omega), if_neg (by omega), if_pos rfl, if_pos (by omega)]; congr 2; omega
        · by_cases w3 : w = 3
          · subst w3; rw [if_neg (by omega), if_neg (by omega), if_neg (by omega), if_pos rfl, if_pos (by omega)]; congr 2; omega
          · by_cases w4 : w = 4
            · subst w4
              rw [if_neg (by omega), if_neg (by omega), if_neg (by omega), if_neg (by omega), if_pos rfl, if_pos (show (0 ≤ n ∧ n < v 17) ∧ (0 ≤ (4 : Int) ∧ (4 : Int) ≤ 4) by omega), isInV_bt h.2.2.2.1.1 (by have := h.2.2.2.1.2; omega), show 21 + 5 * n.toNat + (4 : Int).toNat = 25 + 5 * n.toNat by omega, ← hl.2.2.2.2]
              by_cases hb : bt (M 34 8) n.toNat = true
              · rw [if_pos (show 0 ≤ n ∧ bt (M 34 8) n.toNat = true from ⟨hn.1, hb⟩), if_pos hb]; rfl
              · rw [if_neg (show ¬ (0 ≤ n ∧ bt (M 34 8) n.toNat = true) from fun hh => hb hh.2), if_neg hb]; rfl
            · rw [if_neg w0, if_neg w1, if_neg w2, if_neg w3, if_neg w4, if_neg (by omega)]
  · rw [if_neg (show ¬ ((0 ≤ n ∧ n < v 17) ∧ (0 ≤ w ∧ w ≤ 4)) from fun hh => hn hh.1)]
    by_cases h0 : n < 0
    · rw [if_pos h0]
    · rw [if_neg h0, if_neg (by omega)]
theorem M_loan {b : Nat} {T : TW} {R : Nat → RL} {v : Nat → Int} {M : KM} (h : WM b T R v M) (ho : WO T R v) (n w : Int) : f_M_loan n w M = some (toldV v n w) := by
  have hS := h.2.2
  have h17 : M 411 17 = v 17 := by have := hS 17 (by omega); rwa [Nat.zero_add] at this
  have h0 := ho.2.1.2.2.1
  have h30 := ho.2.1.2.2.2.1
  unfold f_M_loan toldV
  rw [if_pos (by omega), show (17 : Int).toNat = 17 from rfl, h17, w32e (by omega) (by omega), e_M_isIn, ob_some]
  by_cases hn : 0 ≤ n ∧ n < v 17
  · rw [if_pos (show 0 ≤ n ∧ n ≤ v 17 - 1 by omega), if_neg (by omega), e_M_isIn, ob_some]
    by_cases hw : 0 ≤ w ∧ w ≤ 4
    · rw [if_pos hw, if_neg (by omega), w32e (n := 5 * n) (by omega) (by omega), w32e (n := 21 + 5 * n) (by omega) (by omega), w32e (by omega) (by omega), if_pos (by omega), if_pos ⟨hn, hw⟩, ob_some]
      have := hS (21 + 5 * n.toNat + w.toNat) (by omega)
      rw [Nat.zero_add] at this
      rw [← this]; congr 2; omega
    · rw [if_neg hw, if_pos rfl, if_neg (fun hh => hw hh.2)]; rfl
  · rw [if_neg (show ¬ (0 ≤ n ∧ n ≤ v 17 - 1) by omega), if_pos rfl, if_neg (fun hh => hn hh.1)]; rfl
def liesV (l : List Int) (i : Int) : Int := if 0 ≤ i then (l[i.toNat]?).getD (-1000000) else -1000000
theorem X_lies {l : List Int} {M : KM} (h : LC l M) (i : Int) : f_X_lies i M = some (liesV l i) := by
  have h8 := h.1
  unfold f_X_lies liesV
  by_cases h0 : 0 ≤ i
  · rw [if_neg (by omega), if_pos h0, h.2.1]
    by_cases h1 : i < l.length
    · rw [if_pos h1, atM_in _ _ _ h0 (by omega), ob_some, h.2.2 i.toNat l[i.toNat] (List.getElem?_eq_getElem (by omega)), List.getElem?_eq_getElem (by omega)]; rfl
    · rw [if_neg h1, ob_some, List.getElem?_eq_none (by omega)]; rfl
  · rw [if_pos (by omega), if_neg h0]; rfl
theorem M_lies {l : List Int} {M : KM} (h : LM l M) (i : Int) : f_M_lies i M = some (liesV l i) := by
  have h8 := h.1
  unfold f_M_lies liesV
  rw [h.2.1, w32e (by omega) (by omega), e_M_isIn, ob_some]
  by_cases h0 : 0 ≤ i
  · rw [if_pos h0]
    by_cases h1 : i < l.length
    · rw [if_pos (show 0 ≤ i ∧ i ≤ (l.length : Int) - 1 by omega), if_neg (by omega), if_pos (by omega), ob_some, h.2.2 i.toNat l[i.toNat] (List.getElem?_eq_getElem (by omega)), List.getElem?_eq_getElem (by omega)]; rfl
    · rw [if_neg (show ¬ (0 ≤ i ∧ i ≤ (l.length : Int) - 1) by omega), if_pos rfl, ob_some, List.getElem?_eq_none (by omega)]; rfl
  · rw [if_neg (show ¬ (0 ≤ i ∧ i ≤ (l.length : Int) - 1) by omega), if_pos rfl, ob_some, if_neg h0]
def faultV (k u w : Int) : Int := if w = 0 then k else if w = 1 then u else -1
theorem X_fault (w : Int) (M : KM) : f_X_fault w M = some (faultV (M 14 0) (M 14 1) w) := by
  unfold f_X_fault faultV
  by_cases h0 : w = 0
  · rw [if_pos h0, if_pos h0]
  · by_cases h1 : w = 1
    · rw [if_neg h0, if_neg h0, if_pos h1, if_pos h1]
    · rw [if_neg h0, if_neg h0, if_neg h1, if_neg h1]
theorem M_fault (w : Int) (M : KM) : f_M_fault w M = some (faultV (M 382 4) (M 382 5) w) := by
  unfold f_M_fault faultV
  by_cases h0 : w = 0
  · rw [if_pos h0, if_pos h0]; rfl
  · by_cases h1 : w = 1
    · rw [if_neg h0, if_neg h0, if_pos h1, if_pos h1]; rfl
    · rw [if_neg h0, if_neg h0, if_neg h1, if_neg h1]; rfl
