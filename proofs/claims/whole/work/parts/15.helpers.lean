noncomputable def f_X_at (k0 : Nat) (n0 : Nat) (a1 : Int) (M : KM) : Option (Int) := Option.bind ((if a1 < (0 : Int) then some (0 : Int) else (if a1 < (n0 : Int) then (if 0 ≤ a1 ∧ a1 < (n0 : Int) then some (M k0 (a1).toNat) else none) else some (0 : Int))) : Option (Int)) (fun t1 => some t1)
set_option maxRecDepth 100000 in
theorem sim_X_at {G : Gam} {S : KS} (hS : KExt 382 S) {k0 n0 : Nat} {rs0 : List (Option Nat)} (h0 : S[k0]? = some ((20, n0), rs0) ∧ n0 < 2147483648) (a1 : Int) (M : KM) : Sim G Y_X_at (f_X_at k0 n0 a1 M) (kC 0 [some (VR (some k0)), some (VI a1)] [] S M) (fun (q : Int) => Sum.inr (some (VI q), S, M)) := by
  unfold f_X_at
  refine s_aload_n (dt_X_at 0 _ _ _ rfl) rfl ?_
  refine s_ifnull (dt_X_at 1 _ _ _ rfl) ?_
  refine s_iload_n (dt_X_at 2 _ _ _ rfl) rfl ?_
  refine s_bd (κ := fun t1 => kC 21 [none, none] [VI t1] S M) ?_ (fun t1 => ?_)
  · refine s_if_lt (tgt := 20) (dt_X_at 3 _ _ _ rfl) rfl ?_ ?_
    · refine s_iconst (dt_X_at 12 _ _ _ rfl) rfl ?_
      exact s_mask [false, false] (s_ret0 rfl)
    · refine s_iload_n (dt_X_at 4 _ _ _ rfl) rfl ?_
      refine s_aload_n (dt_X_at 5 _ _ _ rfl) rfl ?_
      refine s_alen (N := (n0 : Int)) (dt_X_at 6 _ _ _ rfl) h0.1 rfl rfl h0.2 ?_
      refine s_if_icmp_ge (tgt := 20) (dt_X_at 7 _ _ _ rfl) rfl ?_ ?_
      · refine s_aload_n (dt_X_at 8 _ _ _ rfl) rfl ?_
        refine s_iload_n (dt_X_at 9 _ _ _ rfl) rfl ?_
        refine s_iald (N := (n0 : Int)) (dt_X_at 10 _ _ _ rfl) h0.1 rfl ?_
        refine s_goto (tgt := 21) (dt_X_at 11 _ _ _ rfl) rfl ?_
        exact s_mask [false, false] (s_ret0 rfl)
      · refine s_iconst (dt_X_at 12 _ _ _ rfl) rfl ?_
        exact s_mask [false, false] (s_ret0 rfl)
  exact s_iret (dt_X_at 13 _ _ _ rfl) rfl rfl
theorem cf_X_at {S : KS} (hS : KExt 382 S) {k0 n0 : Nat} {rs0 : List (Option Nat)} (h0 : S[k0]? = some ((20, n0), rs0) ∧ n0 < 2147483648) (a1 : Int) (M : KM) : ∀ q, f_X_at k0 n0 a1 M = some q → Ctr y_X_at Y_X_at [VR (some k0), VI a1] S M (some (VI q)) S (M) := fun q hq =>
  ctr_of md_X_at (Nat.le_of_ble_eq_true rfl) ⟨Nat.le_refl _, Nat.le_refl _⟩ 0 hq rfl (fun _ G => sim_X_at hS h0 a1 M)
noncomputable def f_X_put (k0 : Nat) (n0 : Nat) (a1 : Int) (a2 : Int) (M : KM) : Option (KM) := Option.bind ((if a1 < (0 : Int) then some M else (if a1 < (n0 : Int) then (if 0 ≤ a1 ∧ a1 < (n0 : Int) then letM_ (mupd M k0 (a1).toNat a2) (fun M1 => some M1) else none) else some M)) : Option (KM)) (fun t2 => some t2)
set_option maxRecDepth 100000 in
theorem sim_X_put {G : Gam} {S : KS} (hS : KExt 382 S) {k0 n0 : Nat} {rs0 : List (Option Nat)} (h0 : S[k0]? = some ((20, n0), rs0) ∧ n0 < 2147483648) (a1 : Int) (a2 : Int) (M : KM) : Sim G Y_X_put (f_X_put k0 n0 a1 a2 M) (kC 0 [some (VR (some k0)), some (VI a1), some (VI a2)] [] S M) (fun (q : KM) => Sum.inr (none, S, q)) := by
  unfold f_X_put
  refine s_aload_n (dt_X_put 0 _ _ _ rfl) rfl ?_
  refine s_ifnull (dt_X_put 1 _ _ _ rfl) ?_
  refine s_iload_n (dt_X_put 2 _ _ _ rfl) rfl ?_
  refine s_bd (κ := fun t2 => kC 18 [none, none, none] [] S t2) ?_ (fun t2 => ?_)
  · refine s_if_lt (tgt := 18) (dt_X_put 3 _ _ _ rfl) rfl ?_ ?_
    · exact s_mask [false, false, false] (s_ret0 rfl)
    · refine s_iload_n (dt_X_put 4 _ _ _ rfl) rfl ?_
      refine s_aload_n (dt_X_put 5 _ _ _ rfl) rfl ?_
      refine s_alen (N := (n0 : Int)) (dt_X_put 6 _ _ _ rfl) h0.1 rfl rfl h0.2 ?_
      refine s_if_icmp_ge (tgt := 18) (dt_X_put 7 _ _ _ rfl) rfl ?_ ?_
      · refine s_aload_n (dt_X_put 8 _ _ _ rfl) rfl ?_
        refine s_iload_n (dt_X_put 9 _ _ _ rfl) rfl ?_
        refine s_iload_n (dt_X_put 10 _ _ _ rfl) rfl ?_
        refine s_iast (N := (n0 : Int)) (dt_X_put 11 _ _ _ rfl) h0.1 rfl ?_
        refine s_letM (fun M1 => ?_)
        exact s_mask [false, false, false] (s_ret0 rfl)
      · exact s_mask [false, false, false] (s_ret0 rfl)
  exact s_vret (dt_X_put 12 _ _ _ rfl) rfl rfl
theorem cf_X_put {S : KS} (hS : KExt 382 S) {k0 n0 : Nat} {rs0 : List (Option Nat)} (h0 : S[k0]? = some ((20, n0), rs0) ∧ n0 < 2147483648) (a1 : Int) (a2 : Int) (M : KM) : ∀ q, f_X_put k0 n0 a1 a2 M = some q → Ctr y_X_put Y_X_put [VR (some k0), VI a1, VI a2] S M (none) S (q) := fun q hq =>
  ctr_of md_X_put (Nat.le_of_ble_eq_true rfl) ⟨Nat.le_refl _, Nat.le_refl _⟩ 0 hq rfl (fun _ G => sim_X_put hS h0 a1 a2 M)
noncomputable def f_X_copyRow (k0 : Nat) (n0 : Nat) (k1 : Nat) (n1 : Nat) (M : KM) : Option (KM) := (if 0 ≤ min (n0 : Int) (n1 : Int) ∧ min (n0 : Int) (n1 : Int) ≤ (n0 : Int) ∧ min (n0 : Int) (n1 : Int) ≤ (n1 : Int) then letM_ (mcp M k0 k1 (min (n0 : Int) (n1 : Int)).toNat) (fun M1 => some M1) else none)
set_option maxRecDepth 100000 in
theorem sim_X_copyRow {G : Gam} {S : KS} (hS : KExt 382 S) {k0 n0 : Nat} {rs0 : List (Option Nat)} (h0 : S[k0]? = some ((20, n0), rs0) ∧ n0 < 2147483648) {k1 n1 : Nat} {rs1 : List (Option Nat)} (h1 : S[k1]? = some ((20, n1), rs1) ∧ n1 < 2147483648)  (M : KM) : Sim G Y_X_copyRow (f_X_copyRow k0 n0 k1 n1 M) (kC 0 [some (VR (some k0)), some (VR (some k1))] [] S M) (fun (q : KM) => Sum.inr (none, S, q)) := by
  unfold f_X_copyRow
  refine s_aload_n (dt_X_copyRow 0 _ _ _ rfl) rfl ?_
  refine s_ifnull (dt_X_copyRow 1 _ _ _ rfl) ?_
  refine s_aload_n (dt_X_copyRow 2 _ _ _ rfl) rfl ?_
  refine s_ifnull (dt_X_copyRow 3 _ _ _ rfl) ?_
  refine s_aload_n (dt_X_copyRow 4 _ _ _ rfl) rfl ?_
  refine s_iconst (dt_X_copyRow 5 _ _ _ rfl) rfl ?_
  refine s_aload_n (dt_X_copyRow 6 _ _ _ rfl) rfl ?_
  refine s_iconst (dt_X_copyRow 7 _ _ _ rfl) rfl ?_
  refine s_aload_n (dt_X_copyRow 8 _ _ _ rfl) rfl ?_
  refine s_alen (N := (n0 : Int)) (dt_X_copyRow 9 _ _ _ rfl) h0.1 rfl rfl h0.2 ?_
  refine s_aload_n (dt_X_copyRow 10 _ _ _ rfl) rfl ?_
  refine s_alen (N := (n1 : Int)) (dt_X_copyRow 11 _ _ _ rfl) h1.1 rfl rfl h1.2 ?_
  refine s_mmin (dt_X_copyRow 12 _ _ _ rfl) kj_X_212 rfl ?_
  refine s_acopy (N0 := (n0 : Int)) (N1 := (n1 : Int)) (dt_X_copyRow 13 _ _ _ rfl) kj_X_432 wm_copy h0.1 h1.1 ⟨rfl, rfl⟩ rfl ?_
  refine s_letM (fun M1 => ?_)
  exact s_vret (dt_X_copyRow 14 _ _ _ rfl) rfl rfl
theorem cf_X_copyRow {S : KS} (hS : KExt 382 S) {k0 n0 : Nat} {rs0 : List (Option Nat)} (h0 : S[k0]? = some ((20, n0), rs0) ∧ n0 < 2147483648) {k1 n1 : Nat} {rs1 : List (Option Nat)} (h1 : S[k1]? = some ((20, n1), rs1) ∧ n1 < 2147483648)  (M : KM) : ∀ q, f_X_copyRow k0 n0 k1 n1 M = some q → Ctr y_X_copyRow Y_X_copyRow [VR (some k0), VR (some k1)] S M (none) S (q) := fun q hq =>
  ctr_of md_X_copyRow (Nat.le_of_ble_eq_true rfl) ⟨Nat.le_refl _, Nat.le_refl _⟩ 0 hq rfl (fun _ G => sim_X_copyRow hS h0 h1  M)
noncomputable def f_X_isIn (a0 : Int) (a1 : Int) (M : KM) : Option (Int) := Option.bind ((if a1 < (0 : Int) then some (0 : Int) else (if a1 < (32 : Int) then (if kiand (kiushr a0 a1) (1 : Int) = (0 : Int) then some (0 : Int) else some (1 : Int)) else some (0 : Int))) : Option (Int)) (fun t1 => (if 0 ≤ t1 ∧ t1 ≤ 1 then some t1 else none))
set_option maxRecDepth 100000 in
theorem sim_X_isIn {G : Gam} {S : KS} (hS : KExt 382 S)  (a0 : Int) (a1 : Int) (M : KM) : Sim G Y_X_isIn (f_X_isIn a0 a1 M) (kC 0 [some (VI a0), some (VI a1)] [] S M) (fun (q : Int) => Sum.inr (some (VI q), S, M)) := by
  unfold f_X_isIn
  refine s_iload_n (dt_X_isIn 0 _ _ _ rfl) rfl ?_
  refine s_bd (κ := fun t1 => kC 23 [none, none] [VI t1] S M) ?_ (fun t1 => ?_)
  · refine s_if_lt (tgt := 22) (dt_X_isIn 1 _ _ _ rfl) rfl ?_ ?_
    · refine s_iconst (dt_X_isIn 13 _ _ _ rfl) rfl ?_
      exact s_mask [false, false] (s_ret0 rfl)
    · refine s_iload_n (dt_X_isIn 2 _ _ _ rfl) rfl ?_
      refine s_bipush (dt_X_isIn 3 _ _ _ rfl) rfl ?_
      refine s_if_icmp_ge (tgt := 22) (dt_X_isIn 4 _ _ _ rfl) rfl ?_ ?_
      · refine s_iload_n (dt_X_isIn 5 _ _ _ rfl) rfl ?_
        refine s_iload_n (dt_X_isIn 6 _ _ _ rfl) rfl ?_
        refine s_iushr (dt_X_isIn 7 _ _ _ rfl) ?_
        refine s_iconst (dt_X_isIn 8 _ _ _ rfl) rfl ?_
        refine s_iand (dt_X_isIn 9 _ _ _ rfl) ?_
        refine s_if_eq (tgt := 22) (dt_X_isIn 10 _ _ _ rfl) rfl ?_ ?_
        · refine s_iconst (dt_X_isIn 13 _ _ _ rfl) rfl ?_
          exact s_mask [false, false] (s_ret0 rfl)
        · refine s_iconst (dt_X_isIn 11 _ _ _ rfl) rfl ?_
          refine s_goto (tgt := 23) (dt_X_isIn 12 _ _ _ rfl) rfl ?_
          exact s_mask [false, false] (s_ret0 rfl)
      · refine s_iconst (dt_X_isIn 13 _ _ _ rfl) rfl ?_
        exact s_mask [false, false] (s_ret0 rfl)
  exact s_zret (dt_X_isIn 14 _ _ _ rfl) rfl rfl
theorem cf_X_isIn {S : KS} (hS : KExt 382 S)  (a0 : Int) (a1 : Int) (M : KM) : ∀ q, f_X_isIn a0 a1 M = some q → Ctr y_X_isIn Y_X_isIn [VI a0, VI a1] S M (some (VI q)) S (M) := fun q hq =>
  ctr_of md_X_isIn (Nat.le_of_ble_eq_true rfl) ⟨Nat.le_refl _, Nat.le_refl _⟩ 0 hq rfl (fun _ G => sim_X_isIn hS  a0 a1 M)
/-! ROWS LOOKED AT BEFORE USE -/
def atM (M : KM) (k n : Nat) (i : Int) : Int := if 0 ≤ i ∧ i < (n : Int) then M k i.toNat else 0
def putM (M : KM) (k n : Nat) (i v : Int) : KM := if 0 ≤ i ∧ i < (n : Int) then mupd M k i.toNat v else M
def isInV (b i : Int) : Int := if 0 ≤ i ∧ i < 32 ∧ ¬ kiand (kiushr b i) 1 = 0 then 1 else 0
theorem e_X_at (k n : Nat) (i : Int) (M : KM) : f_X_at k n i M = some (atM M k n i) := by
  unfold f_X_at atM
  by_cases h : i < 0
  · rw [if_pos h, if_neg (by omega)]; rfl
  · rw [if_neg h]
    by_cases h2 : i < (n : Int)
    · rw [if_pos h2, if_pos ⟨by omega, h2⟩, if_pos ⟨by omega, h2⟩]; rfl
    · rw [if_neg h2, if_neg (by omega)]; rfl
theorem c_X_at {S : KS} (hS : KExt 382 S) {k0 n0 : Nat} {rs0 : List (Option Nat)} (h0 : S[k0]? = some ((20, n0), rs0) ∧ n0 < 2147483648) (a1 : Int) (M : KM) : Ctr y_X_at Y_X_at [VR (some k0), VI a1] S M (some (VI (atM M k0 n0 a1))) S M := cf_X_at hS h0 a1 M _ (e_X_at k0 n0 a1 M)
theorem e_X_put (k n : Nat) (i v : Int) (M : KM) : f_X_put k n i v M = some (putM M k n i v) := by
  unfold f_X_put putM
  by_cases h : i < 0
  · rw [if_pos h, if_neg (by omega)]; rfl
  · rw [if_neg h]
    by_cases h2 : i < (n : Int)
    · rw [if_pos h2, if_pos ⟨by omega, h2⟩, if_pos ⟨by omega, h2⟩]; rfl
    · rw [if_neg h2, if_neg (by omega)]; rfl
theorem c_X_put {S : KS} (hS : KExt 382 S) {k0 n0 : Nat} {rs0 : List (Option Nat)} (h0 : S[k0]? = some ((20, n0), rs0) ∧ n0 < 2147483648) (a1 a2 : Int) (M : KM) : Ctr y_X_put Y_X_put [VR (some k0), VI a1, VI a2] S M none S (putM M k0 n0 a1 a2) := cf_X_put hS h0 a1 a2 M _ (e_X_put k0 n0 a1 a2 M)
theorem e_X_isIn (b i : Int) (M : KM) : f_X_isIn b i M = some (isInV b i) := by
  unfold f_X_isIn isInV
  by_cases h : i < 0
  · rw [if_pos h, if_neg (by omega)]; rfl
  · rw [if_neg h]
    by_cases h2 : i < 32
    · rw [if_pos h2]
      by_cases h3 : kiand (kiushr b i) 1 = 0
      · rw [if_pos h3, if_neg (fun q => q.2.2 h3)]; rfl
      · rw [if_neg h3, if_pos ⟨by omega, h2, h3⟩]; rfl
    · rw [if_neg h2, if_neg (by omega)]; rfl
theorem c_X_isIn {S : KS} (hS : KExt 382 S) (a0 a1 : Int) (M : KM) : Ctr y_X_isIn Y_X_isIn [VI a0, VI a1] S M (some (VI (isInV a0 a1))) S M := cf_X_isIn hS a0 a1 M _ (e_X_isIn a0 a1 M)
theorem e_X_copyRow (k0 n0 k1 n1 : Nat) (M : KM) : f_X_copyRow k0 n0 k1 n1 M = some (mcp M k0 k1 (min n0 n1)) := by
  unfold f_X_copyRow
  rw [if_pos (by omega)]
  have : (min (n0 : Int) (n1 : Int)).toNat = min n0 n1 := by omega
  rw [this]
  rfl
theorem c_X_copyRow {S : KS} (hS : KExt 382 S) {k0 n0 : Nat} {rs0 : List (Option Nat)} (h0 : S[k0]? = some ((20, n0), rs0) ∧ n0 < 2147483648) {k1 n1 : Nat} {rs1 : List (Option Nat)} (h1 : S[k1]? = some ((20, n1), rs1) ∧ n1 < 2147483648) (M : KM) : Ctr y_X_copyRow Y_X_copyRow [VR (some k0), VR (some k1)] S M none S (mcp M k0 k1 (min n0 n1)) := cf_X_copyRow hS h0 h1 M _ (e_X_copyRow k0 n0 k1 n1 M)
