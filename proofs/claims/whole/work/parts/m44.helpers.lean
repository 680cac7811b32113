set_option maxRecDepth 100000 in
theorem sim_X_at {G : Gam} {S : KS} (hS : KExt 382 S) {k0 n0 : Nat} {rs0 : List (Option Nat)} (h0 : S[k0]? = some ((20, n0), rs0) ∧ n0 < 2147483648) (a1 : Int) (M : KM) : Sim G Y_X_at (f_X_at k0 n0 a1 M) (kC 0 [some (VR (some k0)), some (VI a1)] [] S M) (fun (q : Int) => Sum.inr (some (VI q), S, M)) := by
  unfold f_X_at
  refine s_aload_n (dt_X_at 0 _ _ _ rfl) rfl ?_
  refine s_ifnull (dt_X_at 1 _ _ _ rfl) ?_
  refine s_iload_n (dt_X_at 2 _ _ _ rfl) rfl ?_
  refine s_bd (κ := fun t1 => kC 21 [none, none] [VI t1] S M) ?_ (fun t1 => ?_)
  · refine s_if_lt (tgt := 20) (dt_X_at 3 _ _ _ rfl) rfl ?_ ?_
    · refine s_iconst (dt_X_at 12 _ _ _ rfl) rfl ?_
      exact s_mask [false, false] (s_ret0 rfl)
    · refine s_iload_n (dt_X_at 4 _ _ _ rfl) rfl ?_
      refine s_aload_n (dt_X_at 5 _ _ _ rfl) rfl ?_
      refine s_alen (N := (n0 : Int)) (dt_X_at 6 _ _ _ rfl) h0.1 rfl rfl h0.2 ?_
      refine s_if_icmp_ge (tgt := 20) (dt_X_at 7 _ _ _ rfl) rfl ?_ ?_
      · refine s_aload_n (dt_X_at 8 _ _ _ rfl) rfl ?_
        refine s_iload_n (dt_X_at 9 _ _ _ rfl) rfl ?_
        refine s_iald (N := (n0 : Int)) (dt_X_at 10 _ _ _ rfl) h0.1 rfl ?_
        refine s_goto (tgt := 21) (dt_X_at 11 _ _ _ rfl) rfl ?_
        exact s_mask [false, false] (s_ret0 rfl)
      · refine s_iconst (dt_X_at 12 _ _ _ rfl) rfl ?_
        exact s_mask [false, false] (s_ret0 rfl)
  exact s_iret (dt_X_at 13 _ _ _ rfl) rfl rfl
theorem cf_X_at {S : KS} (hS : KExt 382 S) {k0 n0 : Nat} {rs0 : List (Option Nat)} (h0 : S[k0]? = some ((20, n0), rs0) ∧ n0 < 2147483648) (a1 : Int) (M : KM) : ∀ q, f_X_at k0 n0 a1 M = some q → Ctr y_X_at Y_X_at [VR (some k0), VI a1] S M (some (VI q)) S (M) := fun q hq =>
  ctr_of md_X_at (Nat.le_of_ble_eq_true rfl) ⟨Nat.le_refl _, Nat.le_refl _⟩ 0 hq rfl (fun _ G => sim_X_at hS h0 a1 M)
set_option maxRecDepth 100000 in
theorem sim_X_put {G : Gam} {S : KS} (hS : KExt 382 S) {k0 n0 : Nat} {rs0 : List (Option Nat)} (h0 : S[k0]? = some ((20, n0), rs0) ∧ n0 < 2147483648) (a1 : Int) (a2 : Int) (M : KM) : Sim G Y_X_put (f_X_put k0 n0 a1 a2 M) (kC 0 [some (VR (some k0)), some (VI a1), some (VI a2)] [] S M) (fun (q : KM) => Sum.inr (none, S, q)) := by
  unfold f_X_put
  refine s_aload_n (dt_X_put 0 _ _ _ rfl) rfl ?_
  refine s_ifnull (dt_X_put 1 _ _ _ rfl) ?_
  refine s_iload_n (dt_X_put 2 _ _ _ rfl) rfl ?_
  refine s_bd (κ := fun t2 => kC 18 [none, none, none] [] S t2) ?_ (fun t2 => ?_)
  · refine s_if_lt (tgt := 18) (dt_X_put 3 _ _ _ rfl) rfl ?_ ?_
    · exact s_mask [false, false, false] (s_ret0 rfl)
    · refine s_iload_n (dt_X_put 4 _ _ _ rfl) rfl ?_
      refine s_aload_n (dt_X_put 5 _ _ _ rfl) rfl ?_
      refine s_alen (N := (n0 : Int)) (dt_X_put 6 _ _ _ rfl) h0.1 rfl rfl h0.2 ?_
      refine s_if_icmp_ge (tgt := 18) (dt_X_put 7 _ _ _ rfl) rfl ?_ ?_
      · refine s_aload_n (dt_X_put 8 _ _ _ rfl) rfl ?_
        refine s_iload_n (dt_X_put 9 _ _ _ rfl) rfl ?_
        refine s_iload_n (dt_X_put 10 _ _ _ rfl) rfl ?_
        refine s_iast (N := (n0 : Int)) (dt_X_put 11 _ _ _ rfl) h0.1 rfl ?_
        refine s_letM (fun M1 => ?_)
        exact s_mask [false, false, false] (s_ret0 rfl)
      · exact s_mask [false, false, false] (s_ret0 rfl)
  exact s_vret (dt_X_put 12 _ _ _ rfl) rfl rfl
theorem cf_X_put {S : KS} (hS : KExt 382 S) {k0 n0 : Nat} {rs0 : List (Option Nat)} (h0 : S[k0]? = some ((20, n0), rs0) ∧ n0 < 2147483648) (a1 : Int) (a2 : Int) (M : KM) : ∀ q, f_X_put k0 n0 a1 a2 M = some q → Ctr y_X_put Y_X_put [VR (some k0), VI a1, VI a2] S M (none) S (q) := fun q hq =>
  ctr_of md_X_put (Nat.le_of_ble_eq_true rfl) ⟨Nat.le_refl _, Nat.le_refl _⟩ 0 hq rfl (fun _ G => sim_X_put hS h0 a1 a2 M)
set_option maxRecDepth 100000 in
theorem sim_X_copyRow {G : Gam} {S : KS} (hS : KExt 382 S) {k0 n0 : Nat} {rs0 : List (Option Nat)} (h0 : S[k0]? = some ((20, n0), rs0) ∧ n0 < 2147483648) {k1 n1 : Nat} {rs1 : List (Option Nat)} (h1 : S[k1]? = some ((20, n1), rs1) ∧ n1 < 2147483648)  (M : KM) : Sim G Y_X_copyRow (f_X_copyRow k0 n0 k1 n1 M) (kC 0 [some (VR (some k0)), some (VR (some k1))] [] S M) (fun (q : KM) => Sum.inr (none, S, q)) := by
  unfold f_X_copyRow
  refine s_aload_n (dt_X_copyRow 0 _ _ _ rfl) rfl ?_
  refine s_ifnull (dt_X_copyRow 1 _ _ _ rfl) ?_
  refine s_aload_n (dt_X_copyRow 2 _ _ _ rfl) rfl ?_
  refine s_ifnull (dt_X_copyRow 3 _ _ _ rfl) ?_
  refine s_aload_n (dt_X_copyRow 4 _ _ _ rfl) rfl ?_
  refine s_iconst (dt_X_copyRow 5 _ _ _ rfl) rfl ?_
  refine s_aload_n (dt_X_copyRow 6 _ _ _ rfl) rfl ?_
  refine s_iconst (dt_X_copyRow 7 _ _ _ rfl) rfl ?_
  refine s_aload_n (dt_X_copyRow 8 _ _ _ rfl) rfl ?_
  refine s_alen (N := (n0 : Int)) (dt_X_copyRow 9 _ _ _ rfl) h0.1 rfl rfl h0.2 ?_
  refine s_aload_n (dt_X_copyRow 10 _ _ _ rfl) rfl ?_
  refine s_alen (N := (n1 : Int)) (dt_X_copyRow 11 _ _ _ rfl) h1.1 rfl rfl h1.2 ?_
  refine s_mmin (dt_X_copyRow 12 _ _ _ rfl) kj_X_212 rfl ?_
  refine s_acopy (N0 := (n0 : Int)) (N1 := (n1 : Int)) (dt_X_copyRow 13 _ _ _ rfl) kj_X_432 wm_copy h0.1 h1.1 ⟨rfl, rfl⟩ rfl ?_
  refine s_letM (fun M1 => ?_)
  exact s_vret (dt_X_copyRow 14 _ _ _ rfl) rfl rfl
theorem cf_X_copyRow {S : KS} (hS : KExt 382 S) {k0 n0 : Nat} {rs0 : List (Option Nat)} (h0 : S[k0]? = some ((20, n0), rs0) ∧ n0 < 2147483648) {k1 n1 : Nat} {rs1 : List (Option Nat)} (h1 : S[k1]? = some ((20, n1), rs1) ∧ n1 < 2147483648)  (M : KM) : ∀ q, f_X_copyRow k0 n0 k1 n1 M = some q → Ctr y_X_copyRow Y_X_copyRow [VR (some k0), VR (some k1)] S M (none) S (q) := fun q hq =>
  ctr_of md_X_copyRow (Nat.le_of_ble_eq_true rfl) ⟨Nat.le_refl _, Nat.le_refl _⟩ 0 hq rfl (fun _ G => sim_X_copyRow hS h0 h1  M)
set_option maxRecDepth 100000 in
theorem sim_X_isIn {G : Gam} {S : KS} (hS : KExt 382 S)  (a0 : Int) (a1 : Int) (M : KM) : Sim G Y_X_isIn (f_X_isIn a0 a1 M) (kC 0 [some (VI a0), some (VI a1)] [] S M) (fun (q : Int) => Sum.inr (some (VI q), S, M)) := by
  unfold f_X_isIn
  refine s_iload_n (dt_X_isIn 0 _ _ _ rfl) rfl ?_
  refine s_bd (κ := fun t1 => kC 23 [none, none] [VI t1] S M) ?_ (fun t1 => ?_)
  · refine s_if_lt (tgt := 22) (dt_X_isIn 1 _ _ _ rfl) rfl ?_ ?_
    · refine s_iconst (dt_X_isIn 13 _ _ _ rfl) rfl ?_
      exact s_mask [false, false] (s_ret0 rfl)
    · refine s_iload_n (dt_X_isIn 2 _ _ _ rfl) rfl ?_
      refine s_bipush (dt_X_isIn 3 _ _ _ rfl) rfl ?_
      refine s_if_icmp_ge (tgt := 22) (dt_X_isIn 4 _ _ _ rfl) rfl ?_ ?_
      · refine s_iload_n (dt_X_isIn 5 _ _ _ rfl) rfl ?_
        refine s_iload_n (dt_X_isIn 6 _ _ _ rfl) rfl ?_
        refine s_iushr (dt_X_isIn 7 _ _ _ rfl) ?_
        refine s_iconst (dt_X_isIn 8 _ _ _ rfl) rfl ?_
        refine s_iand (dt_X_isIn 9 _ _ _ rfl) ?_
        refine s_if_eq (tgt := 22) (dt_X_isIn 10 _ _ _ rfl) rfl ?_ ?_
        · refine s_iconst (dt_X_isIn 13 _ _ _ rfl) rfl ?_
          exact s_mask [false, false] (s_ret0 rfl)
        · refine s_iconst (dt_X_isIn 11 _ _ _ rfl) rfl ?_
          refine s_goto (tgt := 23) (dt_X_isIn 12 _ _ _ rfl) rfl ?_
          exact s_mask [false, false] (s_ret0 rfl)
      · refine s_iconst (dt_X_isIn 13 _ _ _ rfl) rfl ?_
        exact s_mask [false, false] (s_ret0 rfl)
  exact s_zret (dt_X_isIn 14 _ _ _ rfl) rfl rfl
theorem cf_X_isIn {S : KS} (hS : KExt 382 S)  (a0 : Int) (a1 : Int) (M : KM) : ∀ q, f_X_isIn a0 a1 M = some q → Ctr y_X_isIn Y_X_isIn [VI a0, VI a1] S M (some (VI q)) S (M) := fun q hq =>
  ctr_of md_X_isIn (Nat.le_of_ble_eq_true rfl) ⟨Nat.le_refl _, Nat.le_refl _⟩ 0 hq rfl (fun _ G => sim_X_isIn hS  a0 a1 M)
/-! ROWS LOOKED AT BEFORE USE -/
theorem c_X_at {S : KS} (hS : KExt 382 S) {k0 n0 : Nat} {rs0 : List (Option Nat)} (h0 : S[k0]? = some ((20, n0), rs0) ∧ n0 < 2147483648) (a1 : Int) (M : KM) : Ctr y_X_at Y_X_at [VR (some k0), VI a1] S M (some (VI (atM M k0 n0 a1))) S M := cf_X_at hS h0 a1 M _ (e_X_at k0 n0 a1 M)
theorem c_X_put {S : KS} (hS : KExt 382 S) {k0 n0 : Nat} {rs0 : List (Option Nat)} (h0 : S[k0]? = some ((20, n0), rs0) ∧ n0 < 2147483648) (a1 a2 : Int) (M : KM) : Ctr y_X_put Y_X_put [VR (some k0), VI a1, VI a2] S M none S (putM M k0 n0 a1 a2) := cf_X_put hS h0 a1 a2 M _ (e_X_put k0 n0 a1 a2 M)
theorem c_X_isIn {S : KS} (hS : KExt 382 S) (a0 a1 : Int) (M : KM) : Ctr y_X_isIn Y_X_isIn [VI a0, VI a1] S M (some (VI (isInV a0 a1))) S M := cf_X_isIn hS a0 a1 M _ (e_X_isIn a0 a1 M)
theorem c_X_copyRow {S : KS} (hS : KExt 382 S) {k0 n0 : Nat} {rs0 : List (Option Nat)} (h0 : S[k0]? = some ((20, n0), rs0) ∧ n0 < 2147483648) {k1 n1 : Nat} {rs1 : List (Option Nat)} (h1 : S[k1]? = some ((20, n1), rs1) ∧ n1 < 2147483648) (M : KM) : Ctr y_X_copyRow Y_X_copyRow [VR (some k0), VR (some k1)] S M none S (mcp M k0 k1 (min n0 n1)) := cf_X_copyRow hS h0 h1 M _ (e_X_copyRow k0 n0 k1 n1 M)
