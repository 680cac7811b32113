theorem kj_X_212 : Cond.methodLink "YearHands" 212 Lib.Math.min.name ∈ tbg := tb_at 635 (by decide +kernel)
theorem kj_X_432 : Cond.methodLink "YearHands" 432 arraycopyName ∈ tbg := tb_at 638 (by decide +kernel)
theorem kf_X_20 : kFL "YearHands" 20 0 2 := ⟨⟨by decide, by decide⟩, Or.inl (tb_at 654 (by decide +kernel))⟩
theorem kf_X_124 : kFL "YearHands" 124 12 0 := ⟨⟨by decide, by decide⟩, Or.inl (tb_at 208 (by decide +kernel))⟩
def y_X_isAlive : MethodName := ⟨"YearHands", "isAlive", "(I)Z"⟩
theorem kl_X_147 : kML "YearHands" 147 y_X_isAlive := Or.inl (tb_at 1002 (by decide +kernel))
theorem kin_X_isAlive : Cond.instanceMethod y_X_isAlive ∈ tbg := tb_at 1004 (by decide +kernel)
theorem kse_X_isAlive : Cond.selects (kCn 0) y_X_isAlive y_X_isAlive ∈ tbg := tb_at 29 (by decide +kernel)
theorem kf_X_34 : kFL "YearHands" 34 0 4 := ⟨⟨by decide, by decide⟩, Or.inl (tb_at 656 (by decide +kernel))⟩
theorem kf_X_137 : kFL "YearHands" 137 10 0 := ⟨⟨by decide, by decide⟩, Or.inl (tb_at 386 (by decide +kernel))⟩
def y_X_at : MethodName := ⟨"YearHands", "at", "([II)I"⟩
theorem kl_X_140 : kML "YearHands" 140 y_X_at := Or.inl (tb_at 1001 (by decide +kernel))
theorem kst_X_at : Cond.static y_X_at ∈ tbg := tb_at 901 (by decide +kernel)
theorem kf_X_153 : kFL "YearHands" 153 12 4 := ⟨⟨by decide, by decide⟩, Or.inl (tb_at 220 (by decide +kernel))⟩
def y_X_isFamily : MethodName := ⟨"YearHands", "isFamily", "(I)Z"⟩
theorem kl_X_170 : kML "YearHands" 170 y_X_isFamily := Or.inl (tb_at 1060 (by decide +kernel))
theorem kst_X_isFamily : Cond.static y_X_isFamily ∈ tbg := tb_at 1061 (by decide +kernel)
theorem kc_X_173 : Cond.constant "YearHands" 173 (Int32.ofInt (-1000000)) ∈ tbg := tb_at 1063 (by decide +kernel)
def y_X_isPerson : MethodName := ⟨"YearHands", "isPerson", "(I)Z"⟩
theorem kl_X_133 : kML "YearHands" 133 y_X_isPerson := Or.inl (tb_at 997 (by decide +kernel))
theorem kin_X_isPerson : Cond.instanceMethod y_X_isPerson ∈ tbg := tb_at 999 (by decide +kernel)
theorem kse_X_isPerson : Cond.selects (kCn 0) y_X_isPerson y_X_isPerson ∈ tbg := tb_at 28 (by decide +kernel)
theorem kf_X_183 : kFL "YearHands" 183 10 3 := ⟨⟨by decide, by decide⟩, Or.inl (tb_at 395 (by decide +kernel))⟩
def y_X_isIn : MethodName := ⟨"YearHands", "isIn", "(II)Z"⟩
theorem kl_X_186 : kML "YearHands" 186 y_X_isIn := Or.inl (tb_at 1006 (by decide +kernel))
theorem kst_X_isIn : Cond.static y_X_isIn ∈ tbg := tb_at 1007 (by decide +kernel)
theorem kf_State_42 : kFL "YearHands$State" 42 10 2 := ⟨⟨by decide, by decide⟩, Or.inl (tb_at 390 (by decide +kernel))⟩
theorem kf_State_43 : kFL "YearHands$State" 43 10 3 := ⟨⟨by decide, by decide⟩, Or.inl (tb_at 392 (by decide +kernel))⟩
theorem kl_State_72 : kML "YearHands$State" 72 y_X_isIn := Or.inr ⟨"YearHands", tb_at 1107 (by decide +kernel)⟩
theorem kf_State_9 : kFL "YearHands$State" 9 10 0 := ⟨⟨by decide, by decide⟩, Or.inl (tb_at 383 (by decide +kernel))⟩
theorem kl_State_64 : kML "YearHands$State" 64 y_X_at := Or.inr ⟨"YearHands", tb_at 1076 (by decide +kernel)⟩
theorem kj_State_76 : Cond.methodLink "YearHands$State" 76 Lib.Math.min.name ∈ tbg := tb_at 1108 (by decide +kernel)
def y_X_put : MethodName := ⟨"YearHands", "put", "([III)V"⟩
theorem kl_State_68 : kML "YearHands$State" 68 y_X_put := Or.inr ⟨"YearHands", tb_at 1082 (by decide +kernel)⟩
theorem kst_X_put : Cond.static y_X_put ∈ tbg := tb_at 736 (by decide +kernel)
def y_X_copyRow : MethodName := ⟨"YearHands", "copyRow", "([I[I)V"⟩
def y_X_sum : MethodName := ⟨"YearHands", "sum", "(I)I"⟩
def y_State_growOlder : MethodName := ⟨"YearHands$State", "growOlder", "(I)V"⟩
abbrev Y_X_at : KY := ("YearHands", prog_1_method_61_code, 2, (some .int), 1)
def D_X_at : List (Nat × Instr × Nat) := [(0, .aload_n 0, 1), (1, .ifnull 19, 3), (4, .iload_n 1, 1), (5, .ifCond .lt 15, 3), (8, .iload_n 1, 1), (9, .aload_n 0, 1), (10, .arraylength, 1), (11, .if_icmp .ge 9, 3), (14, .aload_n 0, 1), (15, .iload_n 1, 1), (16, .iaload, 1), (17, .goto 4, 3), (20, .iconst 0, 1), (21, .ireturn, 1)]
theorem dt_X_at : kDec prog_1_method_61_code D_X_at := kDec_of (by decide +kernel)
theorem md_X_at : KMd y_X_at Y_X_at 2 := ⟨⟨tb_at 902 (by decide +kernel), tb_at 141 (by decide +kernel)⟩, rfl, ⟨by decide, by decide, by decide⟩, by decide +kernel, by decide⟩
noncomputable def f_X_at (k0 : Nat) (n0 : Nat) (a1 : Int) (M : KM) : Option (Int) := Option.bind ((if a1 < 0 then some 0 else (if a1 < (n0 : Int) then (if 0 ≤ a1 ∧ a1 < (n0 : Int) then some (M k0 (a1).toNat) else none) else some 0)) : Option (Int)) (fun t1 => some t1)
set_option maxRecDepth 100000 in
theorem sim_X_at {G : Gam} {S : KS} (hS : KExt 382 S) {k0 n0 : Nat} {rs0 : List (Option Nat)} (h0 : S[k0]? = some ((20, n0), rs0) ∧ n0 < 2147483648) (a1 : Int) (M : KM) : Sim G Y_X_at (f_X_at k0 n0 a1 M) (kC 0 [some (VR (some k0)), some (VI a1)] [] S M) (fun (q : Int) => Sum.inr (some (VI q), S, M)) := by
  unfold f_X_at
  refine s_aload_n (dt_X_at 0 _ _ _ rfl) rfl ?_
  refine s_ifnull (dt_X_at 1 _ _ _ rfl) ?_
  refine s_iload_n (dt_X_at 2 _ _ _ rfl) rfl ?_
  refine s_bd (κ := fun t1 => kC 21 [none, none] [VI t1] S M) ?_ (fun t1 => ?_)
  · refine s_if_lt (tgt := 20) (dt_X_at 3 _ _ _ rfl) rfl ?_ ?_
    · refine s_iconst (dt_X_at 12 _ _ _ rfl) rfl ?_
      exact s_mask [false, false] (s_ret0 rfl)
    · refine s_iload_n (dt_X_at 4 _ _ _ rfl) rfl ?_
      refine s_aload_n (dt_X_at 5 _ _ _ rfl) rfl ?_
      refine s_alen (N := (n0 : Int)) (dt_X_at 6 _ _ _ rfl) h0.1 rfl rfl h0.2 ?_
      refine s_if_icmp_ge (tgt := 20) (dt_X_at 7 _ _ _ rfl) rfl ?_ ?_
      · refine s_aload_n (dt_X_at 8 _ _ _ rfl) rfl ?_
        refine s_iload_n (dt_X_at 9 _ _ _ rfl) rfl ?_
        refine s_iald (N := (n0 : Int)) (dt_X_at 10 _ _ _ rfl) h0.1 rfl ?_
        refine s_goto (tgt := 21) (dt_X_at 11 _ _ _ rfl) rfl ?_
        exact s_mask [false, false] (s_ret0 rfl)
      · refine s_iconst (dt_X_at 12 _ _ _ rfl) rfl ?_
        exact s_mask [false, false] (s_ret0 rfl)
  exact s_iret (dt_X_at 13 _ _ _ rfl) rfl rfl
theorem c_X_at {S : KS} (hS : KExt 382 S) {k0 n0 : Nat} {rs0 : List (Option Nat)} (h0 : S[k0]? = some ((20, n0), rs0) ∧ n0 < 2147483648) (a1 : Int) (M : KM) : ∀ q, f_X_at k0 n0 a1 M = some q → Ctr y_X_at Y_X_at [VR (some k0), VI a1] S M (some (VI q)) S (M) := fun q hq =>
  ctr_of md_X_at (Nat.le_of_ble_eq_true rfl) ⟨Nat.le_refl _, Nat.le_refl _⟩ 0 hq rfl (fun _ G => sim_X_at hS h0 a1 M)
abbrev Y_X_put : KY := ("YearHands", prog_1_method_62_code, 3, none, 1)
def D_X_put : List (Nat × Instr × Nat) := [(0, .aload_n 0, 1), (1, .ifnull 17, 3), (4, .iload_n 1, 1), (5, .ifCond .lt 13, 3), (8, .iload_n 1, 1), (9, .aload_n 0, 1), (10, .arraylength, 1), (11, .if_icmp .ge 7, 3), (14, .aload_n 0, 1), (15, .iload_n 1, 1), (16, .iload_n 2, 1), (17, .iastore, 1), (18, .return_, 1)]
theorem dt_X_put : kDec prog_1_method_62_code D_X_put := kDec_of (by decide +kernel)
theorem md_X_put : KMd y_X_put Y_X_put 3 := ⟨⟨tb_at 737 (by decide +kernel), tb_at 141 (by decide +kernel)⟩, rfl, ⟨by decide, by decide, by decide⟩, by decide +kernel, by decide⟩
noncomputable def f_X_put (k0 : Nat) (n0 : Nat) (a1 : Int) (a2 : Int) (M : KM) : Option (KM) := Option.bind ((if a1 < 0 then some M else (if a1 < (n0 : Int) then (if 0 ≤ a1 ∧ a1 < (n0 : Int) then letM_ (mupd M k0 (a1).toNat a2) (fun M1 => some M1) else none) else some M)) : Option (KM)) (fun t2 => some t2)
set_option maxRecDepth 100000 in
theorem sim_X_put {G : Gam} {S : KS} (hS : KExt 382 S) {k0 n0 : Nat} {rs0 : List (Option Nat)} (h0 : S[k0]? = some ((20, n0), rs0) ∧ n0 < 2147483648) (a1 : Int) (a2 : Int) (M : KM) : Sim G Y_X_put (f_X_put k0 n0 a1 a2 M) (kC 0 [some (VR (some k0)), some (VI a1), some (VI a2)] [] S M) (fun (q : KM) => Sum.inr (none, S, q)) := by
  unfold f_X_put
  refine s_aload_n (dt_X_put 0 _ _ _ rfl) rfl ?_
  refine s_ifnull (dt_X_put 1 _ _ _ rfl) ?_
  refine s_iload_n (dt_X_put 2 _ _ _ rfl) rfl ?_
  refine s_bd (κ := fun t2 => kC 18 [none, none, none] [] S t2) ?_ (fun t2 => ?_)
  · refine s_if_lt (tgt := 18) (dt_X_put 3 _ _ _ rfl) rfl ?_ ?_
    · exact s_mask [false, false, false] (s_ret0 rfl)
    · refine s_iload_n (dt_X_put 4 _ _ _ rfl) rfl ?_
      refine s_aload_n (dt_X_put 5 _ _ _ rfl) rfl ?_
      refine s_alen (N := (n0 : Int)) (dt_X_put 6 _ _ _ rfl) h0.1 rfl rfl h0.2 ?_
      refine s_if_icmp_ge (tgt := 18) (dt_X_put 7 _ _ _ rfl) rfl ?_ ?_
      · refine s_aload_n (dt_X_put 8 _ _ _ rfl) rfl ?_
        refine s_iload_n (dt_X_put 9 _ _ _ rfl) rfl ?_
        refine s_iload_n (dt_X_put 10 _ _ _ rfl) rfl ?_
        refine s_iast (N := (n0 : Int)) (dt_X_put 11 _ _ _ rfl) h0.1 rfl ?_
        refine s_letM (fun M1 => ?_)
        exact s_mask [false, false, false] (s_ret0 rfl)
      · exact s_mask [false, false, false] (s_ret0 rfl)
  exact s_vret (dt_X_put 12 _ _ _ rfl) rfl rfl
theorem c_X_put {S : KS} (hS : KExt 382 S) {k0 n0 : Nat} {rs0 : List (Option Nat)} (h0 : S[k0]? = some ((20, n0), rs0) ∧ n0 < 2147483648) (a1 : Int) (a2 : Int) (M : KM) : ∀ q, f_X_put k0 n0 a1 a2 M = some q → Ctr y_X_put Y_X_put [VR (some k0), VI a1, VI a2] S M (none) S (q) := fun q hq =>
  ctr_of md_X_put (Nat.le_of_ble_eq_true rfl) ⟨Nat.le_refl _, Nat.le_refl _⟩ 0 hq rfl (fun _ G => sim_X_put hS h0 a1 a2 M)
abbrev Y_X_copyRow : KY := ("YearHands", prog_1_method_63_code, 2, none, 1)
def D_X_copyRow : List (Nat × Instr × Nat) := [(0, .aload_n 0, 1), (1, .ifnull 21, 3), (4, .aload_n 1, 1), (5, .ifnull 17, 3), (8, .aload_n 0, 1), (9, .iconst 0, 1), (10, .aload_n 1, 1), (11, .iconst 0, 1), (12, .aload_n 0, 1), (13, .arraylength, 1), (14, .aload_n 1, 1), (15, .arraylength, 1), (16, .invokestatic 212, 3), (19, .invokestatic 432, 3), (22, .return_, 1)]
theorem dt_X_copyRow : kDec prog_1_method_63_code D_X_copyRow := kDec_of (by decide +kernel)
theorem md_X_copyRow : KMd y_X_copyRow Y_X_copyRow 2 := ⟨⟨tb_at 634 (by decide +kernel), tb_at 141 (by decide +kernel)⟩, rfl, ⟨by decide, by decide, by decide⟩, by decide +kernel, by decide⟩
noncomputable def f_X_copyRow (k0 : Nat) (n0 : Nat) (k1 : Nat) (n1 : Nat) (M : KM) : Option (KM) := (if 0 ≤ min (n0 : Int) (n1 : Int) ∧ min (n0 : Int) (n1 : Int) ≤ (n0 : Int) ∧ min (n0 : Int) (n1 : Int) ≤ (n1 : Int) then letM_ (mcp M k0 k1 (min (n0 : Int) (n1 : Int)).toNat) (fun M1 => some M1) else none)
set_option maxRecDepth 100000 in
theorem sim_X_copyRow {G : Gam} {S : KS} (hS : KExt 382 S) {k0 n0 : Nat} {rs0 : List (Option Nat)} (h0 : S[k0]? = some ((20, n0), rs0) ∧ n0 < 2147483648) {k1 n1 : Nat} {rs1 : List (Option Nat)} (h1 : S[k1]? = some ((20, n1), rs1) ∧ n1 < 2147483648)  (M : KM) : Sim G Y_X_copyRow (f_X_copyRow k0 n0 k1 n1 M) (kC 0 [some (VR (some k0)), some (VR (some k1))] [] S M) (fun (q : KM) => Sum.inr (none, S, q)) := by
  unfold f_X_copyRow
  refine s_aload_n (dt_X_copyRow 0 _ _ _ rfl) rfl ?_
  refine s_ifnull (dt_X_copyRow 1 _ _ _ rfl) ?_
  refine s_aload_n (dt_X_copyRow 2 _ _ _ rfl) rfl ?_
  refine s_ifnull (dt_X_copyRow 3 _ _ _ rfl) ?_
  refine s_aload_n (dt_X_copyRow 4 _ _ _ rfl) rfl ?_
  refine s_iconst (dt_X_copyRow 5 _ _ _ rfl) rfl ?_
  refine s_aload_n (dt_X_copyRow 6 _ _ _ rfl) rfl ?_
  refine s_iconst (dt_X_copyRow 7 _ _ _ rfl) rfl ?_
  refine s_aload_n (dt_X_copyRow 8 _ _ _ rfl) rfl ?_
  refine s_alen (N := (n0 : Int)) (dt_X_copyRow 9 _ _ _ rfl) h0.1 rfl rfl h0.2 ?_
  refine s_aload_n (dt_X_copyRow 10 _ _ _ rfl) rfl ?_
  refine s_alen (N := (n1 : Int)) (dt_X_copyRow 11 _ _ _ rfl) h1.1 rfl rfl h1.2 ?_
  refine s_mmin (dt_X_copyRow 12 _ _ _ rfl) kj_X_212 rfl ?_
  refine s_acopy (N0 := (n0 : Int)) (N1 := (n1 : Int)) (dt_X_copyRow 13 _ _ _ rfl) kj_X_432 wm_copy h0.1 h1.1 ⟨rfl, rfl⟩ rfl ?_
  refine s_letM (fun M1 => ?_)
  exact s_vret (dt_X_copyRow 14 _ _ _ rfl) rfl rfl
theorem c_X_copyRow {S : KS} (hS : KExt 382 S) {k0 n0 : Nat} {rs0 : List (Option Nat)} (h0 : S[k0]? = some ((20, n0), rs0) ∧ n0 < 2147483648) {k1 n1 : Nat} {rs1 : List (Option Nat)} (h1 : S[k1]? = some ((20, n1), rs1) ∧ n1 < 2147483648)  (M : KM) : ∀ q, f_X_copyRow k0 n0 k1 n1 M = some q → Ctr y_X_copyRow Y_X_copyRow [VR (some k0), VR (some k1)] S M (none) S (q) := fun q hq =>
  ctr_of md_X_copyRow (Nat.le_of_ble_eq_true rfl) ⟨Nat.le_refl _, Nat.le_refl _⟩ 0 hq rfl (fun _ G => sim_X_copyRow hS h0 h1  M)
abbrev Y_X_isIn : KY := ("YearHands", prog_1_method_64_code, 2, (some .boolean), 1)
def D_X_isIn : List (Nat × Instr × Nat) := [(0, .iload_n 1, 1), (1, .ifCond .lt 21, 3), (4, .iload_n 1, 1), (5, .bipush 32, 2), (7, .if_icmp .ge 15, 3), (10, .iload_n 0, 1), (11, .iload_n 1, 1), (12, .iushr, 1), (13, .iconst 1, 1), (14, .iand, 1), (15, .ifCond .eq 7, 3), (18, .iconst 1, 1), (19, .goto 4, 3), (22, .iconst 0, 1), (23, .ireturn, 1)]
theorem dt_X_isIn : kDec prog_1_method_64_code D_X_isIn := kDec_of (by decide +kernel)
theorem md_X_isIn : KMd y_X_isIn Y_X_isIn 2 := ⟨⟨tb_at 1008 (by decide +kernel), tb_at 141 (by decide +kernel)⟩, rfl, ⟨by decide, by decide, by decide⟩, by decide +kernel, by decide⟩
noncomputable def f_X_isIn (a0 : Int) (a1 : Int) (M : KM) : Option (Int) := Option.bind ((if a1 < 0 then some 0 else (if a1 < 32 then (if kiand (kiushr a0 a1) 1 = 0 then some 0 else some 1) else some 0)) : Option (Int)) (fun t1 => (if 0 ≤ t1 ∧ t1 ≤ 1 then some t1 else none))
set_option maxRecDepth 100000 in
theorem sim_X_isIn {G : Gam} {S : KS} (hS : KExt 382 S)  (a0 : Int) (a1 : Int) (M : KM) : Sim G Y_X_isIn (f_X_isIn a0 a1 M) (kC 0 [some (VI a0), some (VI a1)] [] S M) (fun (q : Int) => Sum.inr (some (VI q), S, M)) := by
  unfold f_X_isIn
  refine s_iload_n (dt_X_isIn 0 _ _ _ rfl) rfl ?_
  refine s_bd (κ := fun t1 => kC 23 [none, none] [VI t1] S M) ?_ (fun t1 => ?_)
  · refine s_if_lt (tgt := 22) (dt_X_isIn 1 _ _ _ rfl) rfl ?_ ?_
    · refine s_iconst (dt_X_isIn 13 _ _ _ rfl) rfl ?_
      exact s_mask [false, false] (s_ret0 rfl)
    · refine s_iload_n (dt_X_isIn 2 _ _ _ rfl) rfl ?_
      refine s_bipush (dt_X_isIn 3 _ _ _ rfl) rfl ?_
      refine s_if_icmp_ge (tgt := 22) (dt_X_isIn 4 _ _ _ rfl) rfl ?_ ?_
      · refine s_iload_n (dt_X_isIn 5 _ _ _ rfl) rfl ?_
        refine s_iload_n (dt_X_isIn 6 _ _ _ rfl) rfl ?_
        refine s_iushr (dt_X_isIn 7 _ _ _ rfl) ?_
        refine s_iconst (dt_X_isIn 8 _ _ _ rfl) rfl ?_
        refine s_iand (dt_X_isIn 9 _ _ _ rfl) ?_
        refine s_if_eq (tgt := 22) (dt_X_isIn 10 _ _ _ rfl) rfl ?_ ?_
        · refine s_iconst (dt_X_isIn 13 _ _ _ rfl) rfl ?_
          exact s_mask [false, false] (s_ret0 rfl)
        · refine s_iconst (dt_X_isIn 11 _ _ _ rfl) rfl ?_
          refine s_goto (tgt := 23) (dt_X_isIn 12 _ _ _ rfl) rfl ?_
          exact s_mask [false, false] (s_ret0 rfl)
      · refine s_iconst (dt_X_isIn 13 _ _ _ rfl) rfl ?_
        exact s_mask [false, false] (s_ret0 rfl)
  exact s_zret (dt_X_isIn 14 _ _ _ rfl) rfl rfl
theorem c_X_isIn {S : KS} (hS : KExt 382 S)  (a0 : Int) (a1 : Int) (M : KM) : ∀ q, f_X_isIn a0 a1 M = some q → Ctr y_X_isIn Y_X_isIn [VI a0, VI a1] S M (some (VI q)) S (M) := fun q hq =>
  ctr_of md_X_isIn (Nat.le_of_ble_eq_true rfl) ⟨Nat.le_refl _, Nat.le_refl _⟩ 0 hq rfl (fun _ G => sim_X_isIn hS  a0 a1 M)
abbrev Y_X_isPerson : KY := ("YearHands", prog_1_method_11_code, 2, (some .boolean), 1)
def D_X_isPerson : List (Nat × Instr × Nat) := [(0, .iload_n 1, 1), (1, .ifCond .lt 18, 3), (4, .iload_n 1, 1), (5, .aload_n 0, 1), (6, .getfield 20, 3), (9, .getfield 124, 3), (12, .if_icmp .ge 7, 3), (15, .iconst 1, 1), (16, .goto 4, 3), (19, .iconst 0, 1), (20, .ireturn, 1)]
theorem dt_X_isPerson : kDec prog_1_method_11_code D_X_isPerson := kDec_of (by decide +kernel)
theorem md_X_isPerson : KMd y_X_isPerson Y_X_isPerson 1 := ⟨⟨tb_at 1000 (by decide +kernel), tb_at 141 (by decide +kernel)⟩, rfl, ⟨by decide, by decide, by decide⟩, by decide +kernel, by decide⟩
noncomputable def f_X_isPerson (a0 : Int) (M : KM) : Option (Int) := Option.bind ((if a0 < 0 then some 0 else (if a0 < M 2 0 then some 1 else some 0)) : Option (Int)) (fun t1 => (if 0 ≤ t1 ∧ t1 ≤ 1 then some t1 else none))
set_option maxRecDepth 100000 in
theorem sim_X_isPerson {G : Gam} {S : KS} (hS : KExt 382 S)  (a0 : Int) (M : KM) : Sim G Y_X_isPerson (f_X_isPerson a0 M) (kC 0 [some (VR (some 0)), some (VI a0)] [] S M) (fun (q : Int) => Sum.inr (some (VI q), S, M)) := by
  unfold f_X_isPerson
  refine s_iload_n (dt_X_isPerson 0 _ _ _ rfl) rfl ?_
  refine s_bd (κ := fun t1 => kC 20 [none, none] [VI t1] S M) ?_ (fun t1 => ?_)
  · refine s_if_lt (tgt := 19) (dt_X_isPerson 1 _ _ _ rfl) rfl ?_ ?_
    · refine s_iconst (dt_X_isPerson 9 _ _ _ rfl) rfl ?_
      exact s_mask [false, false] (s_ret0 rfl)
    · refine s_iload_n (dt_X_isPerson 2 _ _ _ rfl) rfl ?_
      refine s_aload_n (dt_X_isPerson 3 _ _ _ rfl) rfl ?_
      refine s_getR (o := (some 2)) (dt_X_isPerson 4 _ _ _ rfl) (kf_X_20) (sc_0 hS) rfl rfl ?_
      refine s_getI (dt_X_isPerson 5 _ _ _ rfl) (kf_X_124) (sc_2 hS) rfl ?_
      refine s_if_icmp_ge (tgt := 19) (dt_X_isPerson 6 _ _ _ rfl) rfl ?_ ?_
      · refine s_iconst (dt_X_isPerson 7 _ _ _ rfl) rfl ?_
        refine s_goto (tgt := 20) (dt_X_isPerson 8 _ _ _ rfl) rfl ?_
        exact s_mask [false, false] (s_ret0 rfl)
      · refine s_iconst (dt_X_isPerson 9 _ _ _ rfl) rfl ?_
        exact s_mask [false, false] (s_ret0 rfl)
  exact s_zret (dt_X_isPerson 10 _ _ _ rfl) rfl rfl
theorem c_X_isPerson {S : KS} (hS : KExt 382 S)  (a0 : Int) (M : KM) : ∀ q, f_X_isPerson a0 M = some q → Ctr y_X_isPerson Y_X_isPerson [VR (some 0), VI a0] S M (some (VI q)) S (M) := fun q hq =>
  ctr_of md_X_isPerson (Nat.le_of_ble_eq_true rfl) ⟨Nat.le_refl _, Nat.le_refl _⟩ 0 hq rfl (fun _ G => sim_X_isPerson hS  a0 M)
abbrev Y_X_isAlive : KY := ("YearHands", prog_1_method_16_code, 2, (some .boolean), 2)
def D_X_isAlive : List (Nat × Instr × Nat) := [(0, .aload_n 0, 1), (1, .iload_n 1, 1), (2, .invokevirtual 133, 3), (5, .ifCond .eq 21, 3), (8, .aload_n 0, 1), (9, .getfield 34, 3), (12, .getfield 183, 3), (15, .iload_n 1, 1), (16, .invokestatic 186, 3), (19, .ifCond .eq 7, 3), (22, .iconst 1, 1), (23, .goto 4, 3), (26, .iconst 0, 1), (27, .ireturn, 1)]
theorem dt_X_isAlive : kDec prog_1_method_16_code D_X_isAlive := kDec_of (by decide +kernel)
theorem md_X_isAlive : KMd y_X_isAlive Y_X_isAlive 1 := ⟨⟨tb_at 1005 (by decide +kernel), tb_at 141 (by decide +kernel)⟩, rfl, ⟨by decide, by decide, by decide⟩, by decide +kernel, by decide⟩
noncomputable def f_X_isAlive (a0 : Int) (M : KM) : Option (Int) := Option.bind (f_X_isPerson a0 M) (fun q1 => Option.bind ((if q1 = 0 then some 0 else Option.bind (f_X_isIn (M 34 3) a0 M) (fun q2 => (if q2 = 0 then some 0 else some 1))) : Option (Int)) (fun t3 => (if 0 ≤ t3 ∧ t3 ≤ 1 then some t3 else none)))
set_option maxRecDepth 100000 in
theorem sim_X_isAlive {G : Gam} {S : KS} (hS : KExt 382 S)  (a0 : Int) (M : KM) : Sim G Y_X_isAlive (f_X_isAlive a0 M) (kC 0 [some (VR (some 0)), some (VI a0)] [] S M) (fun (q : Int) => Sum.inr (some (VI q), S, M)) := by
  unfold f_X_isAlive
  refine s_aload_n (dt_X_isAlive 0 _ _ _ rfl) rfl ?_
  refine s_iload_n (dt_X_isAlive 1 _ _ _ rfl) rfl ?_
  refine s_callO (y := y_X_isPerson) (Y' := Y_X_isPerson) (as := [VR (some 0), VI a0]) (r := fun q => some (VI q)) (M' := fun q => M) (kInvV (dt_X_isAlive 2 _ _ _ rfl) kin_X_isPerson 0 rfl (sc_0 hS) kse_X_isPerson rfl) kl_X_133 md_X_isPerson rfl rfl (fun q hq => c_X_isPerson hS a0 M q hq) (fun q1 => ?_)
  refine s_bd (κ := fun t3 => kC 27 [none, none] [VI t3] S M) ?_ (fun t3 => ?_)
  · refine s_if_eq (tgt := 26) (dt_X_isAlive 3 _ _ _ rfl) rfl ?_ ?_
    · refine s_iconst (dt_X_isAlive 12 _ _ _ rfl) rfl ?_
      exact s_mask [false, false] (s_ret0 rfl)
    · refine s_aload_n (dt_X_isAlive 4 _ _ _ rfl) rfl ?_
      refine s_getR (o := (some 34)) (dt_X_isAlive 5 _ _ _ rfl) (kf_X_34) (sc_0 hS) rfl rfl ?_
      refine s_getI (dt_X_isAlive 6 _ _ _ rfl) (kf_X_183) (sc_34 hS) rfl ?_
      refine s_iload_n (dt_X_isAlive 7 _ _ _ rfl) rfl ?_
      refine s_callO (y := y_X_isIn) (Y' := Y_X_isIn) (as := [VI (M 34 3), VI a0]) (r := fun q => some (VI q)) (M' := fun q => M) (kInvS (dt_X_isAlive 8 _ _ _ rfl) kst_X_isIn rfl) kl_X_186 md_X_isIn rfl rfl (fun q hq => c_X_isIn hS (M 34 3) a0 M q hq) (fun q2 => ?_)
      refine s_if_eq (tgt := 26) (dt_X_isAlive 9 _ _ _ rfl) rfl ?_ ?_
      · refine s_iconst (dt_X_isAlive 12 _ _ _ rfl) rfl ?_
        exact s_mask [false, false] (s_ret0 rfl)
      · refine s_iconst (dt_X_isAlive 10 _ _ _ rfl) rfl ?_
        refine s_goto (tgt := 27) (dt_X_isAlive 11 _ _ _ rfl) rfl ?_
        exact s_mask [false, false] (s_ret0 rfl)
  exact s_zret (dt_X_isAlive 13 _ _ _ rfl) rfl rfl
theorem c_X_isAlive {S : KS} (hS : KExt 382 S)  (a0 : Int) (M : KM) : ∀ q, f_X_isAlive a0 M = some q → Ctr y_X_isAlive Y_X_isAlive [VR (some 0), VI a0] S M (some (VI q)) S (M) := fun q hq =>
  ctr_of md_X_isAlive (Nat.le_of_ble_eq_true rfl) ⟨Nat.le_refl _, Nat.le_refl _⟩ 0 hq rfl (fun _ G => sim_X_isAlive hS  a0 M)
abbrev Y_X_isFamily : KY := ("YearHands", prog_1_method_14_code, 1, (some .boolean), 1)
def D_X_isFamily : List (Nat × Instr × Nat) := [(0, .iload_n 0, 1), (1, .ifCond .lt 12, 3), (4, .iload_n 0, 1), (5, .iconst 4, 1), (6, .if_icmp .ge 7, 3), (9, .iconst 1, 1), (10, .goto 4, 3), (13, .iconst 0, 1), (14, .ireturn, 1)]
theorem dt_X_isFamily : kDec prog_1_method_14_code D_X_isFamily := kDec_of (by decide +kernel)
theorem md_X_isFamily : KMd y_X_isFamily Y_X_isFamily 1 := ⟨⟨tb_at 1062 (by decide +kernel), tb_at 141 (by decide +kernel)⟩, rfl, ⟨by decide, by decide, by decide⟩, by decide +kernel, by decide⟩
noncomputable def f_X_isFamily (a0 : Int) (M : KM) : Option (Int) := Option.bind ((if a0 < 0 then some 0 else (if a0 < 4 then some 1 else some 0)) : Option (Int)) (fun t1 => (if 0 ≤ t1 ∧ t1 ≤ 1 then some t1 else none))
set_option maxRecDepth 100000 in
theorem sim_X_isFamily {G : Gam} {S : KS} (hS : KExt 382 S)  (a0 : Int) (M : KM) : Sim G Y_X_isFamily (f_X_isFamily a0 M) (kC 0 [some (VI a0)] [] S M) (fun (q : Int) => Sum.inr (some (VI q), S, M)) := by
  unfold f_X_isFamily
  refine s_iload_n (dt_X_isFamily 0 _ _ _ rfl) rfl ?_
  refine s_bd (κ := fun t1 => kC 14 [none] [VI t1] S M) ?_ (fun t1 => ?_)
  · refine s_if_lt (tgt := 13) (dt_X_isFamily 1 _ _ _ rfl) rfl ?_ ?_
    · refine s_iconst (dt_X_isFamily 7 _ _ _ rfl) rfl ?_
      exact s_mask [false] (s_ret0 rfl)
    · refine s_iload_n (dt_X_isFamily 2 _ _ _ rfl) rfl ?_
      refine s_iconst (dt_X_isFamily 3 _ _ _ rfl) rfl ?_
      refine s_if_icmp_ge (tgt := 13) (dt_X_isFamily 4 _ _ _ rfl) rfl ?_ ?_
      · refine s_iconst (dt_X_isFamily 5 _ _ _ rfl) rfl ?_
        refine s_goto (tgt := 14) (dt_X_isFamily 6 _ _ _ rfl) rfl ?_
        exact s_mask [false] (s_ret0 rfl)
      · refine s_iconst (dt_X_isFamily 7 _ _ _ rfl) rfl ?_
        exact s_mask [false] (s_ret0 rfl)
  exact s_zret (dt_X_isFamily 8 _ _ _ rfl) rfl rfl
theorem c_X_isFamily {S : KS} (hS : KExt 382 S)  (a0 : Int) (M : KM) : ∀ q, f_X_isFamily a0 M = some q → Ctr y_X_isFamily Y_X_isFamily [VI a0] S M (some (VI q)) S (M) := fun q hq =>
  ctr_of md_X_isFamily (Nat.le_of_ble_eq_true rfl) ⟨Nat.le_refl _, Nat.le_refl _⟩ 0 hq rfl (fun _ G => sim_X_isFamily hS  a0 M)
abbrev Y_X_sum : KY := ("YearHands", prog_1_method_10_code, 4, (some .int), 3)
def D_X_sum : List (Nat × Instr × Nat) := [(0, .iload_n 1, 1), (1, .iconst (-1), 1), (2, .if_icmp .eq 13, 3), (5, .iload_n 1, 1), (6, .invokestatic 170, 3), (9, .ifCond .ne 6, 3), (12, .ldc 173, 2), (14, .ireturn, 1), (15, .iconst 0, 1), (16, .istore_n 2, 1), (17, .iconst 0, 1), (18, .istore_n 3, 1), (19, .iload_n 3, 1), (20, .aload_n 0, 1), (21, .getfield 20, 3), (24, .getfield 124, 3), (27, .if_icmp .ge 51, 3), (30, .aload_n 0, 1), (31, .iload_n 3, 1), (32, .invokevirtual 147, 3), (35, .ifCond .eq 37, 3), (38, .iload_n 1, 1), (39, .iconst (-1), 1), (40, .if_icmp .eq 18, 3), (43, .aload_n 0, 1), (44, .getfield 20, 3), (47, .getfield 153, 3), (50, .iload_n 3, 1), (51, .invokestatic 140, 3), (54, .iload_n 1, 1), (55, .if_icmp .ne 17, 3), (58, .iload_n 2, 1), (59, .aload_n 0, 1), (60, .getfield 34, 3), (63, .getfield 137, 3), (66, .iload_n 3, 1), (67, .invokestatic 140, 3), (70, .iadd, 1), (71, .istore_n 2, 1), (72, .iinc 3 1, 3), (75, .goto (-56), 3), (78, .iload_n 2, 1), (79, .ireturn, 1)]
theorem dt_X_sum : kDec prog_1_method_10_code D_X_sum := kDec_of (by decide +kernel)
theorem md_X_sum : KMd y_X_sum Y_X_sum 1 := ⟨⟨tb_at 1059 (by decide +kernel), tb_at 141 (by decide +kernel)⟩, rfl, ⟨by decide, by decide, by decide⟩, by decide +kernel, by decide⟩
noncomputable def J_X_sum_15 (M : KM) (a0 : Int)  : Option (Int) := Option.bind (whileO (σ := Int × Int) (ε := Int) (fun s1 => (if s1.2 < M 2 0 then Option.bind (f_X_isAlive s1.2 M) (fun q2 => Option.bind ((if q2 = 0 then some s1.1 else (if a0 = (-1) then Option.bind (f_X_at 35 8 s1.2 M) (fun q3 => letI_ (w32 (s1.1 + q3)) (fun v4 => some v4)) else Option.bind (f_X_at 6 8 s1.2 M) (fun q5 => (if q5 = a0 then Option.bind (f_X_at 35 8 s1.2 M) (fun q6 => letI_ (w32 (s1.1 + q6)) (fun v7 => some v7)) else some s1.1)))) : Option (Int)) (fun t8 => some (Sum.inl (t8, w32 (s1.2 + 1))))) else some (Sum.inr s1.1))) (0, 0)) (fun e9 => some e9)
set_option maxRecDepth 100000 in
theorem sJ_X_sum_15 {G : Gam} {S : KS} (hS : KExt 382 S)  (M : KM) (a0 : Int)  : Sim G Y_X_sum (J_X_sum_15 M a0) (kC 15 [some (VR (some 0)), some (VI a0), none, none] [] S M) (fun (q : Int) => Sum.inr (some (VI q), S, M)) := by
  unfold J_X_sum_15
  refine s_iconst (dt_X_sum 8 _ _ _ rfl) rfl ?_
  refine s_istore_n (dt_X_sum 9 _ _ _ rfl) rfl ?_
  refine s_iconst (dt_X_sum 10 _ _ _ rfl) rfl ?_
  refine s_istore_n (dt_X_sum 11 _ _ _ rfl) rfl ?_
  refine s_bd (κ := (fun (e9 : Int) => kC 78 [none, none, some (VI e9), none] [] S M)) (s_mask [true, true, true, true] (s_while (c := fun s1 => kC 19 [some (VR (some 0)), some (VI a0), some (VI s1.1), some (VI s1.2)] [] S M) (fun s1 => ?_) (0, 0))) ?_
  · refine s_iload_n (dt_X_sum 12 _ _ _ rfl) rfl ?_
    refine s_aload_n (dt_X_sum 13 _ _ _ rfl) rfl ?_
    refine s_getR (o := (some 2)) (dt_X_sum 14 _ _ _ rfl) (kf_X_20) (sc_0 hS) rfl rfl ?_
    refine s_getI (dt_X_sum 15 _ _ _ rfl) (kf_X_124) (sc_2 hS) rfl ?_
    refine s_if_icmp_ge (tgt := 78) (dt_X_sum 16 _ _ _ rfl) rfl ?_ ?_
    · refine s_aload_n (dt_X_sum 17 _ _ _ rfl) rfl ?_
      refine s_iload_n (dt_X_sum 18 _ _ _ rfl) rfl ?_
      refine s_callO (y := y_X_isAlive) (Y' := Y_X_isAlive) (as := [VR (some 0), VI s1.2]) (r := fun q => some (VI q)) (M' := fun q => M) (kInvV (dt_X_sum 19 _ _ _ rfl) kin_X_isAlive 0 rfl (sc_0 hS) kse_X_isAlive rfl) kl_X_147 md_X_isAlive rfl rfl (fun q hq => c_X_isAlive hS s1.2 M q hq) (fun q2 => ?_)
      refine s_bd (κ := fun t8 => kC 72 [some (VR (some 0)), some (VI a0), some (VI t8), some (VI s1.2)] [] S M) ?_ (fun t8 => ?_)
      · refine s_if_eq (tgt := 72) (dt_X_sum 20 _ _ _ rfl) rfl ?_ ?_
        · exact s_mask [true, true, true, true] (s_ret0 rfl)
        · refine s_iload_n (dt_X_sum 21 _ _ _ rfl) rfl ?_
          refine s_iconst (dt_X_sum 22 _ _ _ rfl) rfl ?_
          refine s_if_icmp_eq (tgt := 58) (dt_X_sum 23 _ _ _ rfl) rfl ?_ ?_
          · refine s_iload_n (dt_X_sum 31 _ _ _ rfl) rfl ?_
            refine s_aload_n (dt_X_sum 32 _ _ _ rfl) rfl ?_
            refine s_getR (o := (some 34)) (dt_X_sum 33 _ _ _ rfl) (kf_X_34) (sc_0 hS) rfl rfl ?_
            refine s_getR (o := (some 35)) (dt_X_sum 34 _ _ _ rfl) (kf_X_137) (sc_34 hS) rfl rfl ?_
            refine s_iload_n (dt_X_sum 35 _ _ _ rfl) rfl ?_
            refine s_callO (y := y_X_at) (Y' := Y_X_at) (as := [VR (some 35), VI s1.2]) (r := fun q => some (VI q)) (M' := fun q => M) (kInvS (dt_X_sum 36 _ _ _ rfl) kst_X_at rfl) kl_X_140 md_X_at rfl rfl (fun q hq => c_X_at hS ⟨(sc_35 hS), by decide⟩ s1.2 M q hq) (fun q3 => ?_)
            refine s_iadd (dt_X_sum 37 _ _ _ rfl) ?_
            refine s_letI (fun v4 => ?_)
            refine s_istore_n (dt_X_sum 38 _ _ _ rfl) rfl ?_
            exact s_mask [true, true, true, true] (s_ret0 rfl)
          · refine s_aload_n (dt_X_sum 24 _ _ _ rfl) rfl ?_
            refine s_getR (o := (some 2)) (dt_X_sum 25 _ _ _ rfl) (kf_X_20) (sc_0 hS) rfl rfl ?_
            refine s_getR (o := (some 6)) (dt_X_sum 26 _ _ _ rfl) (kf_X_153) (sc_2 hS) rfl rfl ?_
            refine s_iload_n (dt_X_sum 27 _ _ _ rfl) rfl ?_
            refine s_callO (y := y_X_at) (Y' := Y_X_at) (as := [VR (some 6), VI s1.2]) (r := fun q => some (VI q)) (M' := fun q => M) (kInvS (dt_X_sum 28 _ _ _ rfl) kst_X_at rfl) kl_X_140 md_X_at rfl rfl (fun q hq => c_X_at hS ⟨(sc_6 hS), by decide⟩ s1.2 M q hq) (fun q5 => ?_)
            refine s_iload_n (dt_X_sum 29 _ _ _ rfl) rfl ?_
            refine s_if_icmp_ne (tgt := 72) (dt_X_sum 30 _ _ _ rfl) rfl ?_ ?_
            · refine s_iload_n (dt_X_sum 31 _ _ _ rfl) rfl ?_
              refine s_aload_n (dt_X_sum 32 _ _ _ rfl) rfl ?_
              refine s_getR (o := (some 34)) (dt_X_sum 33 _ _ _ rfl) (kf_X_34) (sc_0 hS) rfl rfl ?_
              refine s_getR (o := (some 35)) (dt_X_sum 34 _ _ _ rfl) (kf_X_137) (sc_34 hS) rfl rfl ?_
              refine s_iload_n (dt_X_sum 35 _ _ _ rfl) rfl ?_
              refine s_callO (y := y_X_at) (Y' := Y_X_at) (as := [VR (some 35), VI s1.2]) (r := fun q => some (VI q)) (M' := fun q => M) (kInvS (dt_X_sum 36 _ _ _ rfl) kst_X_at rfl) kl_X_140 md_X_at rfl rfl (fun q hq => c_X_at hS ⟨(sc_35 hS), by decide⟩ s1.2 M q hq) (fun q6 => ?_)
              refine s_iadd (dt_X_sum 37 _ _ _ rfl) ?_
              refine s_letI (fun v7 => ?_)
              refine s_istore_n (dt_X_sum 38 _ _ _ rfl) rfl ?_
              exact s_mask [true, true, true, true] (s_ret0 rfl)
            · exact s_mask [true, true, true, true] (s_ret0 rfl)
      refine s_iinc (dt_X_sum 39 _ _ _ rfl) rfl rfl ?_
      refine s_goto (tgt := 19) (dt_X_sum 40 _ _ _ rfl) rfl ?_
      exact s_mask [true, true, true, true] (s_ret0 rfl)
    · exact s_mask [false, false, true, false] (s_ret0 rfl)
  intro e9
  refine s_iload_n (dt_X_sum 41 _ _ _ rfl) rfl ?_
  exact s_iret (dt_X_sum 42 _ _ _ rfl) rfl rfl
noncomputable def f_X_sum (a0 : Int) (M : KM) : Option (Int) := (if a0 = (-1) then J_X_sum_15 M a0 else Option.bind (f_X_isFamily a0 M) (fun q10 => (if q10 = 0 then some (-1000000) else J_X_sum_15 M a0)))
set_option maxRecDepth 100000 in
theorem sim_X_sum {G : Gam} {S : KS} (hS : KExt 382 S)  (a0 : Int) (M : KM) : Sim G Y_X_sum (f_X_sum a0 M) (kC 0 [some (VR (some 0)), some (VI a0), none, none] [] S M) (fun (q : Int) => Sum.inr (some (VI q), S, M)) := by
  unfold f_X_sum
  refine s_iload_n (dt_X_sum 0 _ _ _ rfl) rfl ?_
  refine s_iconst (dt_X_sum 1 _ _ _ rfl) rfl ?_
  refine s_if_icmp_eq (tgt := 15) (dt_X_sum 2 _ _ _ rfl) rfl ?_ ?_
  · exact s_mask [true, true, false, false] (sJ_X_sum_15 hS M a0)
  · refine s_iload_n (dt_X_sum 3 _ _ _ rfl) rfl ?_
    refine s_callO (y := y_X_isFamily) (Y' := Y_X_isFamily) (as := [VI a0]) (r := fun q => some (VI q)) (M' := fun q => M) (kInvS (dt_X_sum 4 _ _ _ rfl) kst_X_isFamily rfl) kl_X_170 md_X_isFamily rfl rfl (fun q hq => c_X_isFamily hS a0 M q hq) (fun q10 => ?_)
    refine s_if_ne (tgt := 15) (dt_X_sum 5 _ _ _ rfl) rfl ?_ ?_
    · refine s_ldc (n := (-1000000)) (kc_X_173) (dt_X_sum 6 _ _ _ rfl) rfl ?_
      exact s_iret (dt_X_sum 7 _ _ _ rfl) rfl rfl
    · exact s_mask [true, true, false, false] (sJ_X_sum_15 hS M a0)
theorem c_X_sum {S : KS} (hS : KExt 382 S)  (a0 : Int) (M : KM) : ∀ q, f_X_sum a0 M = some q → Ctr y_X_sum Y_X_sum [VR (some 0), VI a0] S M (some (VI q)) S (M) := fun q hq =>
  ctr_of md_X_sum (Nat.le_of_ble_eq_true rfl) ⟨Nat.le_refl _, Nat.le_refl _⟩ 2 hq rfl (fun _ G => sim_X_sum hS  a0 M)
abbrev Y_State_growOlder : KY := ("YearHands$State", prog_10_method_8_code, 3, none, 2)
def D_State_growOlder : List (Nat × Instr × Nat) := [(0, .iconst 0, 1), (1, .istore_n 2, 1), (2, .iload_n 2, 1), (3, .aload_n 0, 1), (4, .getfield 42, 3), (7, .if_icmp .ge 42, 3), (10, .aload_n 0, 1), (11, .getfield 43, 3), (14, .iload_n 2, 1), (15, .invokestatic 72, 3), (18, .ifCond .eq 25, 3), (21, .aload_n 0, 1), (22, .getfield 9, 3), (25, .iload_n 2, 1), (26, .iload_n 1, 1), (27, .aload_n 0, 1), (28, .getfield 9, 3), (31, .iload_n 2, 1), (32, .invokestatic 64, 3), (35, .iconst 1, 1), (36, .iadd, 1), (37, .invokestatic 76, 3), (40, .invokestatic 68, 3), (43, .iinc 2 1, 3), (46, .goto (-44), 3), (49, .return_, 1)]
theorem dt_State_growOlder : kDec prog_10_method_8_code D_State_growOlder := kDec_of (by decide +kernel)
theorem md_State_growOlder : KMd y_State_growOlder Y_State_growOlder 1 := ⟨⟨tb_at 1106 (by decide +kernel), tb_at 146 (by decide +kernel)⟩, rfl, ⟨by decide, by decide, by decide⟩, by decide +kernel, by decide⟩
noncomputable def f_State_growOlder (a0 : Int) (M : KM) : Option (KM) := Option.bind (whileO (σ := Int × KM) (ε := KM) (fun s1 => (if s1.1 < s1.2 34 2 then Option.bind (f_X_isIn (s1.2 34 3) s1.1 s1.2) (fun q2 => Option.bind ((if q2 = 0 then some s1.2 else Option.bind (f_X_at 35 8 s1.1 s1.2) (fun q3 => Option.bind (f_X_put 35 8 s1.1 (min a0 (w32 (q3 + 1))) s1.2) (fun q4 => some q4))) : Option (KM)) (fun t5 => some (Sum.inl (w32 (s1.1 + 1), t5)))) else some (Sum.inr s1.2))) (0, M)) (fun e6 => some e6)
set_option maxRecDepth 100000 in
theorem sim_State_growOlder {G : Gam} {S : KS} (hS : KExt 382 S)  (a0 : Int) (M : KM) : Sim G Y_State_growOlder (f_State_growOlder a0 M) (kC 0 [some (VR (some 34)), some (VI a0), none] [] S M) (fun (q : KM) => Sum.inr (none, S, q)) := by
  unfold f_State_growOlder
  refine s_iconst (dt_State_growOlder 0 _ _ _ rfl) rfl ?_
  refine s_istore_n (dt_State_growOlder 1 _ _ _ rfl) rfl ?_
  refine s_bd (κ := (fun (e6 : KM) => kC 49 [none, none, none] [] S e6)) (s_mask [true, true, true] (s_while (c := fun s1 => kC 2 [some (VR (some 34)), some (VI a0), some (VI s1.1)] [] S s1.2) (fun s1 => ?_) (0, M))) ?_
  · refine s_iload_n (dt_State_growOlder 2 _ _ _ rfl) rfl ?_
    refine s_aload_n (dt_State_growOlder 3 _ _ _ rfl) rfl ?_
    refine s_getI (dt_State_growOlder 4 _ _ _ rfl) (kf_State_42) (sc_34 hS) rfl ?_
    refine s_if_icmp_ge (tgt := 49) (dt_State_growOlder 5 _ _ _ rfl) rfl ?_ ?_
    · refine s_aload_n (dt_State_growOlder 6 _ _ _ rfl) rfl ?_
      refine s_getI (dt_State_growOlder 7 _ _ _ rfl) (kf_State_43) (sc_34 hS) rfl ?_
      refine s_iload_n (dt_State_growOlder 8 _ _ _ rfl) rfl ?_
      refine s_callO (y := y_X_isIn) (Y' := Y_X_isIn) (as := [VI (s1.2 34 3), VI s1.1]) (r := fun q => some (VI q)) (M' := fun q => s1.2) (kInvS (dt_State_growOlder 9 _ _ _ rfl) kst_X_isIn rfl) kl_State_72 md_X_isIn rfl rfl (fun q hq => c_X_isIn hS (s1.2 34 3) s1.1 s1.2 q hq) (fun q2 => ?_)
      refine s_bd (κ := fun t5 => kC 43 [some (VR (some 34)), some (VI a0), some (VI s1.1)] [] S t5) ?_ (fun t5 => ?_)
      · refine s_if_eq (tgt := 43) (dt_State_growOlder 10 _ _ _ rfl) rfl ?_ ?_
        · exact s_mask [true, true, true] (s_ret0 rfl)
        · refine s_aload_n (dt_State_growOlder 11 _ _ _ rfl) rfl ?_
          refine s_getR (o := (some 35)) (dt_State_growOlder 12 _ _ _ rfl) (kf_State_9) (sc_34 hS) rfl rfl ?_
          refine s_iload_n (dt_State_growOlder 13 _ _ _ rfl) rfl ?_
          refine s_iload_n (dt_State_growOlder 14 _ _ _ rfl) rfl ?_
          refine s_aload_n (dt_State_growOlder 15 _ _ _ rfl) rfl ?_
          refine s_getR (o := (some 35)) (dt_State_growOlder 16 _ _ _ rfl) (kf_State_9) (sc_34 hS) rfl rfl ?_
          refine s_iload_n (dt_State_growOlder 17 _ _ _ rfl) rfl ?_
          refine s_callO (y := y_X_at) (Y' := Y_X_at) (as := [VR (some 35), VI s1.1]) (r := fun q => some (VI q)) (M' := fun q => s1.2) (kInvS (dt_State_growOlder 18 _ _ _ rfl) kst_X_at rfl) kl_State_64 md_X_at rfl rfl (fun q hq => c_X_at hS ⟨(sc_35 hS), by decide⟩ s1.1 s1.2 q hq) (fun q3 => ?_)
          refine s_iconst (dt_State_growOlder 19 _ _ _ rfl) rfl ?_
          refine s_iadd (dt_State_growOlder 20 _ _ _ rfl) ?_
          refine s_mmin (dt_State_growOlder 21 _ _ _ rfl) kj_State_76 rfl ?_
          refine s_callO (y := y_X_put) (Y' := Y_X_put) (as := [VR (some 35), VI s1.1, VI (min a0 (w32 (q3 + 1)))]) (r := fun q => none) (M' := fun q => q) (kInvS (dt_State_growOlder 22 _ _ _ rfl) kst_X_put rfl) kl_State_68 md_X_put rfl rfl (fun q hq => c_X_put hS ⟨(sc_35 hS), by decide⟩ s1.1 (min a0 (w32 (q3 + 1))) s1.2 q hq) (fun q4 => ?_)
          exact s_mask [true, true, true] (s_ret0 rfl)
      refine s_iinc (dt_State_growOlder 23 _ _ _ rfl) rfl rfl ?_
      refine s_goto (tgt := 2) (dt_State_growOlder 24 _ _ _ rfl) rfl ?_
      exact s_mask [true, true, true] (s_ret0 rfl)
    · exact s_mask [false, false, false] (s_ret0 rfl)
  intro e6
  exact s_vret (dt_State_growOlder 25 _ _ _ rfl) rfl rfl
theorem c_State_growOlder {S : KS} (hS : KExt 382 S)  (a0 : Int) (M : KM) : ∀ q, f_State_growOlder a0 M = some q → Ctr y_State_growOlder Y_State_growOlder [VR (some 34), VI a0] S M (none) S (q) := fun q hq =>
  ctr_of md_State_growOlder (Nat.le_of_ble_eq_true rfl) ⟨Nat.le_refl _, Nat.le_refl _⟩ 1 hq rfl (fun _ G => sim_State_growOlder hS  a0 M)
