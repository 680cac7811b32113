noncomputable def f_M_must (a0 : Int) (M : KM) : Option (KM) := Option.bind (f_M_isGood M) (fun q1 => (if q1 = 0 then some M else Option.bind ((if a0 = 0 then Option.bind (f_M_misplaced M) (fun q2 => some q2) else Option.bind (f_M_goOn M) (fun q3 => some q3)) : Option (KM)) (fun t4 => some t4)))
set_option maxRecDepth 100000 in
theorem sim_M_must {G : Gam} {S : KS} (hS : KExt 435 S)  (a0 : Int) (M : KM) : Sim G Y_M_must (f_M_must a0 M) (kC 0 [some (VR (some 382)), some (VI a0)] [] S M) (fun (q : KM) => Sum.inr (none, S, q)) := by
  unfold f_M_must
  refine s_aload_n (dt_M_must 0 _ _ _ rfl) rfl ?_
  refine s_callO (y := y_M_isGood) (Y' := Y_M_isGood) (as := [VR (some 382)]) (r := fun q => some (VI q)) (M' := fun q => M) (kInvV (dt_M_must 1 _ _ _ rfl) kin_M_isGood 1 rfl (sc_382 hS) kse_M_isGood rfl) kl_M_258 md_M_isGood rfl rfl (fun q hq => c_M_isGood hS M q hq) (fun q1 => ?_)
  refine s_if_ne (tgt := 8) (dt_M_must 2 _ _ _ rfl) rfl ?_ ?_
  · exact s_vret (dt_M_must 3 _ _ _ rfl) rfl rfl
  · refine s_iload_n (dt_M_must 4 _ _ _ rfl) rfl ?_
    refine s_bd (κ := fun t4 => kC 23 [none, none] [] S t4) ?_ (fun t4 => ?_)
    · refine s_if_eq (tgt := 19) (dt_M_must 5 _ _ _ rfl) rfl ?_ ?_
      · refine s_aload_n (dt_M_must 9 _ _ _ rfl) rfl ?_
        refine s_callO (y := y_M_misplaced) (Y' := Y_M_misplaced) (as := [VR (some 382)]) (r := fun q => none) (M' := fun q => q) (kInvV (dt_M_must 10 _ _ _ rfl) kin_M_misplaced 1 rfl (sc_382 hS) kse_M_misplaced rfl) kl_M_265 md_M_misplaced rfl rfl (fun q hq => c_M_misplaced hS M q hq) (fun q2 => ?_)
        exact s_mask [false, false] (s_ret0 rfl)
      · refine s_aload_n (dt_M_must 6 _ _ _ rfl) rfl ?_
        refine s_callO (y := y_M_goOn) (Y' := Y_M_goOn) (as := [VR (some 382)]) (r := fun q => none) (M' := fun q => q) (kInvV (dt_M_must 7 _ _ _ rfl) kin_M_goOn 1 rfl (sc_382 hS) kse_M_goOn rfl) kl_M_262 md_M_goOn rfl rfl (fun q hq => c_M_goOn hS M q hq) (fun q3 => ?_)
        refine s_goto (tgt := 23) (dt_M_must 8 _ _ _ rfl) rfl ?_
        exact s_mask [false, false] (s_ret0 rfl)
    exact s_vret (dt_M_must 11 _ _ _ rfl) rfl rfl
theorem c_M_must {S : KS} (hS : KExt 435 S)  (a0 : Int) (M : KM) : ∀ q, f_M_must a0 M = some q → Ctr y_M_must Y_M_must [VR (some 382), VI a0] S M (none) S (q) := fun q hq =>
  ctr_of md_M_must (Nat.le_of_ble_eq_true rfl) ⟨Nat.le_refl _, Nat.le_refl _⟩ 0 hq rfl (fun _ G => sim_M_must hS  a0 M)
noncomputable def f_M_numeral (a0 : Int) (a1 : Int) (M : KM) : Option (Int × KM) := Option.bind (f_M_isGood M) (fun q1 => (if q1 = 0 then some (a0, M) else Option.bind ((if M 382 8 = 4 then some M else Option.bind (f_M_misplaced M) (fun q2 => some q2)) : Option (KM)) (fun t3 => Option.bind (f_M_isGood t3) (fun q4 => Option.bind ((if q4 = 0 then some t3 else (if t3 382 9 < a0 then Option.bind (f_M_fails 4 (t3 382 6) t3) (fun q5 => some q5) else (if t3 382 9 ≤ a1 then some t3 else Option.bind (f_M_fails 4 (t3 382 6) t3) (fun q6 => some q6)))) : Option (KM)) (fun t7 => letI_ (t7 382 9) (fun v8 => Option.bind (f_M_isGood t7) (fun q9 => Option.bind ((if q9 = 0 then some t7 else Option.bind (f_M_goOn t7) (fun q10 => some q10)) : Option (KM)) (fun t11 => Option.bind (f_M_isGood t11) (fun q12 => Option.bind ((if q12 = 0 then some a0 else some v8) : Option (Int)) (fun t13 => some (t13, t11)))))))))))
set_option maxRecDepth 100000 in
theorem sim_M_numeral {G : Gam} {S : KS} (hS : KExt 435 S)  (a0 : Int) (a1 : Int) (M : KM) : Sim G Y_M_numeral (f_M_numeral a0 a1 M) (kC 0 [some (VR (some 382)), some (VI a0), some (VI a1), none] [] S M) (fun (q : Int × KM) => Sum.inr (some (VI q.1), S, q.2)) := by
  unfold f_M_numeral
  refine s_aload_n (dt_M_numeral 0 _ _ _ rfl) rfl ?_
  refine s_callO (y := y_M_isGood) (Y' := Y_M_isGood) (as := [VR (some 382)]) (r := fun q => some (VI q)) (M' := fun q => M) (kInvV (dt_M_numeral 1 _ _ _ rfl) kin_M_isGood 1 rfl (sc_382 hS) kse_M_isGood rfl) kl_M_258 md_M_isGood rfl rfl (fun q hq => c_M_isGood hS M q hq) (fun q1 => ?_)
  refine s_if_ne (tgt := 9) (dt_M_numeral 2 _ _ _ rfl) rfl ?_ ?_
  · refine s_iload_n (dt_M_numeral 3 _ _ _ rfl) rfl ?_
    exact s_iret (dt_M_numeral 4 _ _ _ rfl) rfl rfl
  · refine s_aload_n (dt_M_numeral 5 _ _ _ rfl) rfl ?_
    refine s_getI (dt_M_numeral 6 _ _ _ rfl) (kf_M_230) (sc_382 hS) rfl ?_
    refine s_iconst (dt_M_numeral 7 _ _ _ rfl) rfl ?_
    refine s_bd (κ := fun t3 => kC 21 [some (VR (some 382)), some (VI a0), some (VI a1), none] [] S t3) ?_ (fun t3 => ?_)
    · refine s_if_icmp_eq (tgt := 21) (dt_M_numeral 8 _ _ _ rfl) rfl ?_ ?_
      · exact s_mask [true, true, true, false] (s_ret0 rfl)
      · refine s_aload_n (dt_M_numeral 9 _ _ _ rfl) rfl ?_
        refine s_callO (y := y_M_misplaced) (Y' := Y_M_misplaced) (as := [VR (some 382)]) (r := fun q => none) (M' := fun q => q) (kInvV (dt_M_numeral 10 _ _ _ rfl) kin_M_misplaced 1 rfl (sc_382 hS) kse_M_misplaced rfl) kl_M_265 md_M_misplaced rfl rfl (fun q hq => c_M_misplaced hS M q hq) (fun q2 => ?_)
        exact s_mask [true, true, true, false] (s_ret0 rfl)
    refine s_aload_n (dt_M_numeral 11 _ _ _ rfl) rfl ?_
    refine s_callO (y := y_M_isGood) (Y' := Y_M_isGood) (as := [VR (some 382)]) (r := fun q => some (VI q)) (M' := fun q => t3) (kInvV (dt_M_numeral 12 _ _ _ rfl) kin_M_isGood 1 rfl (sc_382 hS) kse_M_isGood rfl) kl_M_258 md_M_isGood rfl rfl (fun q hq => c_M_isGood hS t3 q hq) (fun q4 => ?_)
    refine s_bd (κ := fun t7 => kC 53 [some (VR (some 382)), some (VI a0), none, none] [] S t7) ?_ (fun t7 => ?_)
    · refine s_if_eq (tgt := 53) (dt_M_numeral 13 _ _ _ rfl) rfl ?_ ?_
      · exact s_mask [true, true, false, false] (s_ret0 rfl)
      · refine s_aload_n (dt_M_numeral 14 _ _ _ rfl) rfl ?_
        refine s_getI (dt_M_numeral 15 _ _ _ rfl) (kf_M_248) (sc_382 hS) rfl ?_
        refine s_iload_n (dt_M_numeral 16 _ _ _ rfl) rfl ?_
        refine s_if_icmp_lt (tgt := 44) (dt_M_numeral 17 _ _ _ rfl) rfl ?_ ?_
        · refine s_aload_n (dt_M_numeral 22 _ _ _ rfl) rfl ?_
          refine s_iconst (dt_M_numeral 23 _ _ _ rfl) rfl ?_
          refine s_aload_n (dt_M_numeral 24 _ _ _ rfl) rfl ?_
          refine s_getI (dt_M_numeral 25 _ _ _ rfl) (kf_M_223) (sc_382 hS) rfl ?_
          refine s_callO (y := y_M_fails) (Y' := Y_M_fails) (as := [VR (some 382), VI 4, VI (t3 382 6)]) (r := fun q => none) (M' := fun q => q) (kInvV (dt_M_numeral 26 _ _ _ rfl) kin_M_fails 1 rfl (sc_382 hS) kse_M_fails rfl) kl_M_254 md_M_fails rfl rfl (fun q hq => c_M_fails hS 4 (t3 382 6) t3 q hq) (fun q5 => ?_)
          exact s_mask [true, true, false, false] (s_ret0 rfl)
        · refine s_aload_n (dt_M_numeral 18 _ _ _ rfl) rfl ?_
          refine s_getI (dt_M_numeral 19 _ _ _ rfl) (kf_M_248) (sc_382 hS) rfl ?_
          refine s_iload_n (dt_M_numeral 20 _ _ _ rfl) rfl ?_
          refine s_if_icmp_le (tgt := 53) (dt_M_numeral 21 _ _ _ rfl) rfl ?_ ?_
          · exact s_mask [true, true, false, false] (s_ret0 rfl)
          · refine s_aload_n (dt_M_numeral 22 _ _ _ rfl) rfl ?_
            refine s_iconst (dt_M_numeral 23 _ _ _ rfl) rfl ?_
            refine s_aload_n (dt_M_numeral 24 _ _ _ rfl) rfl ?_
            refine s_getI (dt_M_numeral 25 _ _ _ rfl) (kf_M_223) (sc_382 hS) rfl ?_
            refine s_callO (y := y_M_fails) (Y' := Y_M_fails) (as := [VR (some 382), VI 4, VI (t3 382 6)]) (r := fun q => none) (M' := fun q => q) (kInvV (dt_M_numeral 26 _ _ _ rfl) kin_M_fails 1 rfl (sc_382 hS) kse_M_fails rfl) kl_M_254 md_M_fails rfl rfl (fun q hq => c_M_fails hS 4 (t3 382 6) t3 q hq) (fun q6 => ?_)
            exact s_mask [true, true, false, false] (s_ret0 rfl)
    refine s_aload_n (dt_M_numeral 27 _ _ _ rfl) rfl ?_
    refine s_getI (dt_M_numeral 28 _ _ _ rfl) (kf_M_248) (sc_382 hS) rfl ?_
    refine s_letI (fun v8 => ?_)
    refine s_istore_n (dt_M_numeral 29 _ _ _ rfl) rfl ?_
    refine s_aload_n (dt_M_numeral 30 _ _ _ rfl) rfl ?_
    refine s_callO (y := y_M_isGood) (Y' := Y_M_isGood) (as := [VR (some 382)]) (r := fun q => some (VI q)) (M' := fun q => t7) (kInvV (dt_M_numeral 31 _ _ _ rfl) kin_M_isGood 1 rfl (sc_382 hS) kse_M_isGood rfl) kl_M_258 md_M_isGood rfl rfl (fun q hq => c_M_isGood hS t7 q hq) (fun q9 => ?_)
    refine s_bd (κ := fun t11 => kC 69 [some (VR (some 382)), some (VI a0), none, some (VI v8)] [] S t11) ?_ (fun t11 => ?_)
    · refine s_if_eq (tgt := 69) (dt_M_numeral 32 _ _ _ rfl) rfl ?_ ?_
      · exact s_mask [true, true, false, true] (s_ret0 rfl)
      · refine s_aload_n (dt_M_numeral 33 _ _ _ rfl) rfl ?_
        refine s_callO (y := y_M_goOn) (Y' := Y_M_goOn) (as := [VR (some 382)]) (r := fun q => none) (M' := fun q => q) (kInvV (dt_M_numeral 34 _ _ _ rfl) kin_M_goOn 1 rfl (sc_382 hS) kse_M_goOn rfl) kl_M_262 md_M_goOn rfl rfl (fun q hq => c_M_goOn hS t7 q hq) (fun q10 => ?_)
        exact s_mask [true, true, false, true] (s_ret0 rfl)
    refine s_aload_n (dt_M_numeral 35 _ _ _ rfl) rfl ?_
    refine s_callO (y := y_M_isGood) (Y' := Y_M_isGood) (as := [VR (some 382)]) (r := fun q => some (VI q)) (M' := fun q => t11) (kInvV (dt_M_numeral 36 _ _ _ rfl) kin_M_isGood 1 rfl (sc_382 hS) kse_M_isGood rfl) kl_M_258 md_M_isGood rfl rfl (fun q hq => c_M_isGood hS t11 q hq) (fun q12 => ?_)
    refine s_bd (κ := fun t13 => kC 81 [none, none, none, none] [VI t13] S t11) ?_ (fun t13 => ?_)
    · refine s_if_eq (tgt := 80) (dt_M_numeral 37 _ _ _ rfl) rfl ?_ ?_
      · refine s_iload_n (dt_M_numeral 40 _ _ _ rfl) rfl ?_
        exact s_mask [false, false, false, false] (s_ret0 rfl)
      · refine s_iload_n (dt_M_numeral 38 _ _ _ rfl) rfl ?_
        refine s_goto (tgt := 81) (dt_M_numeral 39 _ _ _ rfl) rfl ?_
        exact s_mask [false, false, false, false] (s_ret0 rfl)
    exact s_iret (dt_M_numeral 41 _ _ _ rfl) rfl rfl
theorem c_M_numeral {S : KS} (hS : KExt 435 S)  (a0 : Int) (a1 : Int) (M : KM) : ∀ q, f_M_numeral a0 a1 M = some q → Ctr y_M_numeral Y_M_numeral [VR (some 382), VI a0, VI a1] S M (some (VI q.1)) S (q.2) := fun q hq =>
  ctr_of md_M_numeral (Nat.le_of_ble_eq_true rfl) ⟨Nat.le_refl _, Nat.le_refl _⟩ 1 hq rfl (fun _ G => sim_M_numeral hS  a0 a1 M)
noncomputable def f_M_after (a0 : Int) (a1 : Int) (a2 : Int) (M : KM) : Option (Int × KM) := Option.bind (f_M_isWord a0 M) (fun q1 => Option.bind (f_M_must q1 M) (fun q2 => Option.bind (f_M_numeral a1 a2 q2) (fun q3 => some (q3.1, q3.2))))
set_option maxRecDepth 100000 in
theorem sim_M_after {G : Gam} {S : KS} (hS : KExt 435 S)  (a0 : Int) (a1 : Int) (a2 : Int) (M : KM) : Sim G Y_M_after (f_M_after a0 a1 a2 M) (kC 0 [some (VR (some 382)), some (VJ a0), none, some (VI a1), some (VI a2)] [] S M) (fun (q : Int × KM) => Sum.inr (some (VI q.1), S, q.2)) := by
  unfold f_M_after
  refine s_aload_n (dt_M_after 0 _ _ _ rfl) rfl ?_
  refine s_aload_n (dt_M_after 1 _ _ _ rfl) rfl ?_
  refine s_lload_n (dt_M_after 2 _ _ _ rfl) rfl ?_
  refine s_callO (y := y_M_isWord) (Y' := Y_M_isWord) (as := [VR (some 382), VJ a0]) (r := fun q => some (VI q)) (M' := fun q => M) (kInvV (dt_M_after 3 _ _ _ rfl) kin_M_isWord 1 rfl (sc_382 hS) kse_M_isWord rfl) kl_M_268 md_M_isWord rfl rfl (fun q hq => c_M_isWord hS a0 M q hq) (fun q1 => ?_)
  refine s_callO (y := y_M_must) (Y' := Y_M_must) (as := [VR (some 382), VI q1]) (r := fun q => none) (M' := fun q => q) (kInvV (dt_M_after 4 _ _ _ rfl) kin_M_must 1 rfl (sc_382 hS) kse_M_must rfl) kl_M_271 md_M_must rfl rfl (fun q hq => c_M_must hS q1 M q hq) (fun q2 => ?_)
  refine s_aload_n (dt_M_after 5 _ _ _ rfl) rfl ?_
  refine s_iload_n (dt_M_after 6 _ _ _ rfl) rfl ?_
  refine s_iload (dt_M_after 7 _ _ _ rfl) rfl ?_
  refine s_callO (y := y_M_numeral) (Y' := Y_M_numeral) (as := [VR (some 382), VI a1, VI a2]) (r := fun q => some (VI q.1)) (M' := fun q => q.2) (kInvV (dt_M_after 8 _ _ _ rfl) kin_M_numeral 1 rfl (sc_382 hS) kse_M_numeral rfl) kl_M_275 md_M_numeral rfl rfl (fun q hq => c_M_numeral hS a1 a2 q2 q hq) (fun q3 => ?_)
  exact s_iret (dt_M_after 9 _ _ _ rfl) rfl rfl
theorem c_M_after {S : KS} (hS : KExt 435 S)  (a0 : Int) (a1 : Int) (a2 : Int) (M : KM) : ∀ q, f_M_after a0 a1 a2 M = some q → Ctr y_M_after Y_M_after [VR (some 382), VJ a0, VI a1, VI a2] S M (some (VI q.1)) S (q.2) := fun q hq =>
  ctr_of md_M_after (Nat.le_of_ble_eq_true rfl) ⟨Nat.le_refl _, Nat.le_refl _⟩ 0 hq rfl (fun _ G => sim_M_after hS  a0 a1 a2 M)
noncomputable def f_M_isFull  (M : KM) : Option (Int) := Option.bind (f_M_isWord 1634166131 M) (fun q1 => (if q1 = 0 then Option.bind (f_M_isWord 123581014175598 M) (fun q2 => (if q2 = 0 then Option.bind (f_M_isWord 112641580559972 M) (fun q3 => (if q3 = 0 then Option.bind (f_M_isWord 491394656372 M) (fun q4 => (if q4 = 0 then Option.bind (f_M_isWord 1868850291 M) (fun q5 => (if q5 = 0 then Option.bind (f_M_isWord 1685217655 M) (fun q6 => Option.bind ((if q6 = 0 then some 1 else (if 0 ≤ M 382 38 ∧ M 382 38 < 2 then (if M 402 (M 382 38).toNat = 0 then some 0 else some 1) else none)) : Option (Int)) (fun t7 => (if 0 ≤ t7 ∧ t7 ≤ 1 then some t7 else none))) else (if 0 ≤ w32 ((w32 (7 * (M 382 38))) + 6) ∧ w32 ((w32 (7 * (M 382 38))) + 6) < 14 then (if 0 ≤ M 403 (w32 ((w32 (7 * (M 382 38))) + 6)).toNat ∧ M 403 (w32 ((w32 (7 * (M 382 38))) + 6)).toNat ≤ 1 then some (M 403 (w32 ((w32 (7 * (M 382 38))) + 6)).toNat) else none) else none))) else (if 0 ≤ M 382 38 ∧ M 382 38 < 2 then Option.bind ((if M 387 (M 382 38).toNat = 6 then some 1 else some 0) : Option (Int)) (fun t8 => (if 0 ≤ t8 ∧ t8 ≤ 1 then some t8 else none)) else none))) else (if 0 ≤ M 382 38 ∧ M 382 38 < 2 then Option.bind ((if M 386 (M 382 38).toNat = 20 then some 1 else some 0) : Option (Int)) (fun t9 => (if 0 ≤ t9 ∧ t9 ≤ 1 then some t9 else none)) else none))) else (if 0 ≤ M 382 38 ∧ M 382 38 < 2 then Option.bind ((if M 385 (M 382 38).toNat = 8 then some 1 else some 0) : Option (Int)) (fun t10 => (if 0 ≤ t10 ∧ t10 ≤ 1 then some t10 else none)) else none))) else (if 0 ≤ M 382 38 ∧ M 382 38 < 2 then Option.bind ((if M 392 (M 382 38).toNat ≤ 0 then some 0 else some 1) : Option (Int)) (fun t11 => (if 0 ≤ t11 ∧ t11 ≤ 1 then some t11 else none)) else none)))
set_option maxRecDepth 100000 in
theorem sim_M_isFull {G : Gam} {S : KS} (hS : KExt 435 S)   (M : KM) : Sim G Y_M_isFull (f_M_isFull  M) (kC 0 [some (VR (some 382))] [] S M) (fun (q : Int) => Sum.inr (some (VI q), S, M)) := by
  unfold f_M_isFull
  refine s_aload_n (dt_M_isFull 0 _ _ _ rfl) rfl ?_
  refine s_ldc2 (n := 1634166131) (kc_M_208) (dt_M_isFull 1 _ _ _ rfl) rfl ?_
  refine s_callO (y := y_M_isWord) (Y' := Y_M_isWord) (as := [VR (some 382), VJ 1634166131]) (r := fun q => some (VI q)) (M' := fun q => M) (kInvV (dt_M_isFull 2 _ _ _ rfl) kin_M_isWord 1 rfl (sc_382 hS) kse_M_isWord rfl) kl_M_268 md_M_isWord rfl rfl (fun q hq => c_M_isWord hS 1634166131 M q hq) (fun q1 => ?_)
  refine s_if_eq (tgt := 28) (dt_M_isFull 3 _ _ _ rfl) rfl ?_ ?_
  · refine s_aload_n (dt_M_isFull 14 _ _ _ rfl) rfl ?_
    refine s_ldc2 (n := 123581014175598) (kc_M_188) (dt_M_isFull 15 _ _ _ rfl) rfl ?_
    refine s_callO (y := y_M_isWord) (Y' := Y_M_isWord) (as := [VR (some 382), VJ 123581014175598]) (r := fun q => some (VI q)) (M' := fun q => M) (kInvV (dt_M_isFull 16 _ _ _ rfl) kin_M_isWord 1 rfl (sc_382 hS) kse_M_isWord rfl) kl_M_268 md_M_isWord rfl rfl (fun q hq => c_M_isWord hS 123581014175598 M q hq) (fun q2 => ?_)
    refine s_if_eq (tgt := 58) (dt_M_isFull 17 _ _ _ rfl) rfl ?_ ?_
    · refine s_aload_n (dt_M_isFull 29 _ _ _ rfl) rfl ?_
      refine s_ldc2 (n := 112641580559972) (kc_M_198) (dt_M_isFull 30 _ _ _ rfl) rfl ?_
      refine s_callO (y := y_M_isWord) (Y' := Y_M_isWord) (as := [VR (some 382), VJ 112641580559972]) (r := fun q => some (VI q)) (M' := fun q => M) (kInvV (dt_M_isFull 31 _ _ _ rfl) kin_M_isWord 1 rfl (sc_382 hS) kse_M_isWord rfl) kl_M_268 md_M_isWord rfl rfl (fun q hq => c_M_isWord hS 112641580559972 M q hq) (fun q3 => ?_)
      refine s_if_eq (tgt := 88) (dt_M_isFull 32 _ _ _ rfl) rfl ?_ ?_
      · refine s_aload_n (dt_M_isFull 44 _ _ _ rfl) rfl ?_
        refine s_ldc2 (n := 491394656372) (kc_M_204) (dt_M_isFull 45 _ _ _ rfl) rfl ?_
        refine s_callO (y := y_M_isWord) (Y' := Y_M_isWord) (as := [VR (some 382), VJ 491394656372]) (r := fun q => some (VI q)) (M' := fun q => M) (kInvV (dt_M_isFull 46 _ _ _ rfl) kin_M_isWord 1 rfl (sc_382 hS) kse_M_isWord rfl) kl_M_268 md_M_isWord rfl rfl (fun q hq => c_M_isWord hS 491394656372 M q hq) (fun q4 => ?_)
        refine s_if_eq (tgt := 118) (dt_M_isFull 47 _ _ _ rfl) rfl ?_ ?_
        · refine s_aload_n (dt_M_isFull 59 _ _ _ rfl) rfl ?_
          refine s_ldc2 (n := 1868850291) (kc_M_206) (dt_M_isFull 60 _ _ _ rfl) rfl ?_
          refine s_callO (y := y_M_isWord) (Y' := Y_M_isWord) (as := [VR (some 382), VJ 1868850291]) (r := fun q => some (VI q)) (M' := fun q => M) (kInvV (dt_M_isFull 61 _ _ _ rfl) kin_M_isWord 1 rfl (sc_382 hS) kse_M_isWord rfl) kl_M_268 md_M_isWord rfl rfl (fun q hq => c_M_isWord hS 1868850291 M q hq) (fun q5 => ?_)
          refine s_if_eq (tgt := 144) (dt_M_isFull 62 _ _ _ rfl) rfl ?_ ?_
          · refine s_aload_n (dt_M_isFull 73 _ _ _ rfl) rfl ?_
            refine s_ldc2 (n := 1685217655) (kc_M_210) (dt_M_isFull 74 _ _ _ rfl) rfl ?_
            refine s_callO (y := y_M_isWord) (Y' := Y_M_isWord) (as := [VR (some 382), VJ 1685217655]) (r := fun q => some (VI q)) (M' := fun q => M) (kInvV (dt_M_isFull 75 _ _ _ rfl) kin_M_isWord 1 rfl (sc_382 hS) kse_M_isWord rfl) kl_M_268 md_M_isWord rfl rfl (fun q hq => c_M_isWord hS 1685217655 M q hq) (fun q6 => ?_)
            refine s_bd (κ := fun t7 => kC 171 [none] [VI t7] S M) ?_ (fun t7 => ?_)
            · refine s_if_eq (tgt := 166) (dt_M_isFull 76 _ _ _ rfl) rfl ?_ ?_
              · refine s_iconst (dt_M_isFull 83 _ _ _ rfl) rfl ?_
                refine s_goto (tgt := 171) (dt_M_isFull 84 _ _ _ rfl) rfl ?_
                exact s_mask [false] (s_ret0 rfl)
              · refine s_aload_n (dt_M_isFull 77 _ _ _ rfl) rfl ?_
                refine s_getR (o := (some 402)) (dt_M_isFull 78 _ _ _ rfl) (kf_M_72) (sc_382 hS) rfl rfl ?_
                refine s_aload_n (dt_M_isFull 79 _ _ _ rfl) rfl ?_
                refine s_getI (dt_M_isFull 80 _ _ _ rfl) (kf_M_279) (sc_382 hS) rfl ?_
                refine s_zald (N := 2) (dt_M_isFull 81 _ _ _ rfl) (sc_402 hS) rfl ?_
                refine s_if_eq (tgt := 170) (dt_M_isFull 82 _ _ _ rfl) rfl ?_ ?_
                · refine s_iconst (dt_M_isFull 85 _ _ _ rfl) rfl ?_
                  exact s_mask [false] (s_ret0 rfl)
                · refine s_iconst (dt_M_isFull 83 _ _ _ rfl) rfl ?_
                  refine s_goto (tgt := 171) (dt_M_isFull 84 _ _ _ rfl) rfl ?_
                  exact s_mask [false] (s_ret0 rfl)
            exact s_zret (dt_M_isFull 86 _ _ _ rfl) rfl rfl
          · refine s_aload_n (dt_M_isFull 63 _ _ _ rfl) rfl ?_
            refine s_getR (o := (some 403)) (dt_M_isFull 64 _ _ _ rfl) (kf_M_76) (sc_382 hS) rfl rfl ?_
            refine s_bipush (dt_M_isFull 65 _ _ _ rfl) rfl ?_
            refine s_aload_n (dt_M_isFull 66 _ _ _ rfl) rfl ?_
            refine s_getI (dt_M_isFull 67 _ _ _ rfl) (kf_M_279) (sc_382 hS) rfl ?_
            refine s_imul (dt_M_isFull 68 _ _ _ rfl) ?_
            refine s_bipush (dt_M_isFull 69 _ _ _ rfl) rfl ?_
            refine s_iadd (dt_M_isFull 70 _ _ _ rfl) ?_
            refine s_zald (N := 14) (dt_M_isFull 71 _ _ _ rfl) (sc_403 hS) rfl ?_
            exact s_zret (dt_M_isFull 72 _ _ _ rfl) rfl rfl
        · refine s_aload_n (dt_M_isFull 48 _ _ _ rfl) rfl ?_
          refine s_getR (o := (some 387)) (dt_M_isFull 49 _ _ _ rfl) (kf_M_27) (sc_382 hS) rfl rfl ?_
          refine s_aload_n (dt_M_isFull 50 _ _ _ rfl) rfl ?_
          refine s_getI (dt_M_isFull 51 _ _ _ rfl) (kf_M_279) (sc_382 hS) rfl ?_
          refine s_iald (N := 2) (dt_M_isFull 52 _ _ _ rfl) (sc_387 hS) rfl ?_
          refine s_bipush (dt_M_isFull 53 _ _ _ rfl) rfl ?_
          refine s_bd (κ := fun t8 => kC 117 [none] [VI t8] S M) ?_ (fun t8 => ?_)
          · refine s_if_icmp_ne (tgt := 116) (dt_M_isFull 54 _ _ _ rfl) rfl ?_ ?_
            · refine s_iconst (dt_M_isFull 55 _ _ _ rfl) rfl ?_
              refine s_goto (tgt := 117) (dt_M_isFull 56 _ _ _ rfl) rfl ?_
              exact s_mask [false] (s_ret0 rfl)
            · refine s_iconst (dt_M_isFull 57 _ _ _ rfl) rfl ?_
              exact s_mask [false] (s_ret0 rfl)
          exact s_zret (dt_M_isFull 58 _ _ _ rfl) rfl rfl
      · refine s_aload_n (dt_M_isFull 33 _ _ _ rfl) rfl ?_
        refine s_getR (o := (some 386)) (dt_M_isFull 34 _ _ _ rfl) (kf_M_24) (sc_382 hS) rfl rfl ?_
        refine s_aload_n (dt_M_isFull 35 _ _ _ rfl) rfl ?_
        refine s_getI (dt_M_isFull 36 _ _ _ rfl) (kf_M_279) (sc_382 hS) rfl ?_
        refine s_iald (N := 2) (dt_M_isFull 37 _ _ _ rfl) (sc_386 hS) rfl ?_
        refine s_bipush (dt_M_isFull 38 _ _ _ rfl) rfl ?_
        refine s_bd (κ := fun t9 => kC 87 [none] [VI t9] S M) ?_ (fun t9 => ?_)
        · refine s_if_icmp_ne (tgt := 86) (dt_M_isFull 39 _ _ _ rfl) rfl ?_ ?_
          · refine s_iconst (dt_M_isFull 40 _ _ _ rfl) rfl ?_
            refine s_goto (tgt := 87) (dt_M_isFull 41 _ _ _ rfl) rfl ?_
            exact s_mask [false] (s_ret0 rfl)
          · refine s_iconst (dt_M_isFull 42 _ _ _ rfl) rfl ?_
            exact s_mask [false] (s_ret0 rfl)
        exact s_zret (dt_M_isFull 43 _ _ _ rfl) rfl rfl
    · refine s_aload_n (dt_M_isFull 18 _ _ _ rfl) rfl ?_
      refine s_getR (o := (some 385)) (dt_M_isFull 19 _ _ _ rfl) (kf_M_20) (sc_382 hS) rfl rfl ?_
      refine s_aload_n (dt_M_isFull 20 _ _ _ rfl) rfl ?_
      refine s_getI (dt_M_isFull 21 _ _ _ rfl) (kf_M_279) (sc_382 hS) rfl ?_
      refine s_iald (N := 2) (dt_M_isFull 22 _ _ _ rfl) (sc_385 hS) rfl ?_
      refine s_bipush (dt_M_isFull 23 _ _ _ rfl) rfl ?_
      refine s_bd (κ := fun t10 => kC 57 [none] [VI t10] S M) ?_ (fun t10 => ?_)
      · refine s_if_icmp_ne (tgt := 56) (dt_M_isFull 24 _ _ _ rfl) rfl ?_ ?_
        · refine s_iconst (dt_M_isFull 25 _ _ _ rfl) rfl ?_
          refine s_goto (tgt := 57) (dt_M_isFull 26 _ _ _ rfl) rfl ?_
          exact s_mask [false] (s_ret0 rfl)
        · refine s_iconst (dt_M_isFull 27 _ _ _ rfl) rfl ?_
          exact s_mask [false] (s_ret0 rfl)
      exact s_zret (dt_M_isFull 28 _ _ _ rfl) rfl rfl
  · refine s_aload_n (dt_M_isFull 4 _ _ _ rfl) rfl ?_
    refine s_getR (o := (some 392)) (dt_M_isFull 5 _ _ _ rfl) (kf_M_42) (sc_382 hS) rfl rfl ?_
    refine s_aload_n (dt_M_isFull 6 _ _ _ rfl) rfl ?_
    refine s_getI (dt_M_isFull 7 _ _ _ rfl) (kf_M_279) (sc_382 hS) rfl ?_
    refine s_iald (N := 2) (dt_M_isFull 8 _ _ _ rfl) (sc_392 hS) rfl ?_
    refine s_bd (κ := fun t11 => kC 27 [none] [VI t11] S M) ?_ (fun t11 => ?_)
    · refine s_if_le (tgt := 26) (dt_M_isFull 9 _ _ _ rfl) rfl ?_ ?_
      · refine s_iconst (dt_M_isFull 12 _ _ _ rfl) rfl ?_
        exact s_mask [false] (s_ret0 rfl)
      · refine s_iconst (dt_M_isFull 10 _ _ _ rfl) rfl ?_
        refine s_goto (tgt := 27) (dt_M_isFull 11 _ _ _ rfl) rfl ?_
        exact s_mask [false] (s_ret0 rfl)
    exact s_zret (dt_M_isFull 13 _ _ _ rfl) rfl rfl
theorem c_M_isFull {S : KS} (hS : KExt 435 S)   (M : KM) : ∀ q, f_M_isFull  M = some q → Ctr y_M_isFull Y_M_isFull [VR (some 382)] S M (some (VI q)) S (M) := fun q hq =>
  ctr_of md_M_isFull (Nat.le_of_ble_eq_true rfl) ⟨Nat.le_refl _, Nat.le_refl _⟩ 0 hq rfl (fun _ G => sim_M_isFull hS   M)
noncomputable def f_M_isSignHere (a0 : Int) (M : KM) : Option (Int) := Option.bind ((if M 382 8 = 5 then Option.bind (f_M_sign (M 382 6) M) (fun q1 => (if q1 = a0 then some 1 else some 0)) else some 0) : Option (Int)) (fun t2 => (if 0 ≤ t2 ∧ t2 ≤ 1 then some t2 else none))
set_option maxRecDepth 100000 in
theorem sim_M_isSignHere {G : Gam} {S : KS} (hS : KExt 435 S)  (a0 : Int) (M : KM) : Sim G Y_M_isSignHere (f_M_isSignHere a0 M) (kC 0 [some (VR (some 382)), some (VI a0)] [] S M) (fun (q : Int) => Sum.inr (some (VI q), S, M)) := by
  unfold f_M_isSignHere
  refine s_aload_n (dt_M_isSignHere 0 _ _ _ rfl) rfl ?_
  refine s_getI (dt_M_isSignHere 1 _ _ _ rfl) (kf_M_230) (sc_382 hS) rfl ?_
  refine s_iconst (dt_M_isSignHere 2 _ _ _ rfl) rfl ?_
  refine s_bd (κ := fun t2 => kC 25 [none, none] [VI t2] S M) ?_ (fun t2 => ?_)
  · refine s_if_icmp_ne (tgt := 24) (dt_M_isSignHere 3 _ _ _ rfl) rfl ?_ ?_
    · refine s_aload_n (dt_M_isSignHere 4 _ _ _ rfl) rfl ?_
      refine s_aload_n (dt_M_isSignHere 5 _ _ _ rfl) rfl ?_
      refine s_getI (dt_M_isSignHere 6 _ _ _ rfl) (kf_M_223) (sc_382 hS) rfl ?_
      refine s_callO (y := y_M_sign) (Y' := Y_M_sign) (as := [VR (some 382), VI (M 382 6)]) (r := fun q => some (VI q)) (M' := fun q => M) (kInvV (dt_M_isSignHere 7 _ _ _ rfl) kin_M_sign 1 rfl (sc_382 hS) kse_M_sign rfl) kl_M_226 md_M_sign rfl rfl (fun q hq => c_M_sign hS (M 382 6) M q hq) (fun q1 => ?_)
      refine s_iload_n (dt_M_isSignHere 8 _ _ _ rfl) rfl ?_
      refine s_if_icmp_ne (tgt := 24) (dt_M_isSignHere 9 _ _ _ rfl) rfl ?_ ?_
      · refine s_iconst (dt_M_isSignHere 10 _ _ _ rfl) rfl ?_
        refine s_goto (tgt := 25) (dt_M_isSignHere 11 _ _ _ rfl) rfl ?_
        exact s_mask [false, false] (s_ret0 rfl)
      · refine s_iconst (dt_M_isSignHere 12 _ _ _ rfl) rfl ?_
        exact s_mask [false, false] (s_ret0 rfl)
    · refine s_iconst (dt_M_isSignHere 12 _ _ _ rfl) rfl ?_
      exact s_mask [false, false] (s_ret0 rfl)
  exact s_zret (dt_M_isSignHere 13 _ _ _ rfl) rfl rfl
theorem c_M_isSignHere {S : KS} (hS : KExt 435 S)  (a0 : Int) (M : KM) : ∀ q, f_M_isSignHere a0 M = some q → Ctr y_M_isSignHere Y_M_isSignHere [VR (some 382), VI a0] S M (some (VI q)) S (M) := fun q hq =>
  ctr_of md_M_isSignHere (Nat.le_of_ble_eq_true rfl) ⟨Nat.le_refl _, Nat.le_refl _⟩ 0 hq rfl (fun _ G => sim_M_isSignHere hS  a0 M)
noncomputable def f_M_areFriends (a0 : Int) (a1 : Int) (M : KM) : Option (Int) := Option.bind (whileO (σ := Int) (ε := Unit ⊕ Unit) (fun s1 => (if 0 ≤ M 382 38 ∧ M 382 38 < 2 then (if s1 < M 386 (M 382 38).toNat then (if 0 ≤ w32 ((w32 (20 * (M 382 38))) + s1) ∧ w32 ((w32 (20 * (M 382 38))) + s1) < 40 then (if M 397 (w32 ((w32 (20 * (M 382 38))) + s1)).toNat = a0 then (if 0 ≤ w32 ((w32 (20 * (M 382 38))) + s1) ∧ w32 ((w32 (20 * (M 382 38))) + s1) < 40 then (if M 398 (w32 ((w32 (20 * (M 382 38))) + s1)).toNat = a1 then some (Sum.inr (Sum.inl ())) else some (Sum.inl (w32 (s1 + 1)))) else none) else some (Sum.inl (w32 (s1 + 1)))) else none) else some (Sum.inr (Sum.inr ()))) else none)) 0) (Sum.elim (fun e2 => some 1) (fun e3 => some 0))
set_option maxRecDepth 100000 in
theorem sim_M_areFriends {G : Gam} {S : KS} (hS : KExt 435 S)  (a0 : Int) (a1 : Int) (M : KM) : Sim G Y_M_areFriends (f_M_areFriends a0 a1 M) (kC 0 [some (VR (some 382)), some (VI a0), some (VI a1), none] [] S M) (fun (q : Int) => Sum.inr (some (VI q), S, M)) := by
  unfold f_M_areFriends
  refine s_iconst (dt_M_areFriends 0 _ _ _ rfl) rfl ?_
  refine s_istore_n (dt_M_areFriends 1 _ _ _ rfl) rfl ?_
  refine s_bd (κ := (Sum.elim (fun (e2 : Unit) => kC 51 [none, none, none, none] [] S M) (fun (e3 : Unit) => kC 59 [none, none, none, none] [] S M))) (s_mask [true, true, true, true] (s_while (c := fun s1 => kC 2 [some (VR (some 382)), some (VI a0), some (VI a1), some (VI s1)] [] S M) (fun s1 => ?_) 0)) ?_
  · refine s_iload_n (dt_M_areFriends 2 _ _ _ rfl) rfl ?_
    refine s_aload_n (dt_M_areFriends 3 _ _ _ rfl) rfl ?_
    refine s_getR (o := (some 386)) (dt_M_areFriends 4 _ _ _ rfl) (kf_M_24) (sc_382 hS) rfl rfl ?_
    refine s_aload_n (dt_M_areFriends 5 _ _ _ rfl) rfl ?_
    refine s_getI (dt_M_areFriends 6 _ _ _ rfl) (kf_M_279) (sc_382 hS) rfl ?_
    refine s_iald (N := 2) (dt_M_areFriends 7 _ _ _ rfl) (sc_386 hS) rfl ?_
    refine s_if_icmp_ge (tgt := 59) (dt_M_areFriends 8 _ _ _ rfl) rfl ?_ ?_
    · refine s_aload_n (dt_M_areFriends 9 _ _ _ rfl) rfl ?_
      refine s_getR (o := (some 397)) (dt_M_areFriends 10 _ _ _ rfl) (kf_M_57) (sc_382 hS) rfl rfl ?_
      refine s_bipush (dt_M_areFriends 11 _ _ _ rfl) rfl ?_
      refine s_aload_n (dt_M_areFriends 12 _ _ _ rfl) rfl ?_
      refine s_getI (dt_M_areFriends 13 _ _ _ rfl) (kf_M_279) (sc_382 hS) rfl ?_
      refine s_imul (dt_M_areFriends 14 _ _ _ rfl) ?_
      refine s_iload_n (dt_M_areFriends 15 _ _ _ rfl) rfl ?_
      refine s_iadd (dt_M_areFriends 16 _ _ _ rfl) ?_
      refine s_iald (N := 40) (dt_M_areFriends 17 _ _ _ rfl) (sc_397 hS) rfl ?_
      refine s_iload_n (dt_M_areFriends 18 _ _ _ rfl) rfl ?_
      refine s_if_icmp_ne (tgt := 53) (dt_M_areFriends 19 _ _ _ rfl) rfl ?_ ?_
      · refine s_aload_n (dt_M_areFriends 20 _ _ _ rfl) rfl ?_
        refine s_getR (o := (some 398)) (dt_M_areFriends 21 _ _ _ rfl) (kf_M_60) (sc_382 hS) rfl rfl ?_
        refine s_bipush (dt_M_areFriends 22 _ _ _ rfl) rfl ?_
        refine s_aload_n (dt_M_areFriends 23 _ _ _ rfl) rfl ?_
        refine s_getI (dt_M_areFriends 24 _ _ _ rfl) (kf_M_279) (sc_382 hS) rfl ?_
        refine s_imul (dt_M_areFriends 25 _ _ _ rfl) ?_
        refine s_iload_n (dt_M_areFriends 26 _ _ _ rfl) rfl ?_
        refine s_iadd (dt_M_areFriends 27 _ _ _ rfl) ?_
        refine s_iald (N := 40) (dt_M_areFriends 28 _ _ _ rfl) (sc_398 hS) rfl ?_
        refine s_iload_n (dt_M_areFriends 29 _ _ _ rfl) rfl ?_
        refine s_if_icmp_ne (tgt := 53) (dt_M_areFriends 30 _ _ _ rfl) rfl ?_ ?_
        · exact s_mask [false, false, false, false] (s_ret0 rfl)
        · refine s_iinc (dt_M_areFriends 33 _ _ _ rfl) rfl rfl ?_
          refine s_goto (tgt := 2) (dt_M_areFriends 34 _ _ _ rfl) rfl ?_
          exact s_mask [true, true, true, true] (s_ret0 rfl)
      · refine s_iinc (dt_M_areFriends 33 _ _ _ rfl) rfl rfl ?_
        refine s_goto (tgt := 2) (dt_M_areFriends 34 _ _ _ rfl) rfl ?_
        exact s_mask [true, true, true, true] (s_ret0 rfl)
    · exact s_mask [false, false, false, false] (s_ret0 rfl)
  refine s_elim (fun e2 => ?_) ?_
  · refine s_iconst (dt_M_areFriends 31 _ _ _ rfl) rfl ?_
    exact s_zret01 (dt_M_areFriends 32 _ _ _ rfl) rfl rfl rfl
  intro e3
  refine s_iconst (dt_M_areFriends 35 _ _ _ rfl) rfl ?_
  exact s_zret01 (dt_M_areFriends 36 _ _ _ rfl) rfl rfl rfl
theorem c_M_areFriends {S : KS} (hS : KExt 435 S)  (a0 : Int) (a1 : Int) (M : KM) : ∀ q, f_M_areFriends a0 a1 M = some q → Ctr y_M_areFriends Y_M_areFriends [VR (some 382), VI a0, VI a1] S M (some (VI q)) S (M) := fun q hq =>
  ctr_of md_M_areFriends (Nat.le_of_ble_eq_true rfl) ⟨Nat.le_refl _, Nat.le_refl _⟩ 1 hq rfl (fun _ G => sim_M_areFriends hS  a0 a1 M)
noncomputable def f_M_here (a1 : Int) (a2 : Int) (M : KM) : Option (Int) := Option.bind (whileO (σ := Int) (ε := Int ⊕ Unit) (fun s1 => (if s1 < a2 then (if M 382 8 = 2 then (if 0 ≤ w32 (a1 + s1) ∧ w32 (a1 + s1) < 16 then (if klcmp (M 404 (w32 (a1 + s1)).toNat) (M 382 10) = 0 then some (Sum.inr (Sum.inl s1)) else some (Sum.inl (w32 (s1 + 1)))) else none) else some (Sum.inl (w32 (s1 + 1)))) else some (Sum.inr (Sum.inr ())))) 0) (Sum.elim (fun e2 => some e2) (fun e3 => some (-1)))
set_option maxRecDepth 100000 in
theorem sim_M_here {G : Gam} {S : KS} (hS : KExt 435 S)  (a1 : Int) (a2 : Int) (M : KM) : Sim G Y_M_here (f_M_here a1 a2 M) (kC 0 [some (VR (some 382)), some (VR (some 404)), some (VI a1), some (VI a2), none] [] S M) (fun (q : Int) => Sum.inr (some (VI q), S, M)) := by
  unfold f_M_here
  refine s_iconst (dt_M_here 0 _ _ _ rfl) rfl ?_
  refine s_istore (dt_M_here 1 _ _ _ rfl) rfl ?_
  refine s_bd (κ := (Sum.elim (fun (e2 : Int) => kC 31 [none, none, none, none, some (VI e2)] [] S M) (fun (e3 : Unit) => kC 40 [none, none, none, none, none] [] S M))) (s_mask [true, true, true, true, true] (s_while (c := fun s1 => kC 3 [some (VR (some 382)), some (VR (some 404)), some (VI a1), some (VI a2), some (VI s1)] [] S M) (fun s1 => ?_) 0)) ?_
  · refine s_iload (dt_M_here 2 _ _ _ rfl) rfl ?_
    refine s_iload_n (dt_M_here 3 _ _ _ rfl) rfl ?_
    refine s_if_icmp_ge (tgt := 40) (dt_M_here 4 _ _ _ rfl) rfl ?_ ?_
    · refine s_aload_n (dt_M_here 5 _ _ _ rfl) rfl ?_
      refine s_getI (dt_M_here 6 _ _ _ rfl) (kf_M_230) (sc_382 hS) rfl ?_
      refine s_iconst (dt_M_here 7 _ _ _ rfl) rfl ?_
      refine s_if_icmp_ne (tgt := 34) (dt_M_here 8 _ _ _ rfl) rfl ?_ ?_
      · refine s_aload_n (dt_M_here 9 _ _ _ rfl) rfl ?_
        refine s_iload_n (dt_M_here 10 _ _ _ rfl) rfl ?_
        refine s_iload (dt_M_here 11 _ _ _ rfl) rfl ?_
        refine s_iadd (dt_M_here 12 _ _ _ rfl) ?_
        refine s_lald (N := 16) (dt_M_here 13 _ _ _ rfl) (sc_404 hS) rfl ?_
        refine s_aload_n (dt_M_here 14 _ _ _ rfl) rfl ?_
        refine s_getJ (dt_M_here 15 _ _ _ rfl) (kf_M_237) (sc_382 hS) rfl ?_
        refine s_lcmp (dt_M_here 16 _ _ _ rfl) ?_
        refine s_if_ne (tgt := 34) (dt_M_here 17 _ _ _ rfl) rfl ?_ ?_
        · exact s_mask [false, false, false, false, true] (s_ret0 rfl)
        · refine s_iinc (dt_M_here 20 _ _ _ rfl) rfl rfl ?_
          refine s_goto (tgt := 3) (dt_M_here 21 _ _ _ rfl) rfl ?_
          exact s_mask [true, true, true, true, true] (s_ret0 rfl)
      · refine s_iinc (dt_M_here 20 _ _ _ rfl) rfl rfl ?_
        refine s_goto (tgt := 3) (dt_M_here 21 _ _ _ rfl) rfl ?_
        exact s_mask [true, true, true, true, true] (s_ret0 rfl)
    · exact s_mask [false, false, false, false, false] (s_ret0 rfl)
  refine s_elim (fun e2 => ?_) ?_
  · refine s_iload (dt_M_here 18 _ _ _ rfl) rfl ?_
    exact s_iret (dt_M_here 19 _ _ _ rfl) rfl rfl
  intro e3
  refine s_iconst (dt_M_here 22 _ _ _ rfl) rfl ?_
  exact s_iret (dt_M_here 23 _ _ _ rfl) rfl rfl
theorem c_M_here {S : KS} (hS : KExt 435 S)  (a1 : Int) (a2 : Int) (M : KM) : ∀ q, f_M_here a1 a2 M = some q → Ctr y_M_here Y_M_here [VR (some 382), VR (some 404), VI a1, VI a2] S M (some (VI q)) S (M) := fun q hq =>
  ctr_of md_M_here (Nat.le_of_ble_eq_true rfl) ⟨Nat.le_refl _, Nat.le_refl _⟩ 1 hq rfl (fun _ G => sim_M_here hS  a1 a2 M)
noncomputable def f_M_personHere  (M : KM) : Option (Int) := (if 0 ≤ M 382 38 ∧ M 382 38 < 2 then Option.bind (f_M_here (w32 (8 * (M 382 38))) (M 385 (M 382 38).toNat) M) (fun q1 => some q1) else none)
set_option maxRecDepth 100000 in
theorem sim_M_personHere {G : Gam} {S : KS} (hS : KExt 435 S)   (M : KM) : Sim G Y_M_personHere (f_M_personHere  M) (kC 0 [some (VR (some 382))] [] S M) (fun (q : Int) => Sum.inr (some (VI q), S, M)) := by
  unfold f_M_personHere
  refine s_aload_n (dt_M_personHere 0 _ _ _ rfl) rfl ?_
  refine s_aload_n (dt_M_personHere 1 _ _ _ rfl) rfl ?_
  refine s_getR (o := (some 404)) (dt_M_personHere 2 _ _ _ rfl) (kf_M_79) (sc_382 hS) rfl rfl ?_
  refine s_bipush (dt_M_personHere 3 _ _ _ rfl) rfl ?_
  refine s_aload_n (dt_M_personHere 4 _ _ _ rfl) rfl ?_
  refine s_getI (dt_M_personHere 5 _ _ _ rfl) (kf_M_279) (sc_382 hS) rfl ?_
  refine s_imul (dt_M_personHere 6 _ _ _ rfl) ?_
  refine s_aload_n (dt_M_personHere 7 _ _ _ rfl) rfl ?_
  refine s_getR (o := (some 385)) (dt_M_personHere 8 _ _ _ rfl) (kf_M_20) (sc_382 hS) rfl rfl ?_
  refine s_aload_n (dt_M_personHere 9 _ _ _ rfl) rfl ?_
  refine s_getI (dt_M_personHere 10 _ _ _ rfl) (kf_M_279) (sc_382 hS) rfl ?_
  refine s_iald (N := 2) (dt_M_personHere 11 _ _ _ rfl) (sc_385 hS) rfl ?_
  refine s_callO (y := y_M_here) (Y' := Y_M_here) (as := [VR (some 382), VR (some 404), VI (w32 (8 * (M 382 38))), VI (M 385 (M 382 38).toNat)]) (r := fun q => some (VI q)) (M' := fun q => M) (kInvV (dt_M_personHere 12 _ _ _ rfl) kin_M_here 1 rfl (sc_382 hS) kse_M_here rfl) kl_M_317 md_M_here rfl rfl (fun q hq => c_M_here hS (w32 (8 * (M 382 38))) (M 385 (M 382 38).toNat) M q hq) (fun q1 => ?_)
  exact s_iret (dt_M_personHere 13 _ _ _ rfl) rfl rfl
theorem c_M_personHere {S : KS} (hS : KExt 435 S)   (M : KM) : ∀ q, f_M_personHere  M = some q → Ctr y_M_personHere Y_M_personHere [VR (some 382)] S M (some (VI q)) S (M) := fun q hq =>
  ctr_of md_M_personHere (Nat.le_of_ble_eq_true rfl) ⟨Nat.le_refl _, Nat.le_refl _⟩ 0 hq rfl (fun _ G => sim_M_personHere hS   M)
noncomputable def f_M_known  (M : KM) : Option (Int × KM) := Option.bind (f_M_isGood M) (fun q1 => (if q1 = 0 then some (0, M) else Option.bind (f_M_personHere M) (fun q2 => Option.bind ((if M 382 8 = 2 then (if q2 < 0 then Option.bind (f_M_fails 5 (M 382 6) M) (fun q3 => some q3) else some M) else Option.bind (f_M_misplaced M) (fun q4 => some q4)) : Option (KM)) (fun t5 => Option.bind ((if q2 < 0 then some 0 else some q2) : Option (Int)) (fun t6 => some (t6, t5))))))
set_option maxRecDepth 100000 in
theorem sim_M_known {G : Gam} {S : KS} (hS : KExt 435 S)   (M : KM) : Sim G Y_M_known (f_M_known  M) (kC 0 [some (VR (some 382)), none] [] S M) (fun (q : Int × KM) => Sum.inr (some (VI q.1), S, q.2)) := by
  unfold f_M_known
  refine s_aload_n (dt_M_known 0 _ _ _ rfl) rfl ?_
  refine s_callO (y := y_M_isGood) (Y' := Y_M_isGood) (as := [VR (some 382)]) (r := fun q => some (VI q)) (M' := fun q => M) (kInvV (dt_M_known 1 _ _ _ rfl) kin_M_isGood 1 rfl (sc_382 hS) kse_M_isGood rfl) kl_M_258 md_M_isGood rfl rfl (fun q hq => c_M_isGood hS M q hq) (fun q1 => ?_)
  refine s_if_ne (tgt := 9) (dt_M_known 2 _ _ _ rfl) rfl ?_ ?_
  · refine s_iconst (dt_M_known 3 _ _ _ rfl) rfl ?_
    exact s_iret (dt_M_known 4 _ _ _ rfl) rfl rfl
  · refine s_aload_n (dt_M_known 5 _ _ _ rfl) rfl ?_
    refine s_callO (y := y_M_personHere) (Y' := Y_M_personHere) (as := [VR (some 382)]) (r := fun q => some (VI q)) (M' := fun q => M) (kInvV (dt_M_known 6 _ _ _ rfl) kin_M_personHere 1 rfl (sc_382 hS) kse_M_personHere rfl) kl_M_321 md_M_personHere rfl rfl (fun q hq => c_M_personHere hS M q hq) (fun q2 => ?_)
    refine s_istore_n (dt_M_known 7 _ _ _ rfl) rfl ?_
    refine s_aload_n (dt_M_known 8 _ _ _ rfl) rfl ?_
    refine s_getI (dt_M_known 9 _ _ _ rfl) (kf_M_230) (sc_382 hS) rfl ?_
    refine s_iconst (dt_M_known 10 _ _ _ rfl) rfl ?_
    refine s_bd (κ := fun t5 => kC 42 [none, some (VI q2)] [] S t5) ?_ (fun t5 => ?_)
    · refine s_if_icmp_eq (tgt := 29) (dt_M_known 11 _ _ _ rfl) rfl ?_ ?_
      · refine s_iload_n (dt_M_known 15 _ _ _ rfl) rfl ?_
        refine s_if_ge (tgt := 42) (dt_M_known 16 _ _ _ rfl) rfl ?_ ?_
        · refine s_aload_n (dt_M_known 17 _ _ _ rfl) rfl ?_
          refine s_iconst (dt_M_known 18 _ _ _ rfl) rfl ?_
          refine s_aload_n (dt_M_known 19 _ _ _ rfl) rfl ?_
          refine s_getI (dt_M_known 20 _ _ _ rfl) (kf_M_223) (sc_382 hS) rfl ?_
          refine s_callO (y := y_M_fails) (Y' := Y_M_fails) (as := [VR (some 382), VI 5, VI (M 382 6)]) (r := fun q => none) (M' := fun q => q) (kInvV (dt_M_known 21 _ _ _ rfl) kin_M_fails 1 rfl (sc_382 hS) kse_M_fails rfl) kl_M_254 md_M_fails rfl rfl (fun q hq => c_M_fails hS 5 (M 382 6) M q hq) (fun q3 => ?_)
          exact s_mask [false, true] (s_ret0 rfl)
        · exact s_mask [false, true] (s_ret0 rfl)
      · refine s_aload_n (dt_M_known 12 _ _ _ rfl) rfl ?_
        refine s_callO (y := y_M_misplaced) (Y' := Y_M_misplaced) (as := [VR (some 382)]) (r := fun q => none) (M' := fun q => q) (kInvV (dt_M_known 13 _ _ _ rfl) kin_M_misplaced 1 rfl (sc_382 hS) kse_M_misplaced rfl) kl_M_265 md_M_misplaced rfl rfl (fun q hq => c_M_misplaced hS M q hq) (fun q4 => ?_)
        refine s_goto (tgt := 42) (dt_M_known 14 _ _ _ rfl) rfl ?_
        exact s_mask [false, true] (s_ret0 rfl)
    refine s_iload_n (dt_M_known 22 _ _ _ rfl) rfl ?_
    refine s_bd (κ := fun t6 => kC 51 [none, none] [VI t6] S t5) ?_ (fun t6 => ?_)
    · refine s_if_ge (tgt := 50) (dt_M_known 23 _ _ _ rfl) rfl ?_ ?_
      · refine s_iconst (dt_M_known 24 _ _ _ rfl) rfl ?_
        refine s_goto (tgt := 51) (dt_M_known 25 _ _ _ rfl) rfl ?_
        exact s_mask [false, false] (s_ret0 rfl)
      · refine s_iload_n (dt_M_known 26 _ _ _ rfl) rfl ?_
        exact s_mask [false, false] (s_ret0 rfl)
    exact s_iret (dt_M_known 27 _ _ _ rfl) rfl rfl
theorem c_M_known {S : KS} (hS : KExt 435 S)   (M : KM) : ∀ q, f_M_known  M = some q → Ctr y_M_known Y_M_known [VR (some 382)] S M (some (VI q.1)) S (q.2) := fun q hq =>
  ctr_of md_M_known (Nat.le_of_ble_eq_true rfl) ⟨Nat.le_refl _, Nat.le_refl _⟩ 1 hq rfl (fun _ G => sim_M_known hS   M)
noncomputable def f_M_readFriend  (M : KM) : Option (KM) := (if 0 ≤ M 382 38 ∧ M 382 38 < 2 then letI_ (w32 ((w32 (20 * (M 382 38))) + (M 386 (M 382 38).toNat))) (fun v1 => Option.bind (f_M_known M) (fun q2 => Option.bind (f_M_isGood q2.2) (fun q3 => Option.bind ((if q3 = 0 then some q2.2 else Option.bind (f_M_goOn q2.2) (fun q4 => some q4)) : Option (KM)) (fun t5 => Option.bind (f_M_isWord 29807 t5) (fun q6 => Option.bind (f_M_must q6 t5) (fun q7 => Option.bind (f_M_known q7) (fun q8 => Option.bind (f_M_isGood q8.2) (fun q9 => Option.bind ((if q9 = 0 then some q8.2 else (if q2.1 = q8.1 then Option.bind (f_M_fails 3 (q8.2 382 6) q8.2) (fun q10 => some q10) else Option.bind (f_M_areFriends q2.1 q8.1 q8.2) (fun q11 => (if q11 = 0 then some q8.2 else Option.bind (f_M_fails 3 (q8.2 382 6) q8.2) (fun q12 => some q12))))) : Option (KM)) (fun t13 => Option.bind (f_M_isGood t13) (fun q14 => Option.bind ((if q14 = 0 then some t13 else Option.bind (f_M_goOn t13) (fun q15 => some q15)) : Option (KM)) (fun t16 => (if 0 ≤ v1 ∧ v1 < 40 then letM_ (mupd t16 397 (v1).toNat q2.1) (fun M17 => (if 0 ≤ v1 ∧ v1 < 40 then letM_ (mupd M17 398 (v1).toNat q8.1) (fun M18 => Option.bind (f_M_after 482955846501 0 99 M18) (fun q19 => (if 0 ≤ v1 ∧ v1 < 40 then letM_ (mupd q19.2 399 (v1).toNat q19.1) (fun M20 => (if 0 ≤ M20 382 38 ∧ M20 382 38 < 2 then (if 0 ≤ M20 382 38 ∧ M20 382 38 < 2 then letM_ (mupd M20 386 (M20 382 38).toNat (w32 ((M20 386 (M20 382 38).toNat) + 1))) (fun M21 => some M21) else none) else none)) else none))) else none)) else none)))))))))))) else none)
set_option maxRecDepth 100000 in
theorem sim_M_readFriend {G : Gam} {S : KS} (hS : KExt 435 S)   (M : KM) : Sim G Y_M_readFriend (f_M_readFriend  M) (kC 0 [some (VR (some 382)), none, none, none] [] S M) (fun (q : KM) => Sum.inr (none, S, q)) := by
  unfold f_M_readFriend
  refine s_bipush (dt_M_readFriend 0 _ _ _ rfl) rfl ?_
  refine s_aload_n (dt_M_readFriend 1 _ _ _ rfl) rfl ?_
  refine s_getI (dt_M_readFriend 2 _ _ _ rfl) (kf_M_279) (sc_382 hS) rfl ?_
  refine s_imul (dt_M_readFriend 3 _ _ _ rfl) ?_
  refine s_aload_n (dt_M_readFriend 4 _ _ _ rfl) rfl ?_
  refine s_getR (o := (some 386)) (dt_M_readFriend 5 _ _ _ rfl) (kf_M_24) (sc_382 hS) rfl rfl ?_
  refine s_aload_n (dt_M_readFriend 6 _ _ _ rfl) rfl ?_
  refine s_getI (dt_M_readFriend 7 _ _ _ rfl) (kf_M_279) (sc_382 hS) rfl ?_
  refine s_iald (N := 2) (dt_M_readFriend 8 _ _ _ rfl) (sc_386 hS) rfl ?_
  refine s_iadd (dt_M_readFriend 9 _ _ _ rfl) ?_
  refine s_letI (fun v1 => ?_)
  refine s_istore_n (dt_M_readFriend 10 _ _ _ rfl) rfl ?_
  refine s_aload_n (dt_M_readFriend 11 _ _ _ rfl) rfl ?_
  refine s_callO (y := y_M_known) (Y' := Y_M_known) (as := [VR (some 382)]) (r := fun q => some (VI q.1)) (M' := fun q => q.2) (kInvV (dt_M_readFriend 12 _ _ _ rfl) kin_M_known 1 rfl (sc_382 hS) kse_M_known rfl) kl_M_329 md_M_known rfl rfl (fun q hq => c_M_known hS M q hq) (fun q2 => ?_)
  refine s_istore_n (dt_M_readFriend 13 _ _ _ rfl) rfl ?_
  refine s_aload_n (dt_M_readFriend 14 _ _ _ rfl) rfl ?_
  refine s_callO (y := y_M_isGood) (Y' := Y_M_isGood) (as := [VR (some 382)]) (r := fun q => some (VI q)) (M' := fun q => q2.2) (kInvV (dt_M_readFriend 15 _ _ _ rfl) kin_M_isGood 1 rfl (sc_382 hS) kse_M_isGood rfl) kl_M_258 md_M_isGood rfl rfl (fun q hq => c_M_isGood hS q2.2 q hq) (fun q3 => ?_)
  refine s_bd (κ := fun t5 => kC 34 [some (VR (some 382)), some (VI v1), some (VI q2.1), none] [] S t5) ?_ (fun t5 => ?_)
  · refine s_if_eq (tgt := 34) (dt_M_readFriend 16 _ _ _ rfl) rfl ?_ ?_
    · exact s_mask [true, true, true, false] (s_ret0 rfl)
    · refine s_aload_n (dt_M_readFriend 17 _ _ _ rfl) rfl ?_
      refine s_callO (y := y_M_goOn) (Y' := Y_M_goOn) (as := [VR (some 382)]) (r := fun q => none) (M' := fun q => q) (kInvV (dt_M_readFriend 18 _ _ _ rfl) kin_M_goOn 1 rfl (sc_382 hS) kse_M_goOn rfl) kl_M_262 md_M_goOn rfl rfl (fun q hq => c_M_goOn hS q2.2 q hq) (fun q4 => ?_)
      exact s_mask [true, true, true, false] (s_ret0 rfl)
  refine s_aload_n (dt_M_readFriend 19 _ _ _ rfl) rfl ?_
  refine s_aload_n (dt_M_readFriend 20 _ _ _ rfl) rfl ?_
  refine s_ldc2 (n := 29807) (kc_M_200) (dt_M_readFriend 21 _ _ _ rfl) rfl ?_
  refine s_callO (y := y_M_isWord) (Y' := Y_M_isWord) (as := [VR (some 382), VJ 29807]) (r := fun q => some (VI q)) (M' := fun q => t5) (kInvV (dt_M_readFriend 22 _ _ _ rfl) kin_M_isWord 1 rfl (sc_382 hS) kse_M_isWord rfl) kl_M_268 md_M_isWord rfl rfl (fun q hq => c_M_isWord hS 29807 t5 q hq) (fun q6 => ?_)
  refine s_callO (y := y_M_must) (Y' := Y_M_must) (as := [VR (some 382), VI q6]) (r := fun q => none) (M' := fun q => q) (kInvV (dt_M_readFriend 23 _ _ _ rfl) kin_M_must 1 rfl (sc_382 hS) kse_M_must rfl) kl_M_271 md_M_must rfl rfl (fun q hq => c_M_must hS q6 t5 q hq) (fun q7 => ?_)
  refine s_aload_n (dt_M_readFriend 24 _ _ _ rfl) rfl ?_
  refine s_callO (y := y_M_known) (Y' := Y_M_known) (as := [VR (some 382)]) (r := fun q => some (VI q.1)) (M' := fun q => q.2) (kInvV (dt_M_readFriend 25 _ _ _ rfl) kin_M_known 1 rfl (sc_382 hS) kse_M_known rfl) kl_M_329 md_M_known rfl rfl (fun q hq => c_M_known hS q7 q hq) (fun q8 => ?_)
  refine s_istore_n (dt_M_readFriend 26 _ _ _ rfl) rfl ?_
  refine s_aload_n (dt_M_readFriend 27 _ _ _ rfl) rfl ?_
  refine s_callO (y := y_M_isGood) (Y' := Y_M_isGood) (as := [VR (some 382)]) (r := fun q => some (VI q)) (M' := fun q => q8.2) (kInvV (dt_M_readFriend 28 _ _ _ rfl) kin_M_isGood 1 rfl (sc_382 hS) kse_M_isGood rfl) kl_M_258 md_M_isGood rfl rfl (fun q hq => c_M_isGood hS q8.2 q hq) (fun q9 => ?_)
  refine s_bd (κ := fun t13 => kC 80 [some (VR (some 382)), some (VI v1), some (VI q2.1), some (VI q8.1)] [] S t13) ?_ (fun t13 => ?_)
  · refine s_if_eq (tgt := 80) (dt_M_readFriend 29 _ _ _ rfl) rfl ?_ ?_
    · exact s_mask [true, true, true, true] (s_ret0 rfl)
    · refine s_iload_n (dt_M_readFriend 30 _ _ _ rfl) rfl ?_
      refine s_iload_n (dt_M_readFriend 31 _ _ _ rfl) rfl ?_
      refine s_if_icmp_eq (tgt := 71) (dt_M_readFriend 32 _ _ _ rfl) rfl ?_ ?_
      · refine s_aload_n (dt_M_readFriend 38 _ _ _ rfl) rfl ?_
        refine s_iconst (dt_M_readFriend 39 _ _ _ rfl) rfl ?_
        refine s_aload_n (dt_M_readFriend 40 _ _ _ rfl) rfl ?_
        refine s_getI (dt_M_readFriend 41 _ _ _ rfl) (kf_M_223) (sc_382 hS) rfl ?_
        refine s_callO (y := y_M_fails) (Y' := Y_M_fails) (as := [VR (some 382), VI 3, VI (q8.2 382 6)]) (r := fun q => none) (M' := fun q => q) (kInvV (dt_M_readFriend 42 _ _ _ rfl) kin_M_fails 1 rfl (sc_382 hS) kse_M_fails rfl) kl_M_254 md_M_fails rfl rfl (fun q hq => c_M_fails hS 3 (q8.2 382 6) q8.2 q hq) (fun q10 => ?_)
        exact s_mask [true, true, true, true] (s_ret0 rfl)
      · refine s_aload_n (dt_M_readFriend 33 _ _ _ rfl) rfl ?_
        refine s_iload_n (dt_M_readFriend 34 _ _ _ rfl) rfl ?_
        refine s_iload_n (dt_M_readFriend 35 _ _ _ rfl) rfl ?_
        refine s_callO (y := y_M_areFriends) (Y' := Y_M_areFriends) (as := [VR (some 382), VI q2.1, VI q8.1]) (r := fun q => some (VI q)) (M' := fun q => q8.2) (kInvV (dt_M_readFriend 36 _ _ _ rfl) kin_M_areFriends 1 rfl (sc_382 hS) kse_M_areFriends rfl) kl_M_332 md_M_areFriends rfl rfl (fun q hq => c_M_areFriends hS q2.1 q8.1 q8.2 q hq) (fun q11 => ?_)
        refine s_if_eq (tgt := 80) (dt_M_readFriend 37 _ _ _ rfl) rfl ?_ ?_
        · exact s_mask [true, true, true, true] (s_ret0 rfl)
        · refine s_aload_n (dt_M_readFriend 38 _ _ _ rfl) rfl ?_
          refine s_iconst (dt_M_readFriend 39 _ _ _ rfl) rfl ?_
          refine s_aload_n (dt_M_readFriend 40 _ _ _ rfl) rfl ?_
          refine s_getI (dt_M_readFriend 41 _ _ _ rfl) (kf_M_223) (sc_382 hS) rfl ?_
          refine s_callO (y := y_M_fails) (Y' := Y_M_fails) (as := [VR (some 382), VI 3, VI (q8.2 382 6)]) (r := fun q => none) (M' := fun q => q) (kInvV (dt_M_readFriend 42 _ _ _ rfl) kin_M_fails 1 rfl (sc_382 hS) kse_M_fails rfl) kl_M_254 md_M_fails rfl rfl (fun q hq => c_M_fails hS 3 (q8.2 382 6) q8.2 q hq) (fun q12 => ?_)
          exact s_mask [true, true, true, true] (s_ret0 rfl)
  refine s_aload_n (dt_M_readFriend 43 _ _ _ rfl) rfl ?_
  refine s_callO (y := y_M_isGood) (Y' := Y_M_isGood) (as := [VR (some 382)]) (r := fun q => some (VI q)) (M' := fun q => t13) (kInvV (dt_M_readFriend 44 _ _ _ rfl) kin_M_isGood 1 rfl (sc_382 hS) kse_M_isGood rfl) kl_M_258 md_M_isGood rfl rfl (fun q hq => c_M_isGood hS t13 q hq) (fun q14 => ?_)
  refine s_bd (κ := fun t16 => kC 91 [some (VR (some 382)), some (VI v1), some (VI q2.1), some (VI q8.1)] [] S t16) ?_ (fun t16 => ?_)
  · refine s_if_eq (tgt := 91) (dt_M_readFriend 45 _ _ _ rfl) rfl ?_ ?_
    · exact s_mask [true, true, true, true] (s_ret0 rfl)
    · refine s_aload_n (dt_M_readFriend 46 _ _ _ rfl) rfl ?_
      refine s_callO (y := y_M_goOn) (Y' := Y_M_goOn) (as := [VR (some 382)]) (r := fun q => none) (M' := fun q => q) (kInvV (dt_M_readFriend 47 _ _ _ rfl) kin_M_goOn 1 rfl (sc_382 hS) kse_M_goOn rfl) kl_M_262 md_M_goOn rfl rfl (fun q hq => c_M_goOn hS t13 q hq) (fun q15 => ?_)
      exact s_mask [true, true, true, true] (s_ret0 rfl)
  refine s_aload_n (dt_M_readFriend 48 _ _ _ rfl) rfl ?_
  refine s_getR (o := (some 397)) (dt_M_readFriend 49 _ _ _ rfl) (kf_M_57) (sc_382 hS) rfl rfl ?_
  refine s_iload_n (dt_M_readFriend 50 _ _ _ rfl) rfl ?_
  refine s_iload_n (dt_M_readFriend 51 _ _ _ rfl) rfl ?_
  refine s_iast (N := 40) (dt_M_readFriend 52 _ _ _ rfl) (sc_397 hS) rfl ?_
  refine s_letM (fun M17 => ?_)
  refine s_aload_n (dt_M_readFriend 53 _ _ _ rfl) rfl ?_
  refine s_getR (o := (some 398)) (dt_M_readFriend 54 _ _ _ rfl) (kf_M_60) (sc_382 hS) rfl rfl ?_
  refine s_iload_n (dt_M_readFriend 55 _ _ _ rfl) rfl ?_
  refine s_iload_n (dt_M_readFriend 56 _ _ _ rfl) rfl ?_
  refine s_iast (N := 40) (dt_M_readFriend 57 _ _ _ rfl) (sc_398 hS) rfl ?_
  refine s_letM (fun M18 => ?_)
  refine s_aload_n (dt_M_readFriend 58 _ _ _ rfl) rfl ?_
  refine s_getR (o := (some 399)) (dt_M_readFriend 59 _ _ _ rfl) (kf_M_63) (sc_382 hS) rfl rfl ?_
  refine s_iload_n (dt_M_readFriend 60 _ _ _ rfl) rfl ?_
  refine s_aload_n (dt_M_readFriend 61 _ _ _ rfl) rfl ?_
  refine s_ldc2 (n := 482955846501) (kc_M_202) (dt_M_readFriend 62 _ _ _ rfl) rfl ?_
  refine s_iconst (dt_M_readFriend 63 _ _ _ rfl) rfl ?_
  refine s_bipush (dt_M_readFriend 64 _ _ _ rfl) rfl ?_
  refine s_callO (y := y_M_after) (Y' := Y_M_after) (as := [VR (some 382), VJ 482955846501, VI 0, VI 99]) (r := fun q => some (VI q.1)) (M' := fun q => q.2) (kInvV (dt_M_readFriend 65 _ _ _ rfl) kin_M_after 1 rfl (sc_382 hS) kse_M_after rfl) kl_M_297 md_M_after rfl rfl (fun q hq => c_M_after hS 482955846501 0 99 M18 q hq) (fun q19 => ?_)
  refine s_iast (N := 40) (dt_M_readFriend 66 _ _ _ rfl) (sc_399 hS) rfl ?_
  refine s_letM (fun M20 => ?_)
  refine s_aload_n (dt_M_readFriend 67 _ _ _ rfl) rfl ?_
  refine s_getR (o := (some 386)) (dt_M_readFriend 68 _ _ _ rfl) (kf_M_24) (sc_382 hS) rfl rfl ?_
  refine s_aload_n (dt_M_readFriend 69 _ _ _ rfl) rfl ?_
  refine s_getI (dt_M_readFriend 70 _ _ _ rfl) (kf_M_279) (sc_382 hS) rfl ?_
  refine s_dup2 (dt_M_readFriend 71 _ _ _ rfl) rfl rfl ?_
  refine s_iald (N := 2) (dt_M_readFriend 72 _ _ _ rfl) (sc_386 hS) rfl ?_
  refine s_iconst (dt_M_readFriend 73 _ _ _ rfl) rfl ?_
  refine s_iadd (dt_M_readFriend 74 _ _ _ rfl) ?_
  refine s_iast (N := 2) (dt_M_readFriend 75 _ _ _ rfl) (sc_386 hS) rfl ?_
  refine s_letM (fun M21 => ?_)
  exact s_vret (dt_M_readFriend 76 _ _ _ rfl) rfl rfl
theorem c_M_readFriend {S : KS} (hS : KExt 435 S)   (M : KM) : ∀ q, f_M_readFriend  M = some q → Ctr y_M_readFriend Y_M_readFriend [VR (some 382)] S M (none) S (q) := fun q hq =>
  ctr_of md_M_readFriend (Nat.le_of_ble_eq_true rfl) ⟨Nat.le_refl _, Nat.le_refl _⟩ 3 hq rfl (fun _ G => sim_M_readFriend hS   M)
noncomputable def f_M_fresh (a0 : Int) (M : KM) : Option (Int × KM) := Option.bind (f_M_isGood M) (fun q1 => (if q1 = 0 then some (0, M) else Option.bind ((if M 382 8 = 2 then (if a0 < 0 then some M else Option.bind (f_M_fails 3 (M 382 6) M) (fun q2 => some q2)) else Option.bind (f_M_misplaced M) (fun q3 => some q3)) : Option (KM)) (fun t4 => Option.bind (f_M_isGood t4) (fun q5 => Option.bind ((if q5 = 0 then some t4 else Option.bind (f_M_goOn t4) (fun q6 => some q6)) : Option (KM)) (fun t7 => some (t4 382 10, t7))))))
set_option maxRecDepth 100000 in
theorem sim_M_fresh {G : Gam} {S : KS} (hS : KExt 435 S)  (a0 : Int) (M : KM) : Sim G Y_M_fresh (f_M_fresh a0 M) (kC 0 [some (VR (some 382)), some (VI a0), none, none] [] S M) (fun (q : Int × KM) => Sum.inr (some (VJ q.1), S, q.2)) := by
  unfold f_M_fresh
  refine s_aload_n (dt_M_fresh 0 _ _ _ rfl) rfl ?_
  refine s_callO (y := y_M_isGood) (Y' := Y_M_isGood) (as := [VR (some 382)]) (r := fun q => some (VI q)) (M' := fun q => M) (kInvV (dt_M_fresh 1 _ _ _ rfl) kin_M_isGood 1 rfl (sc_382 hS) kse_M_isGood rfl) kl_M_258 md_M_isGood rfl rfl (fun q hq => c_M_isGood hS M q hq) (fun q1 => ?_)
  refine s_if_ne (tgt := 9) (dt_M_fresh 2 _ _ _ rfl) rfl ?_ ?_
  · refine s_lconst0 (dt_M_fresh 3 _ _ _ rfl) ?_
    exact s_lret (dt_M_fresh 4 _ _ _ rfl) rfl rfl
  · refine s_aload_n (dt_M_fresh 5 _ _ _ rfl) rfl ?_
    refine s_getI (dt_M_fresh 6 _ _ _ rfl) (kf_M_230) (sc_382 hS) rfl ?_
    refine s_iconst (dt_M_fresh 7 _ _ _ rfl) rfl ?_
    refine s_bd (κ := fun t4 => kC 37 [some (VR (some 382)), none, none, none] [] S t4) ?_ (fun t4 => ?_)
    · refine s_if_icmp_eq (tgt := 24) (dt_M_fresh 8 _ _ _ rfl) rfl ?_ ?_
      · refine s_iload_n (dt_M_fresh 12 _ _ _ rfl) rfl ?_
        refine s_if_lt (tgt := 37) (dt_M_fresh 13 _ _ _ rfl) rfl ?_ ?_
        · exact s_mask [true, false, false, false] (s_ret0 rfl)
        · refine s_aload_n (dt_M_fresh 14 _ _ _ rfl) rfl ?_
          refine s_iconst (dt_M_fresh 15 _ _ _ rfl) rfl ?_
          refine s_aload_n (dt_M_fresh 16 _ _ _ rfl) rfl ?_
          refine s_getI (dt_M_fresh 17 _ _ _ rfl) (kf_M_223) (sc_382 hS) rfl ?_
          refine s_callO (y := y_M_fails) (Y' := Y_M_fails) (as := [VR (some 382), VI 3, VI (M 382 6)]) (r := fun q => none) (M' := fun q => q) (kInvV (dt_M_fresh 18 _ _ _ rfl) kin_M_fails 1 rfl (sc_382 hS) kse_M_fails rfl) kl_M_254 md_M_fails rfl rfl (fun q hq => c_M_fails hS 3 (M 382 6) M q hq) (fun q2 => ?_)
          exact s_mask [true, false, false, false] (s_ret0 rfl)
      · refine s_aload_n (dt_M_fresh 9 _ _ _ rfl) rfl ?_
        refine s_callO (y := y_M_misplaced) (Y' := Y_M_misplaced) (as := [VR (some 382)]) (r := fun q => none) (M' := fun q => q) (kInvV (dt_M_fresh 10 _ _ _ rfl) kin_M_misplaced 1 rfl (sc_382 hS) kse_M_misplaced rfl) kl_M_265 md_M_misplaced rfl rfl (fun q hq => c_M_misplaced hS M q hq) (fun q3 => ?_)
        refine s_goto (tgt := 37) (dt_M_fresh 11 _ _ _ rfl) rfl ?_
        exact s_mask [true, false, false, false] (s_ret0 rfl)
    refine s_aload_n (dt_M_fresh 19 _ _ _ rfl) rfl ?_
    refine s_getJ (dt_M_fresh 20 _ _ _ rfl) (kf_M_237) (sc_382 hS) rfl ?_
    refine s_lstore_n (dt_M_fresh 21 _ _ _ rfl) rfl ?_
    refine s_aload_n (dt_M_fresh 22 _ _ _ rfl) rfl ?_
    refine s_callO (y := y_M_isGood) (Y' := Y_M_isGood) (as := [VR (some 382)]) (r := fun q => some (VI q)) (M' := fun q => t4) (kInvV (dt_M_fresh 23 _ _ _ rfl) kin_M_isGood 1 rfl (sc_382 hS) kse_M_isGood rfl) kl_M_258 md_M_isGood rfl rfl (fun q hq => c_M_isGood hS t4 q hq) (fun q5 => ?_)
    refine s_bd (κ := fun t7 => kC 53 [none, none, some (VJ (t4 382 10)), none] [] S t7) ?_ (fun t7 => ?_)
    · refine s_if_eq (tgt := 53) (dt_M_fresh 24 _ _ _ rfl) rfl ?_ ?_
      · exact s_mask [false, false, true, false] (s_ret0 rfl)
      · refine s_aload_n (dt_M_fresh 25 _ _ _ rfl) rfl ?_
        refine s_callO (y := y_M_goOn) (Y' := Y_M_goOn) (as := [VR (some 382)]) (r := fun q => none) (M' := fun q => q) (kInvV (dt_M_fresh 26 _ _ _ rfl) kin_M_goOn 1 rfl (sc_382 hS) kse_M_goOn rfl) kl_M_262 md_M_goOn rfl rfl (fun q hq => c_M_goOn hS t4 q hq) (fun q6 => ?_)
        exact s_mask [false, false, true, false] (s_ret0 rfl)
    refine s_lload_n (dt_M_fresh 27 _ _ _ rfl) rfl ?_
    exact s_lret (dt_M_fresh 28 _ _ _ rfl) rfl rfl
theorem c_M_fresh {S : KS} (hS : KExt 435 S)  (a0 : Int) (M : KM) : ∀ q, f_M_fresh a0 M = some q → Ctr y_M_fresh Y_M_fresh [VR (some 382), VI a0] S M (some (VJ q.1)) S (q.2) := fun q hq =>
  ctr_of md_M_fresh (Nat.le_of_ble_eq_true rfl) ⟨Nat.le_refl _, Nat.le_refl _⟩ 2 hq rfl (fun _ G => sim_M_fresh hS  a0 M)
