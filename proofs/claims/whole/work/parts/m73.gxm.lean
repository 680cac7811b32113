set_option maxRecDepth 100000 in
theorem sim_M_isOf {G : Gam} {S : KS} (hS : KExt 435 S)  (a0 : Int) (a1 : Int) (M : KM) : Sim G Y_M_isOf (f_M_isOf a0 a1 M) (kC 0 [some (VR (some 382)), some (VI a0), some (VI a1)] [] S M) (fun (q : Int) => Sum.inr (some (VI q), S, M)) := by
  unfold f_M_isOf
  refine s_aload_n (dt_M_isOf 0 _ _ _ rfl) rfl ?_
  refine s_iload_n (dt_M_isOf 1 _ _ _ rfl) rfl ?_
  refine s_callO (y := y_M_isAlive) (Y' := Y_M_isAlive) (as := [VR (some 382), VI a0]) (r := fun q => some (VI q)) (M' := fun q => M) (kInvV (dt_M_isOf 2 _ _ _ rfl) kin_M_isAlive 1 rfl (sc_382 hS) kse_M_isAlive rfl) kl_M_404 md_M_isAlive rfl rfl (fun q hq => c_M_isAlive hS a0 M q hq) (fun q1 => ?_)
  refine s_bd (κ := fun t2 => kC 31 [none, none, none] [VI t2] S M) ?_ (fun t2 => ?_)
  · refine s_if_eq (tgt := 30) (dt_M_isOf 3 _ _ _ rfl) rfl ?_ ?_
    · refine s_iconst (dt_M_isOf 17 _ _ _ rfl) rfl ?_
      exact s_mask [false, false, false] (s_ret0 rfl)
    · refine s_aload_n (dt_M_isOf 4 _ _ _ rfl) rfl ?_
      refine s_getR (c := 1) (j := 22) (o := (some 396)) (dt_M_isOf 5 _ _ _ rfl) (kf_M_54) (sc_382 hS) rfl rfl ?_
      refine s_bipush (dt_M_isOf 6 _ _ _ rfl) rfl ?_
      refine s_aload_n (dt_M_isOf 7 _ _ _ rfl) rfl ?_
      refine s_getI (c := 1) (j := 37) (dt_M_isOf 8 _ _ _ rfl) (kf_M_288) (sc_382 hS) rfl ?_
      refine s_imul (dt_M_isOf 9 _ _ _ rfl) ?_
      refine s_iload_n (dt_M_isOf 10 _ _ _ rfl) rfl ?_
      refine s_iadd (dt_M_isOf 11 _ _ _ rfl) ?_
      refine s_iald (N := 16) (dt_M_isOf 12 _ _ _ rfl) (sc_396 hS) rfl ?_
      refine s_iload_n (dt_M_isOf 13 _ _ _ rfl) rfl ?_
      refine s_if_icmp_ne (tgt := 30) (dt_M_isOf 14 _ _ _ rfl) rfl ?_ ?_
      · refine s_iconst (dt_M_isOf 15 _ _ _ rfl) rfl ?_
        refine s_goto (tgt := 31) (dt_M_isOf 16 _ _ _ rfl) rfl ?_
        exact s_mask [false, false, false] (s_ret0 rfl)
      · refine s_iconst (dt_M_isOf 17 _ _ _ rfl) rfl ?_
        exact s_mask [false, false, false] (s_ret0 rfl)
  exact s_zret (dt_M_isOf 18 _ _ _ rfl) rfl rfl
theorem c_M_isOf {S : KS} (hS : KExt 435 S)  (a0 : Int) (a1 : Int) (M : KM) : ∀ q, f_M_isOf a0 a1 M = some q → Ctr y_M_isOf Y_M_isOf [VR (some 382), VI a0, VI a1] S M (some (VI q)) S (M) := fun q hq =>
  ctr_of md_M_isOf (Nat.le_of_ble_eq_true rfl) ⟨Nat.le_refl _, Nat.le_refl _⟩ 0 hq rfl (fun _ G => sim_M_isOf hS  a0 a1 M)
set_option maxRecDepth 100000 in
theorem sim_M_aheadOf {G : Gam} {S : KS} (hS : KExt 435 S)  (a0 : Int) (a1 : Int) (M : KM) : Sim G Y_M_aheadOf (f_M_aheadOf a0 a1 M) (kC 0 [some (VR (some 382)), some (VI a0), some (VI a1), none, none] [] S M) (fun (q : Int) => Sum.inr (some (VI q), S, M)) := by
  unfold f_M_aheadOf
  refine s_iconst (dt_M_aheadOf 0 _ _ _ rfl) rfl ?_
  refine s_istore_n (dt_M_aheadOf 1 _ _ _ rfl) rfl ?_
  refine s_iconst (dt_M_aheadOf 2 _ _ _ rfl) rfl ?_
  refine s_istore (dt_M_aheadOf 3 _ _ _ rfl) rfl ?_
  refine s_bd (κ := (fun (e5 : Int) => kC 79 [none, none, none, some (VI e5), none] [] S M)) (s_mask [true, true, true, true, true] (s_while (c := fun s1 => kC 5 [some (VR (some 382)), some (VI a0), some (VI a1), some (VI s1.1), some (VI s1.2)] [] S M) (fun s1 => ?_) ((0 : Int), (0 : Int)))) ?_
  · refine s_iload (dt_M_aheadOf 4 _ _ _ rfl) rfl ?_
    refine s_aload_n (dt_M_aheadOf 5 _ _ _ rfl) rfl ?_
    refine s_callO (y := y_M_many) (Y' := Y_M_many) (as := [VR (some 382)]) (r := fun q => some (VI q)) (M' := fun q => M) (kInvV (dt_M_aheadOf 6 _ _ _ rfl) kin_M_many 1 rfl (sc_382 hS) kse_M_many rfl) kl_M_385 md_M_many rfl rfl (fun q hq => c_M_many hS M q hq) (fun q2 => ?_)
    refine s_if_icmp_ge (tgt := 79) (dt_M_aheadOf 7 _ _ _ rfl) rfl ?_ ?_
    · refine s_aload_n (dt_M_aheadOf 8 _ _ _ rfl) rfl ?_
      refine s_iload (dt_M_aheadOf 9 _ _ _ rfl) rfl ?_
      refine s_iload_n (dt_M_aheadOf 10 _ _ _ rfl) rfl ?_
      refine s_callO (y := y_M_isOf) (Y' := Y_M_isOf) (as := [VR (some 382), VI s1.2, VI a1]) (r := fun q => some (VI q)) (M' := fun q => M) (kInvV (dt_M_aheadOf 11 _ _ _ rfl) kin_M_isOf 1 rfl (sc_382 hS) kse_M_isOf rfl) kl_M_503 md_M_isOf rfl rfl (fun q hq => c_M_isOf hS s1.2 a1 M q hq) (fun q3 => ?_)
      refine s_bd (κ := fun t4 => kC 73 [some (VR (some 382)), some (VI a0), some (VI a1), some (VI t4), some (VI s1.2)] [] S M) ?_ (fun t4 => ?_)
      · refine s_if_eq (tgt := 73) (dt_M_aheadOf 12 _ _ _ rfl) rfl ?_ ?_
        · exact s_mask [true, true, true, true, true] (s_ret0 rfl)
        · refine s_aload_n (dt_M_aheadOf 13 _ _ _ rfl) rfl ?_
          refine s_getR (c := 1) (j := 46) (o := (some 411)) (dt_M_aheadOf 14 _ _ _ rfl) (kf_M_101) (sc_382 hS) rfl rfl ?_
          refine s_iconst (dt_M_aheadOf 15 _ _ _ rfl) rfl ?_
          refine s_iload (dt_M_aheadOf 16 _ _ _ rfl) rfl ?_
          refine s_iadd (dt_M_aheadOf 17 _ _ _ rfl) ?_
          refine s_iald (N := 171) (dt_M_aheadOf 18 _ _ _ rfl) (sc_411 hS) rfl ?_
          refine s_aload_n (dt_M_aheadOf 19 _ _ _ rfl) rfl ?_
          refine s_getR (c := 1) (j := 46) (o := (some 411)) (dt_M_aheadOf 20 _ _ _ rfl) (kf_M_101) (sc_382 hS) rfl rfl ?_
          refine s_iconst (dt_M_aheadOf 21 _ _ _ rfl) rfl ?_
          refine s_iload_n (dt_M_aheadOf 22 _ _ _ rfl) rfl ?_
          refine s_iadd (dt_M_aheadOf 23 _ _ _ rfl) ?_
          refine s_iald (N := 171) (dt_M_aheadOf 24 _ _ _ rfl) (sc_411 hS) rfl ?_
          refine s_if_icmp_gt (tgt := 70) (dt_M_aheadOf 25 _ _ _ rfl) rfl ?_ ?_
          · refine s_aload_n (dt_M_aheadOf 26 _ _ _ rfl) rfl ?_
            refine s_getR (c := 1) (j := 46) (o := (some 411)) (dt_M_aheadOf 27 _ _ _ rfl) (kf_M_101) (sc_382 hS) rfl rfl ?_
            refine s_iconst (dt_M_aheadOf 28 _ _ _ rfl) rfl ?_
            refine s_iload (dt_M_aheadOf 29 _ _ _ rfl) rfl ?_
            refine s_iadd (dt_M_aheadOf 30 _ _ _ rfl) ?_
            refine s_iald (N := 171) (dt_M_aheadOf 31 _ _ _ rfl) (sc_411 hS) rfl ?_
            refine s_aload_n (dt_M_aheadOf 32 _ _ _ rfl) rfl ?_
            refine s_getR (c := 1) (j := 46) (o := (some 411)) (dt_M_aheadOf 33 _ _ _ rfl) (kf_M_101) (sc_382 hS) rfl rfl ?_
            refine s_iconst (dt_M_aheadOf 34 _ _ _ rfl) rfl ?_
            refine s_iload_n (dt_M_aheadOf 35 _ _ _ rfl) rfl ?_
            refine s_iadd (dt_M_aheadOf 36 _ _ _ rfl) ?_
            refine s_iald (N := 171) (dt_M_aheadOf 37 _ _ _ rfl) (sc_411 hS) rfl ?_
            refine s_if_icmp_ne (tgt := 73) (dt_M_aheadOf 38 _ _ _ rfl) rfl ?_ ?_
            · refine s_iload (dt_M_aheadOf 39 _ _ _ rfl) rfl ?_
              refine s_iload_n (dt_M_aheadOf 40 _ _ _ rfl) rfl ?_
              refine s_if_icmp_ge (tgt := 73) (dt_M_aheadOf 41 _ _ _ rfl) rfl ?_ ?_
              · refine s_iinc (dt_M_aheadOf 42 _ _ _ rfl) rfl rfl ?_
                exact s_mask [true, true, true, true, true] (s_ret0 rfl)
              · exact s_mask [true, true, true, true, true] (s_ret0 rfl)
            · exact s_mask [true, true, true, true, true] (s_ret0 rfl)
          · refine s_iinc (dt_M_aheadOf 42 _ _ _ rfl) rfl rfl ?_
            exact s_mask [true, true, true, true, true] (s_ret0 rfl)
      refine s_iinc (dt_M_aheadOf 43 _ _ _ rfl) rfl rfl ?_
      refine s_goto (tgt := 5) (dt_M_aheadOf 44 _ _ _ rfl) rfl ?_
      exact s_mask [true, true, true, true, true] (s_ret0 rfl)
    · exact s_mask [false, false, false, true, false] (s_ret0 rfl)
  intro e5
  refine s_iload_n (dt_M_aheadOf 45 _ _ _ rfl) rfl ?_
  exact s_iret (dt_M_aheadOf 46 _ _ _ rfl) rfl rfl
theorem c_M_aheadOf {S : KS} (hS : KExt 435 S)  (a0 : Int) (a1 : Int) (M : KM) : ∀ q, f_M_aheadOf a0 a1 M = some q → Ctr y_M_aheadOf Y_M_aheadOf [VR (some 382), VI a0, VI a1] S M (some (VI q)) S (M) := fun q hq =>
  ctr_of md_M_aheadOf (Nat.le_of_ble_eq_true rfl) ⟨Nat.le_refl _, Nat.le_refl _⟩ 2 hq rfl (fun _ G => sim_M_aheadOf hS  a0 a1 M)
set_option maxRecDepth 100000 in
theorem sim_M_fair {G : Gam} {S : KS} (hS : KExt 435 S)  (a0 : Int) (M : KM) : Sim G Y_M_fair (f_M_fair a0 M) (kC 0 [some (VR (some 382)), some (VI a0), none, none, none, none, none] [] S M) (fun (q : Int × KM) => Sum.inr (some (VI q.1), S, q.2)) := by
  unfold f_M_fair
  refine s_aload_n (dt_M_fair 0 _ _ _ rfl) rfl ?_
  refine s_iconst (dt_M_fair 1 _ _ _ rfl) rfl ?_
  refine s_putI (c := 1) (j := 63) (dt_M_fair 2 _ _ _ rfl) kp_M_401 (sc_382 hS) ⟨rfl, rfl⟩ ?_
  refine s_letM (fun M1 => ?_)
  refine s_iload_n (dt_M_fair 3 _ _ _ rfl) rfl ?_
  refine s_iconst (dt_M_fair 4 _ _ _ rfl) rfl ?_
  refine s_iconst (dt_M_fair 5 _ _ _ rfl) rfl ?_
  refine s_callO (y := y_M_isIn) (Y' := Y_M_isIn) (as := [VI a0, VI (0 : Int), VI (3 : Int)]) (r := fun q => some (VI q)) (M' := fun q => M1) (kInvS (dt_M_fair 6 _ _ _ rfl) kst_M_isIn rfl) kl_M_388 md_M_isIn rfl rfl (fun q hq => c_M_isIn hS a0 (0 : Int) (3 : Int) M1 q hq) (fun q2 => ?_)
  refine s_if_ne (tgt := 16) (dt_M_fair 7 _ _ _ rfl) rfl ?_ ?_
  · refine s_iconst (dt_M_fair 8 _ _ _ rfl) rfl ?_
    exact s_iret (dt_M_fair 9 _ _ _ rfl) rfl rfl
  · refine s_iconst (dt_M_fair 10 _ _ _ rfl) rfl ?_
    refine s_istore_n (dt_M_fair 11 _ _ _ rfl) rfl ?_
    refine s_iconst (dt_M_fair 12 _ _ _ rfl) rfl ?_
    refine s_istore_n (dt_M_fair 13 _ _ _ rfl) rfl ?_
    refine s_bd (κ := (fun (e8 : Int) => kC 51 [some (VR (some 382)), some (VI a0), some (VI e8), none, none, none, none] [] S M1)) (s_mask [true, true, true, true, false, false, false] (s_while (c := fun s3 => kC 20 [some (VR (some 382)), some (VI a0), some (VI s3.1), some (VI s3.2), none, none, none] [] S M1) (fun s3 => ?_) ((0 : Int), (0 : Int)))) ?_
    · refine s_iload_n (dt_M_fair 14 _ _ _ rfl) rfl ?_
      refine s_aload_n (dt_M_fair 15 _ _ _ rfl) rfl ?_
      refine s_callO (y := y_M_many) (Y' := Y_M_many) (as := [VR (some 382)]) (r := fun q => some (VI q)) (M' := fun q => M1) (kInvV (dt_M_fair 16 _ _ _ rfl) kin_M_many 1 rfl (sc_382 hS) kse_M_many rfl) kl_M_385 md_M_many rfl rfl (fun q hq => c_M_many hS M1 q hq) (fun q4 => ?_)
      refine s_if_icmp_ge (tgt := 51) (dt_M_fair 17 _ _ _ rfl) rfl ?_ ?_
      · refine s_iload_n (dt_M_fair 18 _ _ _ rfl) rfl ?_
        refine s_aload_n (dt_M_fair 19 _ _ _ rfl) rfl ?_
        refine s_iload_n (dt_M_fair 20 _ _ _ rfl) rfl ?_
        refine s_iload_n (dt_M_fair 21 _ _ _ rfl) rfl ?_
        refine s_callO (y := y_M_isOf) (Y' := Y_M_isOf) (as := [VR (some 382), VI s3.2, VI a0]) (r := fun q => some (VI q)) (M' := fun q => M1) (kInvV (dt_M_fair 22 _ _ _ rfl) kin_M_isOf 1 rfl (sc_382 hS) kse_M_isOf rfl) kl_M_503 md_M_isOf rfl rfl (fun q hq => c_M_isOf hS s3.2 a0 M1 q hq) (fun q5 => ?_)
        refine s_bd (κ := fun t6 => kC 43 [some (VR (some 382)), some (VI a0), none, some (VI s3.2), none, none, none] [VI t6, VI s3.1] S M1) ?_ (fun t6 => ?_)
        · refine s_if_eq (tgt := 42) (dt_M_fair 23 _ _ _ rfl) rfl ?_ ?_
          · refine s_iconst (dt_M_fair 26 _ _ _ rfl) rfl ?_
            exact s_mask [true, true, false, true, false, false, false] (s_ret0 rfl)
          · refine s_iconst (dt_M_fair 24 _ _ _ rfl) rfl ?_
            refine s_goto (tgt := 43) (dt_M_fair 25 _ _ _ rfl) rfl ?_
            exact s_mask [true, true, false, true, false, false, false] (s_ret0 rfl)
        refine s_iadd (dt_M_fair 27 _ _ _ rfl) ?_
        refine s_letI (fun v7 => ?_)
        refine s_istore_n (dt_M_fair 28 _ _ _ rfl) rfl ?_
        refine s_iinc (dt_M_fair 29 _ _ _ rfl) rfl rfl ?_
        refine s_goto (tgt := 20) (dt_M_fair 30 _ _ _ rfl) rfl ?_
        exact s_mask [true, true, true, true, false, false, false] (s_ret0 rfl)
      · exact s_mask [true, true, true, false, false, false, false] (s_ret0 rfl)
    intro e8
    refine s_aload_n (dt_M_fair 31 _ _ _ rfl) rfl ?_
    refine s_iload_n (dt_M_fair 32 _ _ _ rfl) rfl ?_
    refine s_callO (y := y_M_sum) (Y' := Y_M_sum) (as := [VR (some 382), VI a0]) (r := fun q => some (VI q)) (M' := fun q => M1) (kInvV (dt_M_fair 33 _ _ _ rfl) kin_M_sum 1 rfl (sc_382 hS) kse_M_sum rfl) kl_M_506 md_M_sum rfl rfl (fun q hq => c_M_sum hS a0 M1 q hq) (fun q9 => ?_)
    refine s_istore_n (dt_M_fair 34 _ _ _ rfl) rfl ?_
    refine s_iconst (dt_M_fair 35 _ _ _ rfl) rfl ?_
    refine s_istore (dt_M_fair 36 _ _ _ rfl) rfl ?_
    refine s_iconst (dt_M_fair 37 _ _ _ rfl) rfl ?_
    refine s_istore (dt_M_fair 38 _ _ _ rfl) rfl ?_
    refine s_bd (κ := (fun (e21 : Int × KM) => kC 171 [none, none, none, none, some (VI e21.1), none, none] [] S e21.2)) (s_mask [true, true, true, true, true, true, false] (s_while (c := fun s10 => kC 63 [some (VR (some 382)), some (VI a0), some (VI e8), some (VI q9), some (VI s10.1), some (VI s10.2.1), none] [] S s10.2.2) (fun s10 => ?_) ((0 : Int), (0 : Int), M1))) ?_
    · refine s_iload (dt_M_fair 39 _ _ _ rfl) rfl ?_
      refine s_aload_n (dt_M_fair 40 _ _ _ rfl) rfl ?_
      refine s_callO (y := y_M_many) (Y' := Y_M_many) (as := [VR (some 382)]) (r := fun q => some (VI q)) (M' := fun q => s10.2.2) (kInvV (dt_M_fair 41 _ _ _ rfl) kin_M_many 1 rfl (sc_382 hS) kse_M_many rfl) kl_M_385 md_M_many rfl rfl (fun q hq => c_M_many hS s10.2.2 q hq) (fun q11 => ?_)
      refine s_if_icmp_ge (tgt := 171) (dt_M_fair 42 _ _ _ rfl) rfl ?_ ?_
      · refine s_aload_n (dt_M_fair 43 _ _ _ rfl) rfl ?_
        refine s_iload (dt_M_fair 44 _ _ _ rfl) rfl ?_
        refine s_iload_n (dt_M_fair 45 _ _ _ rfl) rfl ?_
        refine s_callO (y := y_M_isOf) (Y' := Y_M_isOf) (as := [VR (some 382), VI s10.2.1, VI a0]) (r := fun q => some (VI q)) (M' := fun q => s10.2.2) (kInvV (dt_M_fair 46 _ _ _ rfl) kin_M_isOf 1 rfl (sc_382 hS) kse_M_isOf rfl) kl_M_503 md_M_isOf rfl rfl (fun q hq => c_M_isOf hS s10.2.1 a0 s10.2.2 q hq) (fun q12 => ?_)
        refine s_bd (κ := fun t20 => kC 165 [some (VR (some 382)), some (VI a0), some (VI e8), some (VI q9), some (VI t20.1), some (VI s10.2.1), none] [] S t20.2) ?_ (fun t20 => ?_)
        · refine s_if_ne (tgt := 85) (dt_M_fair 47 _ _ _ rfl) rfl ?_ ?_
          · refine s_goto (tgt := 165) (dt_M_fair 48 _ _ _ rfl) rfl ?_
            exact s_mask [true, true, true, true, true, true, false] (s_ret0 rfl)
          · refine s_iload_n (dt_M_fair 49 _ _ _ rfl) rfl ?_
            refine s_iload_n (dt_M_fair 50 _ _ _ rfl) rfl ?_
            refine s_idiv (dt_M_fair 51 _ _ _ rfl) ?_
            refine s_aload_n (dt_M_fair 52 _ _ _ rfl) rfl ?_
            refine s_iload (dt_M_fair 53 _ _ _ rfl) rfl ?_
            refine s_iload_n (dt_M_fair 54 _ _ _ rfl) rfl ?_
            refine s_callO (y := y_M_aheadOf) (Y' := Y_M_aheadOf) (as := [VR (some 382), VI s10.2.1, VI a0]) (r := fun q => some (VI q)) (M' := fun q => s10.2.2) (kInvV (dt_M_fair 55 _ _ _ rfl) kin_M_aheadOf 1 rfl (sc_382 hS) kse_M_aheadOf rfl) kl_M_509 md_M_aheadOf rfl rfl (fun q hq => c_M_aheadOf hS s10.2.1 a0 s10.2.2 q hq) (fun q13 => ?_)
            refine s_iload_n (dt_M_fair 56 _ _ _ rfl) rfl ?_
            refine s_iload_n (dt_M_fair 57 _ _ _ rfl) rfl ?_
            refine s_irem (dt_M_fair 58 _ _ _ rfl) ?_
            refine s_bd (κ := fun t14 => kC 106 [some (VR (some 382)), some (VI a0), some (VI e8), some (VI q9), some (VI s10.1), some (VI s10.2.1), none] [VI t14, VI (kdiv q9 e8)] S s10.2.2) ?_ (fun t14 => ?_)
            · refine s_if_icmp_ge (tgt := 105) (dt_M_fair 59 _ _ _ rfl) rfl ?_ ?_
              · refine s_iconst (dt_M_fair 60 _ _ _ rfl) rfl ?_
                refine s_goto (tgt := 106) (dt_M_fair 61 _ _ _ rfl) rfl ?_
                exact s_mask [true, true, true, true, true, true, false] (s_ret0 rfl)
              · refine s_iconst (dt_M_fair 62 _ _ _ rfl) rfl ?_
                exact s_mask [true, true, true, true, true, true, false] (s_ret0 rfl)
            refine s_iadd (dt_M_fair 63 _ _ _ rfl) ?_
            refine s_letI (fun v15 => ?_)
            refine s_istore (dt_M_fair 64 _ _ _ rfl) rfl ?_
            refine s_iload (dt_M_fair 65 _ _ _ rfl) rfl ?_
            refine s_iload (dt_M_fair 66 _ _ _ rfl) rfl ?_
            refine s_aload_n (dt_M_fair 67 _ _ _ rfl) rfl ?_
            refine s_getR (c := 1) (j := 46) (o := (some 411)) (dt_M_fair 68 _ _ _ rfl) (kf_M_101) (sc_382 hS) rfl rfl ?_
            refine s_iconst (dt_M_fair 69 _ _ _ rfl) rfl ?_
            refine s_iload (dt_M_fair 70 _ _ _ rfl) rfl ?_
            refine s_iadd (dt_M_fair 71 _ _ _ rfl) ?_
            refine s_iald (N := 171) (dt_M_fair 72 _ _ _ rfl) (sc_411 hS) rfl ?_
            refine s_bd (κ := fun t16 => kC 141 [some (VR (some 382)), some (VI a0), some (VI e8), some (VI q9), none, some (VI s10.2.1), some (VI v15)] [VI t16, VI s10.1] S s10.2.2) ?_ (fun t16 => ?_)
            · refine s_if_icmp_le (tgt := 140) (dt_M_fair 73 _ _ _ rfl) rfl ?_ ?_
              · refine s_iconst (dt_M_fair 83 _ _ _ rfl) rfl ?_
                exact s_mask [true, true, true, true, false, true, true] (s_ret0 rfl)
              · refine s_iload (dt_M_fair 74 _ _ _ rfl) rfl ?_
                refine s_aload_n (dt_M_fair 75 _ _ _ rfl) rfl ?_
                refine s_getR (c := 1) (j := 46) (o := (some 411)) (dt_M_fair 76 _ _ _ rfl) (kf_M_101) (sc_382 hS) rfl rfl ?_
                refine s_iconst (dt_M_fair 77 _ _ _ rfl) rfl ?_
                refine s_iload (dt_M_fair 78 _ _ _ rfl) rfl ?_
                refine s_iadd (dt_M_fair 79 _ _ _ rfl) ?_
                refine s_iald (N := 171) (dt_M_fair 80 _ _ _ rfl) (sc_411 hS) rfl ?_
                refine s_isub (dt_M_fair 81 _ _ _ rfl) ?_
                refine s_goto (tgt := 141) (dt_M_fair 82 _ _ _ rfl) rfl ?_
                exact s_mask [true, true, true, true, false, true, true] (s_ret0 rfl)
            refine s_iadd (dt_M_fair 84 _ _ _ rfl) ?_
            refine s_letI (fun v17 => ?_)
            refine s_istore (dt_M_fair 85 _ _ _ rfl) rfl ?_
            refine s_aload_n (dt_M_fair 86 _ _ _ rfl) rfl ?_
            refine s_getR (c := 1) (j := 62) (o := (some 424)) (dt_M_fair 87 _ _ _ rfl) (kf_M_143) (sc_382 hS) rfl rfl ?_
            refine s_aload_n (dt_M_fair 88 _ _ _ rfl) rfl ?_
            refine s_getI (c := 1) (j := 63) (dt_M_fair 89 _ _ _ rfl) (kf_M_401) (sc_382 hS) rfl ?_
            refine s_iload (dt_M_fair 90 _ _ _ rfl) rfl ?_
            refine s_iast (N := 8) (dt_M_fair 91 _ _ _ rfl) (sc_424 hS) rfl ?_
            refine s_letM (fun M18 => ?_)
            refine s_aload_n (dt_M_fair 92 _ _ _ rfl) rfl ?_
            refine s_dup (dt_M_fair 93 _ _ _ rfl) rfl ?_
            refine s_getI (c := 1) (j := 63) (dt_M_fair 94 _ _ _ rfl) (kf_M_401) (sc_382 hS) rfl ?_
            refine s_iconst (dt_M_fair 95 _ _ _ rfl) rfl ?_
            refine s_iadd (dt_M_fair 96 _ _ _ rfl) ?_
            refine s_putI (c := 1) (j := 63) (dt_M_fair 97 _ _ _ rfl) kp_M_401 (sc_382 hS) ⟨rfl, rfl⟩ ?_
            refine s_letM (fun M19 => ?_)
            exact s_mask [true, true, true, true, true, true, false] (s_ret0 rfl)
        refine s_iinc (dt_M_fair 98 _ _ _ rfl) rfl rfl ?_
        refine s_goto (tgt := 63) (dt_M_fair 99 _ _ _ rfl) rfl ?_
        exact s_mask [true, true, true, true, true, true, false] (s_ret0 rfl)
      · exact s_mask [false, false, false, false, true, false, false] (s_ret0 rfl)
    intro e21
    refine s_iload (dt_M_fair 100 _ _ _ rfl) rfl ?_
    exact s_iret (dt_M_fair 101 _ _ _ rfl) rfl rfl
theorem c_M_fair {S : KS} (hS : KExt 435 S)  (a0 : Int) (M : KM) : ∀ q, f_M_fair a0 M = some q → Ctr y_M_fair Y_M_fair [VR (some 382), VI a0] S M (some (VI q.1)) S (q.2) := fun q hq =>
  ctr_of md_M_fair (Nat.le_of_ble_eq_true rfl) ⟨Nat.le_refl _, Nat.le_refl _⟩ 5 hq rfl (fun _ G => sim_M_fair hS  a0 M)
set_option maxRecDepth 100000 in
theorem sim_M_all {G : Gam} {S : KS} (hS : KExt 435 S)  (a0 : Int) (a1 : Int) (M : KM) : Sim G Y_M_all (f_M_all a0 a1 M) (kC 0 [some (VR (some 382)), some (VI a0), some (VI a1), none, none, none] [] S M) (fun (q : Int × KM) => Sum.inr (some (VI q.1), S, q.2)) := by
  unfold f_M_all
  refine s_aload_n (dt_M_all 0 _ _ _ rfl) rfl ?_
  refine s_iconst (dt_M_all 1 _ _ _ rfl) rfl ?_
  refine s_putI (c := 1) (j := 63) (dt_M_all 2 _ _ _ rfl) kp_M_401 (sc_382 hS) ⟨rfl, rfl⟩ ?_
  refine s_letM (fun M1 => ?_)
  refine s_aload_n (dt_M_all 3 _ _ _ rfl) rfl ?_
  refine s_iload_n (dt_M_all 4 _ _ _ rfl) rfl ?_
  refine s_callO (y := y_M_isPerson) (Y' := Y_M_isPerson) (as := [VR (some 382), VI a0]) (r := fun q => some (VI q)) (M' := fun q => M1) (kInvV (dt_M_all 5 _ _ _ rfl) kin_M_isPerson 1 rfl (sc_382 hS) kse_M_isPerson rfl) kl_M_413 md_M_isPerson rfl rfl (fun q hq => c_M_isPerson hS a0 M1 q hq) (fun q2 => ?_)
  refine s_if_eq (tgt := 29) (dt_M_all 6 _ _ _ rfl) rfl ?_ ?_
  · refine s_iconst (dt_M_all 15 _ _ _ rfl) rfl ?_
    exact s_iret (dt_M_all 16 _ _ _ rfl) rfl rfl
  · refine s_aload_n (dt_M_all 7 _ _ _ rfl) rfl ?_
    refine s_iload_n (dt_M_all 8 _ _ _ rfl) rfl ?_
    refine s_callO (y := y_M_isRight) (Y' := Y_M_isRight) (as := [VR (some 382), VI a1]) (r := fun q => some (VI q)) (M' := fun q => M1) (kInvV (dt_M_all 9 _ _ _ rfl) kin_M_isRight 1 rfl (sc_382 hS) kse_M_isRight rfl) kl_M_416 md_M_isRight rfl rfl (fun q hq => c_M_isRight hS a1 M1 q hq) (fun q3 => ?_)
    refine s_if_eq (tgt := 29) (dt_M_all 10 _ _ _ rfl) rfl ?_ ?_
    · refine s_iconst (dt_M_all 15 _ _ _ rfl) rfl ?_
      exact s_iret (dt_M_all 16 _ _ _ rfl) rfl rfl
    · refine s_aload_n (dt_M_all 11 _ _ _ rfl) rfl ?_
      refine s_iload_n (dt_M_all 12 _ _ _ rfl) rfl ?_
      refine s_callO (y := y_M_isAlive) (Y' := Y_M_isAlive) (as := [VR (some 382), VI a0]) (r := fun q => some (VI q)) (M' := fun q => M1) (kInvV (dt_M_all 13 _ _ _ rfl) kin_M_isAlive 1 rfl (sc_382 hS) kse_M_isAlive rfl) kl_M_404 md_M_isAlive rfl rfl (fun q hq => c_M_isAlive hS a0 M1 q hq) (fun q4 => ?_)
      refine s_if_ne (tgt := 31) (dt_M_all 14 _ _ _ rfl) rfl ?_ ?_
      · refine s_iconst (dt_M_all 15 _ _ _ rfl) rfl ?_
        exact s_iret (dt_M_all 16 _ _ _ rfl) rfl rfl
      · refine s_iconst (dt_M_all 17 _ _ _ rfl) rfl ?_
        refine s_istore_n (dt_M_all 18 _ _ _ rfl) rfl ?_
        refine s_bd (κ := (fun (e13 : KM) => kC 103 [some (VR (some 382)), some (VI a0), none, none, none, none] [] S e13)) (s_mask [true, true, true, true, false, false] (s_while (c := fun s5 => kC 33 [some (VR (some 382)), some (VI a0), some (VI a1), some (VI s5.1), none, none] [] S s5.2) (fun s5 => ?_) ((0 : Int), M1))) ?_
        · refine s_iload_n (dt_M_all 19 _ _ _ rfl) rfl ?_
          refine s_bipush (dt_M_all 20 _ _ _ rfl) rfl ?_
          refine s_if_icmp_ge (tgt := 103) (dt_M_all 21 _ _ _ rfl) rfl ?_ ?_
          · refine s_aload_n (dt_M_all 22 _ _ _ rfl) rfl ?_
            refine s_getR (c := 1) (j := 64) (o := (some 425)) (dt_M_all 23 _ _ _ rfl) (kf_M_146) (sc_382 hS) rfl rfl ?_
            refine s_iload_n (dt_M_all 24 _ _ _ rfl) rfl ?_
            refine s_iload_n (dt_M_all 25 _ _ _ rfl) rfl ?_
            refine s_aload_n (dt_M_all 26 _ _ _ rfl) rfl ?_
            refine s_callO (y := y_M_many) (Y' := Y_M_many) (as := [VR (some 382)]) (r := fun q => some (VI q)) (M' := fun q => s5.2) (kInvV (dt_M_all 27 _ _ _ rfl) kin_M_many 1 rfl (sc_382 hS) kse_M_many rfl) kl_M_385 md_M_many rfl rfl (fun q hq => c_M_many hS s5.2 q hq) (fun q6 => ?_)
            refine s_bd (κ := fun t11 => kC 96 [some (VR (some 382)), some (VI a0), some (VI a1), some (VI s5.1), none, none] [VI t11.1, VI s5.1, VR (some 425)] S t11.2) ?_ (fun t11 => ?_)
            · refine s_if_icmp_ge (tgt := 95) (dt_M_all 28 _ _ _ rfl) rfl ?_ ?_
              · refine s_iload_n (dt_M_all 29 _ _ _ rfl) rfl ?_
                refine s_iload_n (dt_M_all 30 _ _ _ rfl) rfl ?_
                refine s_if_icmp_eq (tgt := 95) (dt_M_all 31 _ _ _ rfl) rfl ?_ ?_
                · refine s_iconst (dt_M_all 52 _ _ _ rfl) rfl ?_
                  exact s_mask [true, true, true, true, false, false] (s_ret0 rfl)
                · refine s_aload_n (dt_M_all 32 _ _ _ rfl) rfl ?_
                  refine s_iload_n (dt_M_all 33 _ _ _ rfl) rfl ?_
                  refine s_callO (y := y_M_isAlive) (Y' := Y_M_isAlive) (as := [VR (some 382), VI s5.1]) (r := fun q => some (VI q)) (M' := fun q => s5.2) (kInvV (dt_M_all 34 _ _ _ rfl) kin_M_isAlive 1 rfl (sc_382 hS) kse_M_isAlive rfl) kl_M_404 md_M_isAlive rfl rfl (fun q hq => c_M_isAlive hS s5.1 s5.2 q hq) (fun q7 => ?_)
                  refine s_if_eq (tgt := 95) (dt_M_all 35 _ _ _ rfl) rfl ?_ ?_
                  · refine s_iconst (dt_M_all 52 _ _ _ rfl) rfl ?_
                    exact s_mask [true, true, true, true, false, false] (s_ret0 rfl)
                  · refine s_aload_n (dt_M_all 36 _ _ _ rfl) rfl ?_
                    refine s_iload_n (dt_M_all 37 _ _ _ rfl) rfl ?_
                    refine s_iload_n (dt_M_all 38 _ _ _ rfl) rfl ?_
                    refine s_callO (y := y_M_friendsOf) (Y' := Y_M_friendsOf) (as := [VR (some 382), VI a0, VI s5.1]) (r := fun q => some (VI q)) (M' := fun q => s5.2) (kInvV (dt_M_all 39 _ _ _ rfl) kin_M_friendsOf 1 rfl (sc_382 hS) kse_M_friendsOf rfl) kl_M_429 md_M_friendsOf rfl rfl (fun q hq => c_M_friendsOf hS a0 s5.1 s5.2 q hq) (fun q8 => ?_)
                    refine s_if_lt (tgt := 95) (dt_M_all 40 _ _ _ rfl) rfl ?_ ?_
                    · refine s_iconst (dt_M_all 52 _ _ _ rfl) rfl ?_
                      exact s_mask [true, true, true, true, false, false] (s_ret0 rfl)
                    · refine s_aload_n (dt_M_all 41 _ _ _ rfl) rfl ?_
                      refine s_iload_n (dt_M_all 42 _ _ _ rfl) rfl ?_
                      refine s_iload_n (dt_M_all 43 _ _ _ rfl) rfl ?_
                      refine s_callO (y := y_M_doesHave) (Y' := Y_M_doesHave) (as := [VR (some 382), VI s5.1, VI a1]) (r := fun q => some (VI q.1)) (M' := fun q => q.2) (kInvV (dt_M_all 44 _ _ _ rfl) kin_M_doesHave 1 rfl (sc_382 hS) kse_M_doesHave rfl) kl_M_419 md_M_doesHave rfl rfl (fun q hq => c_M_doesHave hS s5.1 a1 s5.2 q hq) (fun q9 => ?_)
                      refine s_if_ne (tgt := 95) (dt_M_all 45 _ _ _ rfl) rfl ?_ ?_
                      · refine s_aload_n (dt_M_all 46 _ _ _ rfl) rfl ?_
                        refine s_iload_n (dt_M_all 47 _ _ _ rfl) rfl ?_
                        refine s_iload_n (dt_M_all 48 _ _ _ rfl) rfl ?_
                        refine s_sipush (dt_M_all 49 _ _ _ rfl) rfl ?_
                        refine s_callO (y := y_M_fewest) (Y' := Y_M_fewest) (as := [VR (some 382), VI s5.1, VI a1, VI (150 : Int)]) (r := fun q => some (VI q.1)) (M' := fun q => q.2) (kInvV (dt_M_all 50 _ _ _ rfl) kin_M_fewest 1 rfl (sc_382 hS) kse_M_fewest rfl) kl_M_500 md_M_fewest rfl rfl (fun q hq => c_M_fewest hS s5.1 a1 (150 : Int) q9.2 q hq) (fun q10 => ?_)
                        refine s_goto (tgt := 96) (dt_M_all 51 _ _ _ rfl) rfl ?_
                        exact s_mask [true, true, true, true, false, false] (s_ret0 rfl)
                      · refine s_iconst (dt_M_all 52 _ _ _ rfl) rfl ?_
                        exact s_mask [true, true, true, true, false, false] (s_ret0 rfl)
              · refine s_iconst (dt_M_all 52 _ _ _ rfl) rfl ?_
                exact s_mask [true, true, true, true, false, false] (s_ret0 rfl)
            refine s_iast (N := 8) (dt_M_all 53 _ _ _ rfl) (sc_425 hS) rfl ?_
            refine s_letM (fun M12 => ?_)
            refine s_iinc (dt_M_all 54 _ _ _ rfl) rfl rfl ?_
            refine s_goto (tgt := 33) (dt_M_all 55 _ _ _ rfl) rfl ?_
            exact s_mask [true, true, true, true, false, false] (s_ret0 rfl)
          · exact s_mask [true, true, false, false, false, false] (s_ret0 rfl)
        intro e13
        refine s_aload_n (dt_M_all 56 _ _ _ rfl) rfl ?_
        refine s_getR (c := 1) (j := 46) (o := (some 411)) (dt_M_all 57 _ _ _ rfl) (kf_M_101) (sc_382 hS) rfl rfl ?_
        refine s_iconst (dt_M_all 58 _ _ _ rfl) rfl ?_
        refine s_iload_n (dt_M_all 59 _ _ _ rfl) rfl ?_
        refine s_iadd (dt_M_all 60 _ _ _ rfl) ?_
        refine s_iald (N := 171) (dt_M_all 61 _ _ _ rfl) (sc_411 hS) rfl ?_
        refine s_aload_n (dt_M_all 62 _ _ _ rfl) rfl ?_
        refine s_getR (c := 1) (j := 16) (o := (some 390)) (dt_M_all 63 _ _ _ rfl) (kf_M_36) (sc_382 hS) rfl rfl ?_
        refine s_aload_n (dt_M_all 64 _ _ _ rfl) rfl ?_
        refine s_getI (c := 1) (j := 37) (dt_M_all 65 _ _ _ rfl) (kf_M_288) (sc_382 hS) rfl ?_
        refine s_iald (N := 2) (dt_M_all 66 _ _ _ rfl) (sc_390 hS) rfl ?_
        refine s_isub (dt_M_all 67 _ _ _ rfl) ?_
        refine s_letI (fun v14 => ?_)
        refine s_istore_n (dt_M_all 68 _ _ _ rfl) rfl ?_
        refine s_bd (κ := (fun (e23 : KM) => kC 193 [some (VR (some 382)), none, none, none, none, none] [] S e23)) (s_mask [true, false, false, true, false, false] (s_while (c := fun s15 => kC 122 [some (VR (some 382)), none, none, some (VI s15.1), none, none] [] S s15.2) (fun s15 => ?_) (v14, e13))) ?_
        · refine s_iconst (dt_M_all 69 _ _ _ rfl) rfl ?_
          refine s_istore (dt_M_all 70 _ _ _ rfl) rfl ?_
          refine s_iconst (dt_M_all 71 _ _ _ rfl) rfl ?_
          refine s_istore (dt_M_all 72 _ _ _ rfl) rfl ?_
          refine s_bd (κ := (fun (e18 : Int) => kC 177 [some (VR (some 382)), none, none, some (VI s15.1), some (VI e18), none] [] S s15.2)) (s_mask [true, false, false, true, true, true] (s_while (c := fun s16 => kC 128 [some (VR (some 382)), none, none, some (VI s15.1), some (VI s16.1), some (VI s16.2)] [] S s15.2) (fun s16 => ?_) ((-1 : Int), (0 : Int)))) ?_
          · refine s_iload (dt_M_all 73 _ _ _ rfl) rfl ?_
            refine s_bipush (dt_M_all 74 _ _ _ rfl) rfl ?_
            refine s_if_icmp_ge (tgt := 177) (dt_M_all 75 _ _ _ rfl) rfl ?_ ?_
            · refine s_aload_n (dt_M_all 76 _ _ _ rfl) rfl ?_
              refine s_getR (c := 1) (j := 64) (o := (some 425)) (dt_M_all 77 _ _ _ rfl) (kf_M_146) (sc_382 hS) rfl rfl ?_
              refine s_iload (dt_M_all 78 _ _ _ rfl) rfl ?_
              refine s_iald (N := 8) (dt_M_all 79 _ _ _ rfl) (sc_425 hS) rfl ?_
              refine s_bd (κ := fun t17 => kC 171 [some (VR (some 382)), none, none, some (VI s15.1), some (VI t17), some (VI s16.2)] [] S s15.2) ?_ (fun t17 => ?_)
              · refine s_if_lt (tgt := 171) (dt_M_all 80 _ _ _ rfl) rfl ?_ ?_
                · exact s_mask [true, false, false, true, true, true] (s_ret0 rfl)
                · refine s_iload (dt_M_all 81 _ _ _ rfl) rfl ?_
                  refine s_if_lt (tgt := 167) (dt_M_all 82 _ _ _ rfl) rfl ?_ ?_
                  · refine s_iload (dt_M_all 92 _ _ _ rfl) rfl ?_
                    refine s_istore (dt_M_all 93 _ _ _ rfl) rfl ?_
                    exact s_mask [true, false, false, true, true, true] (s_ret0 rfl)
                  · refine s_aload_n (dt_M_all 83 _ _ _ rfl) rfl ?_
                    refine s_getR (c := 1) (j := 64) (o := (some 425)) (dt_M_all 84 _ _ _ rfl) (kf_M_146) (sc_382 hS) rfl rfl ?_
                    refine s_iload (dt_M_all 85 _ _ _ rfl) rfl ?_
                    refine s_iald (N := 8) (dt_M_all 86 _ _ _ rfl) (sc_425 hS) rfl ?_
                    refine s_aload_n (dt_M_all 87 _ _ _ rfl) rfl ?_
                    refine s_getR (c := 1) (j := 64) (o := (some 425)) (dt_M_all 88 _ _ _ rfl) (kf_M_146) (sc_382 hS) rfl rfl ?_
                    refine s_iload (dt_M_all 89 _ _ _ rfl) rfl ?_
                    refine s_iald (N := 8) (dt_M_all 90 _ _ _ rfl) (sc_425 hS) rfl ?_
                    refine s_if_icmp_ge (tgt := 171) (dt_M_all 91 _ _ _ rfl) rfl ?_ ?_
                    · refine s_iload (dt_M_all 92 _ _ _ rfl) rfl ?_
                      refine s_istore (dt_M_all 93 _ _ _ rfl) rfl ?_
                      exact s_mask [true, false, false, true, true, true] (s_ret0 rfl)
                    · exact s_mask [true, false, false, true, true, true] (s_ret0 rfl)
              refine s_iinc (dt_M_all 94 _ _ _ rfl) rfl rfl ?_
              refine s_goto (tgt := 128) (dt_M_all 95 _ _ _ rfl) rfl ?_
              exact s_mask [true, false, false, true, true, true] (s_ret0 rfl)
            · exact s_mask [true, false, false, true, true, false] (s_ret0 rfl)
          intro e18
          refine s_iload (dt_M_all 96 _ _ _ rfl) rfl ?_
          refine s_if_lt (tgt := 193) (dt_M_all 97 _ _ _ rfl) rfl ?_ ?_
          · exact s_mask [true, false, false, false, false, false] (s_ret0 rfl)
          · refine s_aload_n (dt_M_all 98 _ _ _ rfl) rfl ?_
            refine s_getR (c := 1) (j := 64) (o := (some 425)) (dt_M_all 99 _ _ _ rfl) (kf_M_146) (sc_382 hS) rfl rfl ?_
            refine s_iload (dt_M_all 100 _ _ _ rfl) rfl ?_
            refine s_iald (N := 8) (dt_M_all 101 _ _ _ rfl) (sc_425 hS) rfl ?_
            refine s_iload_n (dt_M_all 102 _ _ _ rfl) rfl ?_
            refine s_if_icmp_le (tgt := 198) (dt_M_all 103 _ _ _ rfl) rfl ?_ ?_
            · refine s_iload_n (dt_M_all 107 _ _ _ rfl) rfl ?_
              refine s_aload_n (dt_M_all 108 _ _ _ rfl) rfl ?_
              refine s_getR (c := 1) (j := 64) (o := (some 425)) (dt_M_all 109 _ _ _ rfl) (kf_M_146) (sc_382 hS) rfl rfl ?_
              refine s_iload (dt_M_all 110 _ _ _ rfl) rfl ?_
              refine s_iald (N := 8) (dt_M_all 111 _ _ _ rfl) (sc_425 hS) rfl ?_
              refine s_isub (dt_M_all 112 _ _ _ rfl) ?_
              refine s_letI (fun v19 => ?_)
              refine s_istore_n (dt_M_all 113 _ _ _ rfl) rfl ?_
              refine s_aload_n (dt_M_all 114 _ _ _ rfl) rfl ?_
              refine s_getR (c := 1) (j := 64) (o := (some 425)) (dt_M_all 115 _ _ _ rfl) (kf_M_146) (sc_382 hS) rfl rfl ?_
              refine s_iload (dt_M_all 116 _ _ _ rfl) rfl ?_
              refine s_iconst (dt_M_all 117 _ _ _ rfl) rfl ?_
              refine s_iast (N := 8) (dt_M_all 118 _ _ _ rfl) (sc_425 hS) rfl ?_
              refine s_letM (fun M20 => ?_)
              refine s_aload_n (dt_M_all 119 _ _ _ rfl) rfl ?_
              refine s_getR (c := 1) (j := 62) (o := (some 424)) (dt_M_all 120 _ _ _ rfl) (kf_M_143) (sc_382 hS) rfl rfl ?_
              refine s_aload_n (dt_M_all 121 _ _ _ rfl) rfl ?_
              refine s_getI (c := 1) (j := 63) (dt_M_all 122 _ _ _ rfl) (kf_M_401) (sc_382 hS) rfl ?_
              refine s_iload (dt_M_all 123 _ _ _ rfl) rfl ?_
              refine s_iast (N := 8) (dt_M_all 124 _ _ _ rfl) (sc_424 hS) rfl ?_
              refine s_letM (fun M21 => ?_)
              refine s_aload_n (dt_M_all 125 _ _ _ rfl) rfl ?_
              refine s_dup (dt_M_all 126 _ _ _ rfl) rfl ?_
              refine s_getI (c := 1) (j := 63) (dt_M_all 127 _ _ _ rfl) (kf_M_401) (sc_382 hS) rfl ?_
              refine s_iconst (dt_M_all 128 _ _ _ rfl) rfl ?_
              refine s_iadd (dt_M_all 129 _ _ _ rfl) ?_
              refine s_putI (c := 1) (j := 63) (dt_M_all 130 _ _ _ rfl) kp_M_401 (sc_382 hS) ⟨rfl, rfl⟩ ?_
              refine s_letM (fun M22 => ?_)
              refine s_goto (tgt := 122) (dt_M_all 131 _ _ _ rfl) rfl ?_
              exact s_mask [true, false, false, true, false, false] (s_ret0 rfl)
            · exact s_mask [true, false, false, false, false, false] (s_ret0 rfl)
        intro e23
        refine s_aload_n (dt_M_all 104 _ _ _ rfl) rfl ?_
        refine s_getI (c := 1) (j := 63) (dt_M_all 105 _ _ _ rfl) (kf_M_401) (sc_382 hS) rfl ?_
        exact s_iret (dt_M_all 106 _ _ _ rfl) rfl rfl
theorem c_M_all {S : KS} (hS : KExt 435 S)  (a0 : Int) (a1 : Int) (M : KM) : ∀ q, f_M_all a0 a1 M = some q → Ctr y_M_all Y_M_all [VR (some 382), VI a0, VI a1] S M (some (VI q.1)) S (q.2) := fun q hq =>
  ctr_of md_M_all (Nat.le_of_ble_eq_true rfl) ⟨Nat.le_refl _, Nat.le_refl _⟩ 3 hq rfl (fun _ G => sim_M_all hS  a0 a1 M)
set_option maxRecDepth 100000 in
theorem sim_M_face {G : Gam} {S : KS} (hS : KExt 435 S)  (a0 : Int) (a1 : Int) (M : KM) : Sim G Y_M_face (f_M_face a0 a1 M) (kC 0 [some (VR (some 382)), some (VI a0), some (VI a1)] [] S M) (fun (q : Int × KM) => Sum.inr (some (VI q.1), S, q.2)) := by
  unfold f_M_face
  refine s_aload_n (dt_M_face 0 _ _ _ rfl) rfl ?_
  refine s_iload_n (dt_M_face 1 _ _ _ rfl) rfl ?_
  refine s_callO (y := y_M_isPerson) (Y' := Y_M_isPerson) (as := [VR (some 382), VI a0]) (r := fun q => some (VI q)) (M' := fun q => M) (kInvV (dt_M_face 2 _ _ _ rfl) kin_M_isPerson 1 rfl (sc_382 hS) kse_M_isPerson rfl) kl_M_413 md_M_isPerson rfl rfl (fun q hq => c_M_isPerson hS a0 M q hq) (fun q1 => ?_)
  refine s_if_eq (tgt := 25) (dt_M_face 3 _ _ _ rfl) rfl ?_ ?_
  · refine s_iconst (dt_M_face 12 _ _ _ rfl) rfl ?_
    exact s_iret (dt_M_face 13 _ _ _ rfl) rfl rfl
  · refine s_aload_n (dt_M_face 4 _ _ _ rfl) rfl ?_
    refine s_iload_n (dt_M_face 5 _ _ _ rfl) rfl ?_
    refine s_callO (y := y_M_isAge) (Y' := Y_M_isAge) (as := [VR (some 382), VI a1]) (r := fun q => some (VI q)) (M' := fun q => M) (kInvV (dt_M_face 6 _ _ _ rfl) kin_M_isAge 1 rfl (sc_382 hS) kse_M_isAge rfl) kl_M_422 md_M_isAge rfl rfl (fun q hq => c_M_isAge hS a1 M q hq) (fun q2 => ?_)
    refine s_if_eq (tgt := 25) (dt_M_face 7 _ _ _ rfl) rfl ?_ ?_
    · refine s_iconst (dt_M_face 12 _ _ _ rfl) rfl ?_
      exact s_iret (dt_M_face 13 _ _ _ rfl) rfl rfl
    · refine s_aload_n (dt_M_face 8 _ _ _ rfl) rfl ?_
      refine s_getI (c := 1) (j := 71) (dt_M_face 9 _ _ _ rfl) (kf_M_398) (sc_382 hS) rfl ?_
      refine s_bipush (dt_M_face 10 _ _ _ rfl) rfl ?_
      refine s_if_icmp_ne (tgt := 27) (dt_M_face 11 _ _ _ rfl) rfl ?_ ?_
      · refine s_iconst (dt_M_face 12 _ _ _ rfl) rfl ?_
        exact s_iret (dt_M_face 13 _ _ _ rfl) rfl rfl
      · refine s_aload_n (dt_M_face 14 _ _ _ rfl) rfl ?_
        refine s_getR (c := 1) (j := 65) (o := (some 426)) (dt_M_face 15 _ _ _ rfl) (kf_M_149) (sc_382 hS) rfl rfl ?_
        refine s_aload_n (dt_M_face 16 _ _ _ rfl) rfl ?_
        refine s_getI (c := 1) (j := 71) (dt_M_face 17 _ _ _ rfl) (kf_M_398) (sc_382 hS) rfl ?_
        refine s_iload_n (dt_M_face 18 _ _ _ rfl) rfl ?_
        refine s_iast (N := 30) (dt_M_face 19 _ _ _ rfl) (sc_426 hS) rfl ?_
        refine s_letM (fun M3 => ?_)
        refine s_aload_n (dt_M_face 20 _ _ _ rfl) rfl ?_
        refine s_getR (c := 1) (j := 66) (o := (some 427)) (dt_M_face 21 _ _ _ rfl) (kf_M_152) (sc_382 hS) rfl rfl ?_
        refine s_aload_n (dt_M_face 22 _ _ _ rfl) rfl ?_
        refine s_getI (c := 1) (j := 71) (dt_M_face 23 _ _ _ rfl) (kf_M_398) (sc_382 hS) rfl ?_
        refine s_iload_n (dt_M_face 24 _ _ _ rfl) rfl ?_
        refine s_iast (N := 30) (dt_M_face 25 _ _ _ rfl) (sc_427 hS) rfl ?_
        refine s_letM (fun M4 => ?_)
        refine s_aload_n (dt_M_face 26 _ _ _ rfl) rfl ?_
        refine s_getR (c := 1) (j := 67) (o := (some 428)) (dt_M_face 27 _ _ _ rfl) (kf_M_155) (sc_382 hS) rfl rfl ?_
        refine s_aload_n (dt_M_face 28 _ _ _ rfl) rfl ?_
        refine s_getI (c := 1) (j := 71) (dt_M_face 29 _ _ _ rfl) (kf_M_398) (sc_382 hS) rfl ?_
        refine s_aload_n (dt_M_face 30 _ _ _ rfl) rfl ?_
        refine s_getI (c := 1) (j := 72) (dt_M_face 31 _ _ _ rfl) (kf_M_512) (sc_382 hS) rfl ?_
        refine s_iast (N := 30) (dt_M_face 32 _ _ _ rfl) (sc_428 hS) rfl ?_
        refine s_letM (fun M5 => ?_)
        refine s_aload_n (dt_M_face 33 _ _ _ rfl) rfl ?_
        refine s_getR (c := 1) (j := 68) (o := (some 429)) (dt_M_face 34 _ _ _ rfl) (kf_M_158) (sc_382 hS) rfl rfl ?_
        refine s_aload_n (dt_M_face 35 _ _ _ rfl) rfl ?_
        refine s_getI (c := 1) (j := 71) (dt_M_face 36 _ _ _ rfl) (kf_M_398) (sc_382 hS) rfl ?_
        refine s_iconst (dt_M_face 37 _ _ _ rfl) rfl ?_
        refine s_iast (N := 30) (dt_M_face 38 _ _ _ rfl) (sc_429 hS) rfl ?_
        refine s_letM (fun M6 => ?_)
        refine s_aload_n (dt_M_face 39 _ _ _ rfl) rfl ?_
        refine s_dup (dt_M_face 40 _ _ _ rfl) rfl ?_
        refine s_getI (c := 1) (j := 71) (dt_M_face 41 _ _ _ rfl) (kf_M_398) (sc_382 hS) rfl ?_
        refine s_iconst (dt_M_face 42 _ _ _ rfl) rfl ?_
        refine s_iadd (dt_M_face 43 _ _ _ rfl) ?_
        refine s_putI (c := 1) (j := 71) (dt_M_face 44 _ _ _ rfl) kp_M_398 (sc_382 hS) ⟨rfl, rfl⟩ ?_
        refine s_letM (fun M7 => ?_)
        refine s_aload_n (dt_M_face 45 _ _ _ rfl) rfl ?_
        refine s_getI (c := 1) (j := 71) (dt_M_face 46 _ _ _ rfl) (kf_M_398) (sc_382 hS) rfl ?_
        refine s_iconst (dt_M_face 47 _ _ _ rfl) rfl ?_
        refine s_isub (dt_M_face 48 _ _ _ rfl) ?_
        exact s_iret (dt_M_face 49 _ _ _ rfl) rfl rfl
theorem c_M_face {S : KS} (hS : KExt 435 S)  (a0 : Int) (a1 : Int) (M : KM) : ∀ q, f_M_face a0 a1 M = some q → Ctr y_M_face Y_M_face [VR (some 382), VI a0, VI a1] S M (some (VI q.1)) S (q.2) := fun q hq =>
  ctr_of md_M_face (Nat.le_of_ble_eq_true rfl) ⟨Nat.le_refl _, Nat.le_refl _⟩ 0 hq rfl (fun _ G => sim_M_face hS  a0 a1 M)
set_option maxRecDepth 100000 in
theorem sim_M_untell {G : Gam} {S : KS} (hS : KExt 435 S)  (a0 : Int) (M : KM) : Sim G Y_M_untell (f_M_untell a0 M) (kC 0 [some (VR (some 382)), some (VI a0)] [] S M) (fun (q : Int × KM) => Sum.inr (some (VI q.1), S, q.2)) := by
  unfold f_M_untell
  refine s_iload_n (dt_M_untell 0 _ _ _ rfl) rfl ?_
  refine s_iconst (dt_M_untell 1 _ _ _ rfl) rfl ?_
  refine s_aload_n (dt_M_untell 2 _ _ _ rfl) rfl ?_
  refine s_getI (c := 1) (j := 71) (dt_M_untell 3 _ _ _ rfl) (kf_M_398) (sc_382 hS) rfl ?_
  refine s_iconst (dt_M_untell 4 _ _ _ rfl) rfl ?_
  refine s_isub (dt_M_untell 5 _ _ _ rfl) ?_
  refine s_callO (y := y_M_isIn) (Y' := Y_M_isIn) (as := [VI a0, VI (0 : Int), VI (w32 ((M 382 71) - (1 : Int)))]) (r := fun q => some (VI q)) (M' := fun q => M) (kInvS (dt_M_untell 6 _ _ _ rfl) kst_M_isIn rfl) kl_M_388 md_M_isIn rfl rfl (fun q hq => c_M_isIn hS a0 (0 : Int) (w32 ((M 382 71) - (1 : Int))) M q hq) (fun q1 => ?_)
  refine s_if_eq (tgt := 23) (dt_M_untell 7 _ _ _ rfl) rfl ?_ ?_
  · refine s_iconst (dt_M_untell 13 _ _ _ rfl) rfl ?_
    exact s_zret01 (dt_M_untell 14 _ _ _ rfl) rfl rfl rfl
  · refine s_aload_n (dt_M_untell 8 _ _ _ rfl) rfl ?_
    refine s_getR (c := 1) (j := 68) (o := (some 429)) (dt_M_untell 9 _ _ _ rfl) (kf_M_158) (sc_382 hS) rfl rfl ?_
    refine s_iload_n (dt_M_untell 10 _ _ _ rfl) rfl ?_
    refine s_iald (N := 30) (dt_M_untell 11 _ _ _ rfl) (sc_429 hS) rfl ?_
    refine s_if_lt (tgt := 25) (dt_M_untell 12 _ _ _ rfl) rfl ?_ ?_
    · refine s_aload_n (dt_M_untell 15 _ _ _ rfl) rfl ?_
      refine s_getR (c := 1) (j := 68) (o := (some 429)) (dt_M_untell 16 _ _ _ rfl) (kf_M_158) (sc_382 hS) rfl rfl ?_
      refine s_iload_n (dt_M_untell 17 _ _ _ rfl) rfl ?_
      refine s_aload_n (dt_M_untell 18 _ _ _ rfl) rfl ?_
      refine s_getI (c := 1) (j := 72) (dt_M_untell 19 _ _ _ rfl) (kf_M_512) (sc_382 hS) rfl ?_
      refine s_iast (N := 30) (dt_M_untell 20 _ _ _ rfl) (sc_429 hS) rfl ?_
      refine s_letM (fun M2 => ?_)
      refine s_iconst (dt_M_untell 21 _ _ _ rfl) rfl ?_
      exact s_zret01 (dt_M_untell 22 _ _ _ rfl) rfl rfl rfl
    · refine s_iconst (dt_M_untell 13 _ _ _ rfl) rfl ?_
      exact s_zret01 (dt_M_untell 14 _ _ _ rfl) rfl rfl rfl
theorem c_M_untell {S : KS} (hS : KExt 435 S)  (a0 : Int) (M : KM) : ∀ q, f_M_untell a0 M = some q → Ctr y_M_untell Y_M_untell [VR (some 382), VI a0] S M (some (VI q.1)) S (q.2) := fun q hq =>
  ctr_of md_M_untell (Nat.le_of_ble_eq_true rfl) ⟨Nat.le_refl _, Nat.le_refl _⟩ 0 hq rfl (fun _ G => sim_M_untell hS  a0 M)
set_option maxRecDepth 100000 in
theorem sim_M_later {G : Gam} {S : KS} (hS : KExt 435 S)  (a0 : Int) (M : KM) : Sim G Y_M_later (f_M_later a0 M) (kC 0 [some (VR (some 382)), some (VI a0)] [] S M) (fun (q : Int × KM) => Sum.inr (some (VI q.1), S, q.2)) := by
  unfold f_M_later
  refine s_iload_n (dt_M_later 0 _ _ _ rfl) rfl ?_
  refine s_iconst (dt_M_later 1 _ _ _ rfl) rfl ?_
  refine s_sipush (dt_M_later 2 _ _ _ rfl) rfl ?_
  refine s_callO (y := y_M_isIn) (Y' := Y_M_isIn) (as := [VI a0, VI (0 : Int), VI (1000 : Int)]) (r := fun q => some (VI q)) (M' := fun q => M) (kInvS (dt_M_later 3 _ _ _ rfl) kst_M_isIn rfl) kl_M_388 md_M_isIn rfl rfl (fun q hq => c_M_isIn hS a0 (0 : Int) (1000 : Int) M q hq) (fun q1 => ?_)
  refine s_if_eq (tgt := 23) (dt_M_later 4 _ _ _ rfl) rfl ?_ ?_
  · refine s_iconst (dt_M_later 11 _ _ _ rfl) rfl ?_
    exact s_iret (dt_M_later 12 _ _ _ rfl) rfl rfl
  · refine s_aload_n (dt_M_later 5 _ _ _ rfl) rfl ?_
    refine s_getI (c := 1) (j := 72) (dt_M_later 6 _ _ _ rfl) (kf_M_512) (sc_382 hS) rfl ?_
    refine s_iload_n (dt_M_later 7 _ _ _ rfl) rfl ?_
    refine s_iadd (dt_M_later 8 _ _ _ rfl) ?_
    refine s_ldcw (n := (100000 : Int)) (kc_M_515) (dt_M_later 9 _ _ _ rfl) rfl ?_
    refine s_if_icmp_le (tgt := 25) (dt_M_later 10 _ _ _ rfl) rfl ?_ ?_
    · refine s_aload_n (dt_M_later 13 _ _ _ rfl) rfl ?_
      refine s_dup (dt_M_later 14 _ _ _ rfl) rfl ?_
      refine s_getI (c := 1) (j := 72) (dt_M_later 15 _ _ _ rfl) (kf_M_512) (sc_382 hS) rfl ?_
      refine s_iload_n (dt_M_later 16 _ _ _ rfl) rfl ?_
      refine s_iadd (dt_M_later 17 _ _ _ rfl) ?_
      refine s_putI (c := 1) (j := 72) (dt_M_later 18 _ _ _ rfl) kp_M_512 (sc_382 hS) ⟨rfl, rfl⟩ ?_
      refine s_letM (fun M2 => ?_)
      refine s_aload_n (dt_M_later 19 _ _ _ rfl) rfl ?_
      refine s_getI (c := 1) (j := 72) (dt_M_later 20 _ _ _ rfl) (kf_M_512) (sc_382 hS) rfl ?_
      exact s_iret (dt_M_later 21 _ _ _ rfl) rfl rfl
    · refine s_iconst (dt_M_later 11 _ _ _ rfl) rfl ?_
      exact s_iret (dt_M_later 12 _ _ _ rfl) rfl rfl
theorem c_M_later {S : KS} (hS : KExt 435 S)  (a0 : Int) (M : KM) : ∀ q, f_M_later a0 M = some q → Ctr y_M_later Y_M_later [VR (some 382), VI a0] S M (some (VI q.1)) S (q.2) := fun q hq =>
  ctr_of md_M_later (Nat.le_of_ble_eq_true rfl) ⟨Nat.le_refl _, Nat.le_refl _⟩ 0 hq rfl (fun _ G => sim_M_later hS  a0 M)
set_option maxRecDepth 100000 in
theorem sim_M_guessGift {G : Gam} {S : KS} (hS : KExt 435 S)  (a0 : Int) (a1 : Int) (M : KM) : Sim G Y_M_guessGift (f_M_guessGift a0 a1 M) (kC 0 [some (VR (some 382)), some (VI a0), some (VI a1)] [] S M) (fun (q : KM) => Sum.inr (none, S, q)) := by
  unfold f_M_guessGift
  refine s_aload_n (dt_M_guessGift 0 _ _ _ rfl) rfl ?_
  refine s_getR (c := 1) (j := 69) (o := (some 430)) (dt_M_guessGift 1 _ _ _ rfl) (kf_M_161) (sc_382 hS) rfl rfl ?_
  refine s_aload_n (dt_M_guessGift 2 _ _ _ rfl) rfl ?_
  refine s_getR (c := 1) (j := 23) (o := (some 397)) (dt_M_guessGift 3 _ _ _ rfl) (kf_M_57) (sc_382 hS) rfl rfl ?_
  refine s_bipush (dt_M_guessGift 4 _ _ _ rfl) rfl ?_
  refine s_aload_n (dt_M_guessGift 5 _ _ _ rfl) rfl ?_
  refine s_getI (c := 1) (j := 37) (dt_M_guessGift 6 _ _ _ rfl) (kf_M_288) (sc_382 hS) rfl ?_
  refine s_imul (dt_M_guessGift 7 _ _ _ rfl) ?_
  refine s_iload_n (dt_M_guessGift 8 _ _ _ rfl) rfl ?_
  refine s_iadd (dt_M_guessGift 9 _ _ _ rfl) ?_
  refine s_iald (N := 40) (dt_M_guessGift 10 _ _ _ rfl) (sc_397 hS) rfl ?_
  refine s_dup2 (dt_M_guessGift 11 _ _ _ rfl) rfl rfl ?_
  refine s_iald (N := 8) (dt_M_guessGift 12 _ _ _ rfl) (sc_430 hS) rfl ?_
  refine s_iload_n (dt_M_guessGift 13 _ _ _ rfl) rfl ?_
  refine s_isub (dt_M_guessGift 14 _ _ _ rfl) ?_
  refine s_iast (N := 8) (dt_M_guessGift 15 _ _ _ rfl) (sc_430 hS) rfl ?_
  refine s_letM (fun M1 => ?_)
  refine s_aload_n (dt_M_guessGift 16 _ _ _ rfl) rfl ?_
  refine s_getR (c := 1) (j := 69) (o := (some 430)) (dt_M_guessGift 17 _ _ _ rfl) (kf_M_161) (sc_382 hS) rfl rfl ?_
  refine s_aload_n (dt_M_guessGift 18 _ _ _ rfl) rfl ?_
  refine s_getR (c := 1) (j := 24) (o := (some 398)) (dt_M_guessGift 19 _ _ _ rfl) (kf_M_60) (sc_382 hS) rfl rfl ?_
  refine s_bipush (dt_M_guessGift 20 _ _ _ rfl) rfl ?_
  refine s_aload_n (dt_M_guessGift 21 _ _ _ rfl) rfl ?_
  refine s_getI (c := 1) (j := 37) (dt_M_guessGift 22 _ _ _ rfl) (kf_M_288) (sc_382 hS) rfl ?_
  refine s_imul (dt_M_guessGift 23 _ _ _ rfl) ?_
  refine s_iload_n (dt_M_guessGift 24 _ _ _ rfl) rfl ?_
  refine s_iadd (dt_M_guessGift 25 _ _ _ rfl) ?_
  refine s_iald (N := 40) (dt_M_guessGift 26 _ _ _ rfl) (sc_398 hS) rfl ?_
  refine s_dup2 (dt_M_guessGift 27 _ _ _ rfl) rfl rfl ?_
  refine s_iald (N := 8) (dt_M_guessGift 28 _ _ _ rfl) (sc_430 hS) rfl ?_
  refine s_iload_n (dt_M_guessGift 29 _ _ _ rfl) rfl ?_
  refine s_iadd (dt_M_guessGift 30 _ _ _ rfl) ?_
  refine s_iast (N := 8) (dt_M_guessGift 31 _ _ _ rfl) (sc_430 hS) rfl ?_
  refine s_letM (fun M2 => ?_)
  exact s_vret (dt_M_guessGift 32 _ _ _ rfl) rfl rfl
theorem c_M_guessGift {S : KS} (hS : KExt 435 S)  (a0 : Int) (a1 : Int) (M : KM) : ∀ q, f_M_guessGift a0 a1 M = some q → Ctr y_M_guessGift Y_M_guessGift [VR (some 382), VI a0, VI a1] S M (none) S (q) := fun q hq =>
  ctr_of md_M_guessGift (Nat.le_of_ble_eq_true rfl) ⟨Nat.le_refl _, Nat.le_refl _⟩ 0 hq rfl (fun _ G => sim_M_guessGift hS  a0 a1 M)
set_option maxRecDepth 100000 in
theorem sim_M_counts {G : Gam} {S : KS} (hS : KExt 435 S)  (a0 : Int) (a1 : Int) (M : KM) : Sim G Y_M_counts (f_M_counts a0 a1 M) (kC 0 [some (VR (some 382)), some (VI a0), some (VI a1)] [] S M) (fun (q : Int) => Sum.inr (some (VI q), S, M)) := by
  unfold f_M_counts
  refine s_aload_n (dt_M_counts 0 _ _ _ rfl) rfl ?_
  refine s_getR (c := 1) (j := 67) (o := (some 428)) (dt_M_counts 1 _ _ _ rfl) (kf_M_155) (sc_382 hS) rfl rfl ?_
  refine s_iload_n (dt_M_counts 2 _ _ _ rfl) rfl ?_
  refine s_iald (N := 30) (dt_M_counts 3 _ _ _ rfl) (sc_428 hS) rfl ?_
  refine s_iload_n (dt_M_counts 4 _ _ _ rfl) rfl ?_
  refine s_bd (κ := fun t1 => kC 34 [none, none, none] [VI t1] S M) ?_ (fun t1 => ?_)
  · refine s_if_icmp_gt (tgt := 33) (dt_M_counts 5 _ _ _ rfl) rfl ?_ ?_
    · refine s_aload_n (dt_M_counts 6 _ _ _ rfl) rfl ?_
      refine s_getR (c := 1) (j := 68) (o := (some 429)) (dt_M_counts 7 _ _ _ rfl) (kf_M_158) (sc_382 hS) rfl rfl ?_
      refine s_iload_n (dt_M_counts 8 _ _ _ rfl) rfl ?_
      refine s_iald (N := 30) (dt_M_counts 9 _ _ _ rfl) (sc_429 hS) rfl ?_
      refine s_if_lt (tgt := 29) (dt_M_counts 10 _ _ _ rfl) rfl ?_ ?_
      · refine s_iconst (dt_M_counts 17 _ _ _ rfl) rfl ?_
        refine s_goto (tgt := 34) (dt_M_counts 18 _ _ _ rfl) rfl ?_
        exact s_mask [false, false, false] (s_ret0 rfl)
      · refine s_aload_n (dt_M_counts 11 _ _ _ rfl) rfl ?_
        refine s_getR (c := 1) (j := 68) (o := (some 429)) (dt_M_counts 12 _ _ _ rfl) (kf_M_158) (sc_382 hS) rfl rfl ?_
        refine s_iload_n (dt_M_counts 13 _ _ _ rfl) rfl ?_
        refine s_iald (N := 30) (dt_M_counts 14 _ _ _ rfl) (sc_429 hS) rfl ?_
        refine s_iload_n (dt_M_counts 15 _ _ _ rfl) rfl ?_
        refine s_if_icmp_le (tgt := 33) (dt_M_counts 16 _ _ _ rfl) rfl ?_ ?_
        · refine s_iconst (dt_M_counts 19 _ _ _ rfl) rfl ?_
          exact s_mask [false, false, false] (s_ret0 rfl)
        · refine s_iconst (dt_M_counts 17 _ _ _ rfl) rfl ?_
          refine s_goto (tgt := 34) (dt_M_counts 18 _ _ _ rfl) rfl ?_
          exact s_mask [false, false, false] (s_ret0 rfl)
    · refine s_iconst (dt_M_counts 19 _ _ _ rfl) rfl ?_
      exact s_mask [false, false, false] (s_ret0 rfl)
  exact s_zret (dt_M_counts 20 _ _ _ rfl) rfl rfl
theorem c_M_counts {S : KS} (hS : KExt 435 S)  (a0 : Int) (a1 : Int) (M : KM) : ∀ q, f_M_counts a0 a1 M = some q → Ctr y_M_counts Y_M_counts [VR (some 382), VI a0, VI a1] S M (some (VI q)) S (M) := fun q hq =>
  ctr_of md_M_counts (Nat.le_of_ble_eq_true rfl) ⟨Nat.le_refl _, Nat.le_refl _⟩ 0 hq rfl (fun _ G => sim_M_counts hS  a0 a1 M)
