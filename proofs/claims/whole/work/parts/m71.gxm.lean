set_option maxRecDepth 100000 in
theorem sim_M_netOf {G : Gam} {S : KS} (hS : KExt 435 S)  (a0 : Int) (M : KM) : Sim G Y_M_netOf (f_M_netOf a0 M) (kC 0 [some (VR (some 382)), some (VI a0), none, none] [] S M) (fun (q : Int) => Sum.inr (some (VI q), S, M)) := by
  unfold f_M_netOf
  refine s_iconst (dt_M_netOf 0 _ _ _ rfl) rfl ?_
  refine s_istore_n (dt_M_netOf 1 _ _ _ rfl) rfl ?_
  refine s_iconst (dt_M_netOf 2 _ _ _ rfl) rfl ?_
  refine s_istore_n (dt_M_netOf 3 _ _ _ rfl) rfl ?_
  refine s_bd (κ := (fun (e4 : Int) => kC 38 [none, none, some (VI e4), none] [] S M)) (s_mask [true, true, true, true] (s_while (c := fun s1 => kC 4 [some (VR (some 382)), some (VI a0), some (VI s1.1), some (VI s1.2)] [] S M) (fun s1 => ?_) ((0 : Int), (0 : Int)))) ?_
  · refine s_iload_n (dt_M_netOf 4 _ _ _ rfl) rfl ?_
    refine s_bipush (dt_M_netOf 5 _ _ _ rfl) rfl ?_
    refine s_if_icmp_ge (tgt := 38) (dt_M_netOf 6 _ _ _ rfl) rfl ?_ ?_
    · refine s_iload_n (dt_M_netOf 7 _ _ _ rfl) rfl ?_
      refine s_iload_n (dt_M_netOf 8 _ _ _ rfl) rfl ?_
      refine s_iload_n (dt_M_netOf 9 _ _ _ rfl) rfl ?_
      refine s_ishr (dt_M_netOf 10 _ _ _ rfl) ?_
      refine s_iconst (dt_M_netOf 11 _ _ _ rfl) rfl ?_
      refine s_iand (dt_M_netOf 12 _ _ _ rfl) ?_
      refine s_iconst (dt_M_netOf 13 _ _ _ rfl) rfl ?_
      refine s_bd (κ := fun t2 => kC 30 [some (VR (some 382)), some (VI a0), none, some (VI s1.2)] [VI t2, VI s1.1] S M) ?_ (fun t2 => ?_)
      · refine s_if_icmp_ne (tgt := 29) (dt_M_netOf 14 _ _ _ rfl) rfl ?_ ?_
        · refine s_aload_n (dt_M_netOf 15 _ _ _ rfl) rfl ?_
          refine s_getR (c := 1) (j := 57) (o := (some 420)) (dt_M_netOf 16 _ _ _ rfl) (kf_M_128) (sc_382 hS) rfl rfl ?_
          refine s_iload_n (dt_M_netOf 17 _ _ _ rfl) rfl ?_
          refine s_iald (N := 8) (dt_M_netOf 18 _ _ _ rfl) (sc_420 hS) rfl ?_
          refine s_goto (tgt := 30) (dt_M_netOf 19 _ _ _ rfl) rfl ?_
          exact s_mask [true, true, false, true] (s_ret0 rfl)
        · refine s_iconst (dt_M_netOf 20 _ _ _ rfl) rfl ?_
          exact s_mask [true, true, false, true] (s_ret0 rfl)
      refine s_iadd (dt_M_netOf 21 _ _ _ rfl) ?_
      refine s_letI (fun v3 => ?_)
      refine s_istore_n (dt_M_netOf 22 _ _ _ rfl) rfl ?_
      refine s_iinc (dt_M_netOf 23 _ _ _ rfl) rfl rfl ?_
      refine s_goto (tgt := 4) (dt_M_netOf 24 _ _ _ rfl) rfl ?_
      exact s_mask [true, true, true, true] (s_ret0 rfl)
    · exact s_mask [false, false, true, false] (s_ret0 rfl)
  intro e4
  refine s_iload_n (dt_M_netOf 25 _ _ _ rfl) rfl ?_
  exact s_iret (dt_M_netOf 26 _ _ _ rfl) rfl rfl
theorem c_M_netOf {S : KS} (hS : KExt 435 S)  (a0 : Int) (M : KM) : ∀ q, f_M_netOf a0 M = some q → Ctr y_M_netOf Y_M_netOf [VR (some 382), VI a0] S M (some (VI q)) S (M) := fun q hq =>
  ctr_of md_M_netOf (Nat.le_of_ble_eq_true rfl) ⟨Nat.le_refl _, Nat.le_refl _⟩ 2 hq rfl (fun _ G => sim_M_netOf hS  a0 M)
set_option maxRecDepth 100000 in
theorem sim_M_payments {G : Gam} {S : KS} (hS : KExt 435 S)   (M : KM) : Sim G Y_M_payments (f_M_payments  M) (kC 0 [some (VR (some 382)), none, none, none, none] [] S M) (fun (q : Int × KM) => Sum.inr (some (VI q.1), S, q.2)) := by
  unfold f_M_payments
  refine s_aload_n (dt_M_payments 0 _ _ _ rfl) rfl ?_
  refine s_callO (y := y_M_layNets) (Y' := Y_M_layNets) (as := [VR (some 382)]) (r := fun q => none) (M' := fun q => q) (kInvV (dt_M_payments 1 _ _ _ rfl) kin_M_layNets 1 rfl (sc_382 hS) kse_M_layNets rfl) kl_M_479 md_M_layNets rfl rfl (fun q hq => c_M_layNets hS M q hq) (fun q1 => ?_)
  refine s_iconst (dt_M_payments 2 _ _ _ rfl) rfl ?_
  refine s_istore_n (dt_M_payments 3 _ _ _ rfl) rfl ?_
  refine s_iconst (dt_M_payments 4 _ _ _ rfl) rfl ?_
  refine s_istore_n (dt_M_payments 5 _ _ _ rfl) rfl ?_
  refine s_iconst (dt_M_payments 6 _ _ _ rfl) rfl ?_
  refine s_istore_n (dt_M_payments 7 _ _ _ rfl) rfl ?_
  refine s_bd (κ := (fun (e5 : Int × Int) => kC 43 [some (VR (some 382)), some (VI e5.1), some (VI e5.2), none, none] [] S q1)) (s_mask [true, true, true, true, false] (s_while (c := fun s2 => kC 10 [some (VR (some 382)), some (VI s2.1), some (VI s2.2.1), some (VI s2.2.2), none] [] S q1) (fun s2 => ?_) ((0 : Int), (0 : Int), (0 : Int)))) ?_
  · refine s_iload_n (dt_M_payments 8 _ _ _ rfl) rfl ?_
    refine s_bipush (dt_M_payments 9 _ _ _ rfl) rfl ?_
    refine s_if_icmp_ge (tgt := 43) (dt_M_payments 10 _ _ _ rfl) rfl ?_ ?_
    · refine s_aload_n (dt_M_payments 11 _ _ _ rfl) rfl ?_
      refine s_getR (c := 1) (j := 57) (o := (some 420)) (dt_M_payments 12 _ _ _ rfl) (kf_M_128) (sc_382 hS) rfl rfl ?_
      refine s_iload_n (dt_M_payments 13 _ _ _ rfl) rfl ?_
      refine s_iald (N := 8) (dt_M_payments 14 _ _ _ rfl) (sc_420 hS) rfl ?_
      refine s_bd (κ := fun t4 => kC 37 [some (VR (some 382)), some (VI t4.1), some (VI t4.2), some (VI s2.2.2), none] [] S q1) ?_ (fun t4 => ?_)
      · refine s_if_ne (tgt := 28) (dt_M_payments 15 _ _ _ rfl) rfl ?_ ?_
        · refine s_goto (tgt := 37) (dt_M_payments 16 _ _ _ rfl) rfl ?_
          exact s_mask [true, true, true, true, false] (s_ret0 rfl)
        · refine s_iload_n (dt_M_payments 17 _ _ _ rfl) rfl ?_
          refine s_iconst (dt_M_payments 18 _ _ _ rfl) rfl ?_
          refine s_iload_n (dt_M_payments 19 _ _ _ rfl) rfl ?_
          refine s_ishl (dt_M_payments 20 _ _ _ rfl) ?_
          refine s_ior (dt_M_payments 21 _ _ _ rfl) ?_
          refine s_letI (fun v3 => ?_)
          refine s_istore_n (dt_M_payments 22 _ _ _ rfl) rfl ?_
          refine s_iinc (dt_M_payments 23 _ _ _ rfl) rfl rfl ?_
          exact s_mask [true, true, true, true, false] (s_ret0 rfl)
      refine s_iinc (dt_M_payments 24 _ _ _ rfl) rfl rfl ?_
      refine s_goto (tgt := 10) (dt_M_payments 25 _ _ _ rfl) rfl ?_
      exact s_mask [true, true, true, true, false] (s_ret0 rfl)
    · exact s_mask [true, true, true, false, false] (s_ret0 rfl)
  intro e5
  refine s_aload_n (dt_M_payments 26 _ _ _ rfl) rfl ?_
  refine s_getR (c := 1) (j := 58) (o := (some 421)) (dt_M_payments 27 _ _ _ rfl) (kf_M_131) (sc_382 hS) rfl rfl ?_
  refine s_iconst (dt_M_payments 28 _ _ _ rfl) rfl ?_
  refine s_iconst (dt_M_payments 29 _ _ _ rfl) rfl ?_
  refine s_iast (N := 256) (dt_M_payments 30 _ _ _ rfl) (sc_421 hS) rfl ?_
  refine s_letM (fun M6 => ?_)
  refine s_iconst (dt_M_payments 31 _ _ _ rfl) rfl ?_
  refine s_istore_n (dt_M_payments 32 _ _ _ rfl) rfl ?_
  refine s_bd (κ := (fun (e16 : KM) => kC 158 [some (VR (some 382)), some (VI e5.1), some (VI e5.2), none, none] [] S e16)) (s_mask [true, true, true, true, false] (s_while (c := fun s7 => kC 52 [some (VR (some 382)), some (VI e5.1), some (VI e5.2), some (VI s7.1), none] [] S s7.2) (fun s7 => ?_) ((1 : Int), M6))) ?_
  · refine s_iload_n (dt_M_payments 33 _ _ _ rfl) rfl ?_
    refine s_iload_n (dt_M_payments 34 _ _ _ rfl) rfl ?_
    refine s_if_icmp_gt (tgt := 158) (dt_M_payments 35 _ _ _ rfl) rfl ?_ ?_
    · refine s_aload_n (dt_M_payments 36 _ _ _ rfl) rfl ?_
      refine s_getR (c := 1) (j := 58) (o := (some 421)) (dt_M_payments 37 _ _ _ rfl) (kf_M_131) (sc_382 hS) rfl rfl ?_
      refine s_iload_n (dt_M_payments 38 _ _ _ rfl) rfl ?_
      refine s_iconst (dt_M_payments 39 _ _ _ rfl) rfl ?_
      refine s_iast (N := 256) (dt_M_payments 40 _ _ _ rfl) (sc_421 hS) rfl ?_
      refine s_letM (fun M8 => ?_)
      refine s_iconst (dt_M_payments 41 _ _ _ rfl) rfl ?_
      refine s_istore (dt_M_payments 42 _ _ _ rfl) rfl ?_
      refine s_bd (κ := (fun (e12 : KM) => kC 127 [some (VR (some 382)), some (VI e5.1), some (VI e5.2), some (VI s7.1), none] [] S e12)) (s_mask [true, true, true, true, true] (s_while (c := fun s9 => kC 67 [some (VR (some 382)), some (VI e5.1), some (VI e5.2), some (VI s7.1), some (VI s9.1)] [] S s9.2) (fun s9 => ?_) ((0 : Int), M8))) ?_
      · refine s_iload (dt_M_payments 43 _ _ _ rfl) rfl ?_
        refine s_bipush (dt_M_payments 44 _ _ _ rfl) rfl ?_
        refine s_if_icmp_ge (tgt := 127) (dt_M_payments 45 _ _ _ rfl) rfl ?_ ?_
        · refine s_iload_n (dt_M_payments 46 _ _ _ rfl) rfl ?_
          refine s_iload (dt_M_payments 47 _ _ _ rfl) rfl ?_
          refine s_ishr (dt_M_payments 48 _ _ _ rfl) ?_
          refine s_iconst (dt_M_payments 49 _ _ _ rfl) rfl ?_
          refine s_iand (dt_M_payments 50 _ _ _ rfl) ?_
          refine s_iconst (dt_M_payments 51 _ _ _ rfl) rfl ?_
          refine s_bd (κ := fun t11 => kC 121 [some (VR (some 382)), some (VI e5.1), some (VI e5.2), some (VI s7.1), some (VI s9.1)] [] S t11) ?_ (fun t11 => ?_)
          · refine s_if_icmp_ne (tgt := 121) (dt_M_payments 52 _ _ _ rfl) rfl ?_ ?_
            · refine s_aload_n (dt_M_payments 53 _ _ _ rfl) rfl ?_
              refine s_getR (c := 1) (j := 58) (o := (some 421)) (dt_M_payments 54 _ _ _ rfl) (kf_M_131) (sc_382 hS) rfl rfl ?_
              refine s_iload_n (dt_M_payments 55 _ _ _ rfl) rfl ?_
              refine s_iconst (dt_M_payments 56 _ _ _ rfl) rfl ?_
              refine s_iload (dt_M_payments 57 _ _ _ rfl) rfl ?_
              refine s_ishl (dt_M_payments 58 _ _ _ rfl) ?_
              refine s_isub (dt_M_payments 59 _ _ _ rfl) ?_
              refine s_iald (N := 256) (dt_M_payments 60 _ _ _ rfl) (sc_421 hS) rfl ?_
              refine s_aload_n (dt_M_payments 61 _ _ _ rfl) rfl ?_
              refine s_getR (c := 1) (j := 58) (o := (some 421)) (dt_M_payments 62 _ _ _ rfl) (kf_M_131) (sc_382 hS) rfl rfl ?_
              refine s_iload_n (dt_M_payments 63 _ _ _ rfl) rfl ?_
              refine s_iald (N := 256) (dt_M_payments 64 _ _ _ rfl) (sc_421 hS) rfl ?_
              refine s_if_icmp_le (tgt := 121) (dt_M_payments 65 _ _ _ rfl) rfl ?_ ?_
              · exact s_mask [true, true, true, true, true] (s_ret0 rfl)
              · refine s_aload_n (dt_M_payments 66 _ _ _ rfl) rfl ?_
                refine s_getR (c := 1) (j := 58) (o := (some 421)) (dt_M_payments 67 _ _ _ rfl) (kf_M_131) (sc_382 hS) rfl rfl ?_
                refine s_iload_n (dt_M_payments 68 _ _ _ rfl) rfl ?_
                refine s_aload_n (dt_M_payments 69 _ _ _ rfl) rfl ?_
                refine s_getR (c := 1) (j := 58) (o := (some 421)) (dt_M_payments 70 _ _ _ rfl) (kf_M_131) (sc_382 hS) rfl rfl ?_
                refine s_iload_n (dt_M_payments 71 _ _ _ rfl) rfl ?_
                refine s_iconst (dt_M_payments 72 _ _ _ rfl) rfl ?_
                refine s_iload (dt_M_payments 73 _ _ _ rfl) rfl ?_
                refine s_ishl (dt_M_payments 74 _ _ _ rfl) ?_
                refine s_isub (dt_M_payments 75 _ _ _ rfl) ?_
                refine s_iald (N := 256) (dt_M_payments 76 _ _ _ rfl) (sc_421 hS) rfl ?_
                refine s_iast (N := 256) (dt_M_payments 77 _ _ _ rfl) (sc_421 hS) rfl ?_
                refine s_letM (fun M10 => ?_)
                exact s_mask [true, true, true, true, true] (s_ret0 rfl)
            · exact s_mask [true, true, true, true, true] (s_ret0 rfl)
          refine s_iinc (dt_M_payments 78 _ _ _ rfl) rfl rfl ?_
          refine s_goto (tgt := 67) (dt_M_payments 79 _ _ _ rfl) rfl ?_
          exact s_mask [true, true, true, true, true] (s_ret0 rfl)
        · exact s_mask [true, true, true, true, false] (s_ret0 rfl)
      intro e12
      refine s_iload_n (dt_M_payments 80 _ _ _ rfl) rfl ?_
      refine s_iload_n (dt_M_payments 81 _ _ _ rfl) rfl ?_
      refine s_iand (dt_M_payments 82 _ _ _ rfl) ?_
      refine s_iload_n (dt_M_payments 83 _ _ _ rfl) rfl ?_
      refine s_bd (κ := fun t15 => kC 152 [some (VR (some 382)), some (VI e5.1), some (VI e5.2), some (VI s7.1), none] [] S t15) ?_ (fun t15 => ?_)
      · refine s_if_icmp_ne (tgt := 152) (dt_M_payments 84 _ _ _ rfl) rfl ?_ ?_
        · refine s_aload_n (dt_M_payments 85 _ _ _ rfl) rfl ?_
          refine s_iload_n (dt_M_payments 86 _ _ _ rfl) rfl ?_
          refine s_callO (y := y_M_netOf) (Y' := Y_M_netOf) (as := [VR (some 382), VI s7.1]) (r := fun q => some (VI q)) (M' := fun q => e12) (kInvV (dt_M_payments 87 _ _ _ rfl) kin_M_netOf 1 rfl (sc_382 hS) kse_M_netOf rfl) kl_M_482 md_M_netOf rfl rfl (fun q hq => c_M_netOf hS s7.1 e12 q hq) (fun q13 => ?_)
          refine s_if_ne (tgt := 152) (dt_M_payments 88 _ _ _ rfl) rfl ?_ ?_
          · refine s_aload_n (dt_M_payments 89 _ _ _ rfl) rfl ?_
            refine s_getR (c := 1) (j := 58) (o := (some 421)) (dt_M_payments 90 _ _ _ rfl) (kf_M_131) (sc_382 hS) rfl rfl ?_
            refine s_iload_n (dt_M_payments 91 _ _ _ rfl) rfl ?_
            refine s_dup2 (dt_M_payments 92 _ _ _ rfl) rfl rfl ?_
            refine s_iald (N := 256) (dt_M_payments 93 _ _ _ rfl) (sc_421 hS) rfl ?_
            refine s_iconst (dt_M_payments 94 _ _ _ rfl) rfl ?_
            refine s_iadd (dt_M_payments 95 _ _ _ rfl) ?_
            refine s_iast (N := 256) (dt_M_payments 96 _ _ _ rfl) (sc_421 hS) rfl ?_
            refine s_letM (fun M14 => ?_)
            exact s_mask [true, true, true, true, false] (s_ret0 rfl)
          · exact s_mask [true, true, true, true, false] (s_ret0 rfl)
        · exact s_mask [true, true, true, true, false] (s_ret0 rfl)
      refine s_iinc (dt_M_payments 97 _ _ _ rfl) rfl rfl ?_
      refine s_goto (tgt := 52) (dt_M_payments 98 _ _ _ rfl) rfl ?_
      exact s_mask [true, true, true, true, false] (s_ret0 rfl)
    · exact s_mask [true, true, true, false, false] (s_ret0 rfl)
  intro e16
  refine s_iload_n (dt_M_payments 99 _ _ _ rfl) rfl ?_
  refine s_aload_n (dt_M_payments 100 _ _ _ rfl) rfl ?_
  refine s_getR (c := 1) (j := 58) (o := (some 421)) (dt_M_payments 101 _ _ _ rfl) (kf_M_131) (sc_382 hS) rfl rfl ?_
  refine s_iload_n (dt_M_payments 102 _ _ _ rfl) rfl ?_
  refine s_iald (N := 256) (dt_M_payments 103 _ _ _ rfl) (sc_421 hS) rfl ?_
  refine s_isub (dt_M_payments 104 _ _ _ rfl) ?_
  exact s_iret (dt_M_payments 105 _ _ _ rfl) rfl rfl
theorem c_M_payments {S : KS} (hS : KExt 435 S)   (M : KM) : ∀ q, f_M_payments  M = some q → Ctr y_M_payments Y_M_payments [VR (some 382)] S M (some (VI q.1)) S (q.2) := fun q hq =>
  ctr_of md_M_payments (Nat.le_of_ble_eq_true rfl) ⟨Nat.le_refl _, Nat.le_refl _⟩ 4 hq rfl (fun _ G => sim_M_payments hS   M)
set_option maxRecDepth 100000 in
theorem sim_M_lentFrom {G : Gam} {S : KS} (hS : KExt 435 S)  (a0 : Int) (M : KM) : Sim G Y_M_lentFrom (f_M_lentFrom a0 M) (kC 0 [some (VR (some 382)), some (VI a0), none, none] [] S M) (fun (q : Int) => Sum.inr (some (VI q), S, M)) := by
  unfold f_M_lentFrom
  refine s_iconst (dt_M_lentFrom 0 _ _ _ rfl) rfl ?_
  refine s_istore_n (dt_M_lentFrom 1 _ _ _ rfl) rfl ?_
  refine s_iconst (dt_M_lentFrom 2 _ _ _ rfl) rfl ?_
  refine s_istore_n (dt_M_lentFrom 3 _ _ _ rfl) rfl ?_
  refine s_bd (κ := (fun (e4 : Int) => kC 74 [none, none, some (VI e4), none] [] S M)) (s_mask [true, true, true, true] (s_while (c := fun s1 => kC 4 [some (VR (some 382)), some (VI a0), some (VI s1.1), some (VI s1.2)] [] S M) (fun s1 => ?_) ((0 : Int), (0 : Int)))) ?_
  · refine s_iload_n (dt_M_lentFrom 4 _ _ _ rfl) rfl ?_
    refine s_aload_n (dt_M_lentFrom 5 _ _ _ rfl) rfl ?_
    refine s_getR (c := 1) (j := 46) (o := (some 411)) (dt_M_lentFrom 6 _ _ _ rfl) (kf_M_101) (sc_382 hS) rfl rfl ?_
    refine s_bipush (dt_M_lentFrom 7 _ _ _ rfl) rfl ?_
    refine s_iald (N := 171) (dt_M_lentFrom 8 _ _ _ rfl) (sc_411 hS) rfl ?_
    refine s_if_icmp_ge (tgt := 74) (dt_M_lentFrom 9 _ _ _ rfl) rfl ?_ ?_
    · refine s_aload_n (dt_M_lentFrom 10 _ _ _ rfl) rfl ?_
      refine s_getR (c := 1) (j := 46) (o := (some 411)) (dt_M_lentFrom 11 _ _ _ rfl) (kf_M_101) (sc_382 hS) rfl rfl ?_
      refine s_bipush (dt_M_lentFrom 12 _ _ _ rfl) rfl ?_
      refine s_iconst (dt_M_lentFrom 13 _ _ _ rfl) rfl ?_
      refine s_iload_n (dt_M_lentFrom 14 _ _ _ rfl) rfl ?_
      refine s_imul (dt_M_lentFrom 15 _ _ _ rfl) ?_
      refine s_iadd (dt_M_lentFrom 16 _ _ _ rfl) ?_
      refine s_iconst (dt_M_lentFrom 17 _ _ _ rfl) rfl ?_
      refine s_iadd (dt_M_lentFrom 18 _ _ _ rfl) ?_
      refine s_iald (N := 171) (dt_M_lentFrom 19 _ _ _ rfl) (sc_411 hS) rfl ?_
      refine s_bd (κ := fun t3 => kC 68 [some (VR (some 382)), some (VI a0), some (VI t3), some (VI s1.2)] [] S M) ?_ (fun t3 => ?_)
      · refine s_if_ne (tgt := 68) (dt_M_lentFrom 20 _ _ _ rfl) rfl ?_ ?_
        · refine s_iload_n (dt_M_lentFrom 21 _ _ _ rfl) rfl ?_
          refine s_aload_n (dt_M_lentFrom 22 _ _ _ rfl) rfl ?_
          refine s_getR (c := 1) (j := 46) (o := (some 411)) (dt_M_lentFrom 23 _ _ _ rfl) (kf_M_101) (sc_382 hS) rfl rfl ?_
          refine s_bipush (dt_M_lentFrom 24 _ _ _ rfl) rfl ?_
          refine s_iconst (dt_M_lentFrom 25 _ _ _ rfl) rfl ?_
          refine s_iload_n (dt_M_lentFrom 26 _ _ _ rfl) rfl ?_
          refine s_imul (dt_M_lentFrom 27 _ _ _ rfl) ?_
          refine s_iadd (dt_M_lentFrom 28 _ _ _ rfl) ?_
          refine s_iald (N := 171) (dt_M_lentFrom 29 _ _ _ rfl) (sc_411 hS) rfl ?_
          refine s_ishr (dt_M_lentFrom 30 _ _ _ rfl) ?_
          refine s_iconst (dt_M_lentFrom 31 _ _ _ rfl) rfl ?_
          refine s_iand (dt_M_lentFrom 32 _ _ _ rfl) ?_
          refine s_iconst (dt_M_lentFrom 33 _ _ _ rfl) rfl ?_
          refine s_if_icmp_ne (tgt := 68) (dt_M_lentFrom 34 _ _ _ rfl) rfl ?_ ?_
          · refine s_iload_n (dt_M_lentFrom 35 _ _ _ rfl) rfl ?_
            refine s_iconst (dt_M_lentFrom 36 _ _ _ rfl) rfl ?_
            refine s_aload_n (dt_M_lentFrom 37 _ _ _ rfl) rfl ?_
            refine s_getR (c := 1) (j := 46) (o := (some 411)) (dt_M_lentFrom 38 _ _ _ rfl) (kf_M_101) (sc_382 hS) rfl rfl ?_
            refine s_bipush (dt_M_lentFrom 39 _ _ _ rfl) rfl ?_
            refine s_iconst (dt_M_lentFrom 40 _ _ _ rfl) rfl ?_
            refine s_iload_n (dt_M_lentFrom 41 _ _ _ rfl) rfl ?_
            refine s_imul (dt_M_lentFrom 42 _ _ _ rfl) ?_
            refine s_iadd (dt_M_lentFrom 43 _ _ _ rfl) ?_
            refine s_iconst (dt_M_lentFrom 44 _ _ _ rfl) rfl ?_
            refine s_iadd (dt_M_lentFrom 45 _ _ _ rfl) ?_
            refine s_iald (N := 171) (dt_M_lentFrom 46 _ _ _ rfl) (sc_411 hS) rfl ?_
            refine s_ishl (dt_M_lentFrom 47 _ _ _ rfl) ?_
            refine s_ior (dt_M_lentFrom 48 _ _ _ rfl) ?_
            refine s_letI (fun v2 => ?_)
            refine s_istore_n (dt_M_lentFrom 49 _ _ _ rfl) rfl ?_
            exact s_mask [true, true, true, true] (s_ret0 rfl)
          · exact s_mask [true, true, true, true] (s_ret0 rfl)
        · exact s_mask [true, true, true, true] (s_ret0 rfl)
      refine s_iinc (dt_M_lentFrom 50 _ _ _ rfl) rfl rfl ?_
      refine s_goto (tgt := 4) (dt_M_lentFrom 51 _ _ _ rfl) rfl ?_
      exact s_mask [true, true, true, true] (s_ret0 rfl)
    · exact s_mask [false, false, true, false] (s_ret0 rfl)
  intro e4
  refine s_iload_n (dt_M_lentFrom 52 _ _ _ rfl) rfl ?_
  exact s_iret (dt_M_lentFrom 53 _ _ _ rfl) rfl rfl
theorem c_M_lentFrom {S : KS} (hS : KExt 435 S)  (a0 : Int) (M : KM) : ∀ q, f_M_lentFrom a0 M = some q → Ctr y_M_lentFrom Y_M_lentFrom [VR (some 382), VI a0] S M (some (VI q)) S (M) := fun q hq =>
  ctr_of md_M_lentFrom (Nat.le_of_ble_eq_true rfl) ⟨Nat.le_refl _, Nat.le_refl _⟩ 2 hq rfl (fun _ G => sim_M_lentFrom hS  a0 M)
set_option maxRecDepth 100000 in
theorem sim_M_ring {G : Gam} {S : KS} (hS : KExt 435 S)   (M : KM) : Sim G Y_M_ring (f_M_ring  M) (kC 0 [some (VR (some 382)), none, none, none, none] [] S M) (fun (q : Int) => Sum.inr (some (VI q), S, M)) := by
  unfold f_M_ring
  refine s_iconst (dt_M_ring 0 _ _ _ rfl) rfl ?_
  refine s_istore_n (dt_M_ring 1 _ _ _ rfl) rfl ?_
  refine s_iconst (dt_M_ring 2 _ _ _ rfl) rfl ?_
  refine s_istore_n (dt_M_ring 3 _ _ _ rfl) rfl ?_
  refine s_bd (κ := (fun (e9 : Int) => kC 58 [none, some (VI e9), none, none, none] [] S M)) (s_mask [true, true, true, false, false] (s_while (c := fun s1 => kC 4 [some (VR (some 382)), some (VI s1.1), some (VI s1.2), none, none] [] S M) (fun s1 => ?_) ((0 : Int), (0 : Int)))) ?_
  · refine s_iload_n (dt_M_ring 4 _ _ _ rfl) rfl ?_
    refine s_aload_n (dt_M_ring 5 _ _ _ rfl) rfl ?_
    refine s_callO (y := y_M_many) (Y' := Y_M_many) (as := [VR (some 382)]) (r := fun q => some (VI q)) (M' := fun q => M) (kInvV (dt_M_ring 6 _ _ _ rfl) kin_M_many 1 rfl (sc_382 hS) kse_M_many rfl) kl_M_385 md_M_many rfl rfl (fun q hq => c_M_many hS M q hq) (fun q2 => ?_)
    refine s_if_icmp_ge (tgt := 58) (dt_M_ring 7 _ _ _ rfl) rfl ?_ ?_
    · refine s_aload_n (dt_M_ring 8 _ _ _ rfl) rfl ?_
      refine s_iconst (dt_M_ring 9 _ _ _ rfl) rfl ?_
      refine s_iload_n (dt_M_ring 10 _ _ _ rfl) rfl ?_
      refine s_ishl (dt_M_ring 11 _ _ _ rfl) ?_
      refine s_callO (y := y_M_lentFrom) (Y' := Y_M_lentFrom) (as := [VR (some 382), VI (kishl (1 : Int) s1.2)]) (r := fun q => some (VI q)) (M' := fun q => M) (kInvV (dt_M_ring 12 _ _ _ rfl) kin_M_lentFrom 1 rfl (sc_382 hS) kse_M_lentFrom rfl) kl_M_485 md_M_lentFrom rfl rfl (fun q hq => c_M_lentFrom hS (kishl (1 : Int) s1.2) M q hq) (fun q3 => ?_)
      refine s_istore_n (dt_M_ring 13 _ _ _ rfl) rfl ?_
      refine s_iconst (dt_M_ring 14 _ _ _ rfl) rfl ?_
      refine s_istore (dt_M_ring 15 _ _ _ rfl) rfl ?_
      refine s_bd (κ := (fun (e7 : Int) => kC 44 [some (VR (some 382)), some (VI s1.1), some (VI s1.2), some (VI e7), none] [] S M)) (s_mask [true, true, true, true, true] (s_while (c := fun s4 => kC 23 [some (VR (some 382)), some (VI s1.1), some (VI s1.2), some (VI s4.1), some (VI s4.2)] [] S M) (fun s4 => ?_) (q3, (0 : Int)))) ?_
      · refine s_iload (dt_M_ring 16 _ _ _ rfl) rfl ?_
        refine s_bipush (dt_M_ring 17 _ _ _ rfl) rfl ?_
        refine s_if_icmp_ge (tgt := 44) (dt_M_ring 18 _ _ _ rfl) rfl ?_ ?_
        · refine s_iload_n (dt_M_ring 19 _ _ _ rfl) rfl ?_
          refine s_aload_n (dt_M_ring 20 _ _ _ rfl) rfl ?_
          refine s_iload_n (dt_M_ring 21 _ _ _ rfl) rfl ?_
          refine s_callO (y := y_M_lentFrom) (Y' := Y_M_lentFrom) (as := [VR (some 382), VI s4.1]) (r := fun q => some (VI q)) (M' := fun q => M) (kInvV (dt_M_ring 22 _ _ _ rfl) kin_M_lentFrom 1 rfl (sc_382 hS) kse_M_lentFrom rfl) kl_M_485 md_M_lentFrom rfl rfl (fun q hq => c_M_lentFrom hS s4.1 M q hq) (fun q5 => ?_)
          refine s_ior (dt_M_ring 23 _ _ _ rfl) ?_
          refine s_letI (fun v6 => ?_)
          refine s_istore_n (dt_M_ring 24 _ _ _ rfl) rfl ?_
          refine s_iinc (dt_M_ring 25 _ _ _ rfl) rfl rfl ?_
          refine s_goto (tgt := 23) (dt_M_ring 26 _ _ _ rfl) rfl ?_
          exact s_mask [true, true, true, true, true] (s_ret0 rfl)
        · exact s_mask [true, true, true, true, false] (s_ret0 rfl)
      intro e7
      refine s_iload_n (dt_M_ring 27 _ _ _ rfl) rfl ?_
      refine s_iload_n (dt_M_ring 28 _ _ _ rfl) rfl ?_
      refine s_iconst (dt_M_ring 29 _ _ _ rfl) rfl ?_
      refine s_iload_n (dt_M_ring 30 _ _ _ rfl) rfl ?_
      refine s_ishl (dt_M_ring 31 _ _ _ rfl) ?_
      refine s_iand (dt_M_ring 32 _ _ _ rfl) ?_
      refine s_ior (dt_M_ring 33 _ _ _ rfl) ?_
      refine s_letI (fun v8 => ?_)
      refine s_istore_n (dt_M_ring 34 _ _ _ rfl) rfl ?_
      refine s_iinc (dt_M_ring 35 _ _ _ rfl) rfl rfl ?_
      refine s_goto (tgt := 4) (dt_M_ring 36 _ _ _ rfl) rfl ?_
      exact s_mask [true, true, true, false, false] (s_ret0 rfl)
    · exact s_mask [false, true, false, false, false] (s_ret0 rfl)
  intro e9
  refine s_iload_n (dt_M_ring 37 _ _ _ rfl) rfl ?_
  exact s_iret (dt_M_ring 38 _ _ _ rfl) rfl rfl
theorem c_M_ring {S : KS} (hS : KExt 435 S)   (M : KM) : ∀ q, f_M_ring  M = some q → Ctr y_M_ring Y_M_ring [VR (some 382)] S M (some (VI q)) S (M) := fun q hq =>
  ctr_of md_M_ring (Nat.le_of_ble_eq_true rfl) ⟨Nat.le_refl _, Nat.le_refl _⟩ 4 hq rfl (fun _ G => sim_M_ring hS   M)
set_option maxRecDepth 100000 in
theorem sim_M_marketAt {G : Gam} {S : KS} (hS : KExt 435 S)  (a0 : Int) (a1 : Int) (M : KM) : Sim G Y_M_marketAt (f_M_marketAt a0 a1 M) (kC 0 [some (VR (some 382)), some (VI a0), some (VI a1), none, none, none] [] S M) (fun (q : Int) => Sum.inr (some (VI q), S, M)) := by
  unfold f_M_marketAt
  refine s_iconst (dt_M_marketAt 0 _ _ _ rfl) rfl ?_
  refine s_istore_n (dt_M_marketAt 1 _ _ _ rfl) rfl ?_
  refine s_iconst (dt_M_marketAt 2 _ _ _ rfl) rfl ?_
  refine s_istore (dt_M_marketAt 3 _ _ _ rfl) rfl ?_
  refine s_bd (κ := (fun (e9 : Int) => kC 119 [none, none, none, some (VI e9), none, none] [] S M)) (s_mask [true, true, true, true, true, false] (s_while (c := fun s1 => kC 5 [some (VR (some 382)), some (VI a0), some (VI a1), some (VI s1.1), some (VI s1.2), none] [] S M) (fun s1 => ?_) ((0 : Int), (0 : Int)))) ?_
  · refine s_iload (dt_M_marketAt 4 _ _ _ rfl) rfl ?_
    refine s_aload_n (dt_M_marketAt 5 _ _ _ rfl) rfl ?_
    refine s_callO (y := y_M_many) (Y' := Y_M_many) (as := [VR (some 382)]) (r := fun q => some (VI q)) (M' := fun q => M) (kInvV (dt_M_marketAt 6 _ _ _ rfl) kin_M_many 1 rfl (sc_382 hS) kse_M_many rfl) kl_M_385 md_M_many rfl rfl (fun q hq => c_M_many hS M q hq) (fun q2 => ?_)
    refine s_if_icmp_ge (tgt := 119) (dt_M_marketAt 7 _ _ _ rfl) rfl ?_ ?_
    · refine s_aload_n (dt_M_marketAt 8 _ _ _ rfl) rfl ?_
      refine s_iload (dt_M_marketAt 9 _ _ _ rfl) rfl ?_
      refine s_callO (y := y_M_isAlive) (Y' := Y_M_isAlive) (as := [VR (some 382), VI s1.2]) (r := fun q => some (VI q)) (M' := fun q => M) (kInvV (dt_M_marketAt 10 _ _ _ rfl) kin_M_isAlive 1 rfl (sc_382 hS) kse_M_isAlive rfl) kl_M_404 md_M_isAlive rfl rfl (fun q hq => c_M_isAlive hS s1.2 M q hq) (fun q3 => ?_)
      refine s_bd (κ := fun t8 => kC 113 [some (VR (some 382)), some (VI a0), some (VI a1), some (VI t8), some (VI s1.2), none] [] S M) ?_ (fun t8 => ?_)
      · refine s_if_eq (tgt := 113) (dt_M_marketAt 11 _ _ _ rfl) rfl ?_ ?_
        · exact s_mask [true, true, true, true, true, false] (s_ret0 rfl)
        · refine s_iload (dt_M_marketAt 12 _ _ _ rfl) rfl ?_
          refine s_aload_n (dt_M_marketAt 13 _ _ _ rfl) rfl ?_
          refine s_getI (c := 1) (j := 59) (dt_M_marketAt 14 _ _ _ rfl) (kf_M_134) (sc_382 hS) rfl ?_
          refine s_if_icmp_ne (tgt := 35) (dt_M_marketAt 15 _ _ _ rfl) rfl ?_ ?_
          · refine s_goto (tgt := 113) (dt_M_marketAt 16 _ _ _ rfl) rfl ?_
            exact s_mask [true, true, true, true, true, false] (s_ret0 rfl)
          · refine s_aload_n (dt_M_marketAt 17 _ _ _ rfl) rfl ?_
            refine s_getR (c := 1) (j := 21) (o := (some 395)) (dt_M_marketAt 18 _ _ _ rfl) (kf_M_51) (sc_382 hS) rfl rfl ?_
            refine s_bipush (dt_M_marketAt 19 _ _ _ rfl) rfl ?_
            refine s_aload_n (dt_M_marketAt 20 _ _ _ rfl) rfl ?_
            refine s_getI (c := 1) (j := 37) (dt_M_marketAt 21 _ _ _ rfl) (kf_M_288) (sc_382 hS) rfl ?_
            refine s_imul (dt_M_marketAt 22 _ _ _ rfl) ?_
            refine s_iload (dt_M_marketAt 23 _ _ _ rfl) rfl ?_
            refine s_iadd (dt_M_marketAt 24 _ _ _ rfl) ?_
            refine s_iald (N := 16) (dt_M_marketAt 25 _ _ _ rfl) (sc_395 hS) rfl ?_
            refine s_aload_n (dt_M_marketAt 26 _ _ _ rfl) rfl ?_
            refine s_getR (c := 1) (j := 46) (o := (some 411)) (dt_M_marketAt 27 _ _ _ rfl) (kf_M_101) (sc_382 hS) rfl rfl ?_
            refine s_iconst (dt_M_marketAt 28 _ _ _ rfl) rfl ?_
            refine s_iload (dt_M_marketAt 29 _ _ _ rfl) rfl ?_
            refine s_iadd (dt_M_marketAt 30 _ _ _ rfl) ?_
            refine s_iald (N := 171) (dt_M_marketAt 31 _ _ _ rfl) (sc_411 hS) rfl ?_
            refine s_isub (dt_M_marketAt 32 _ _ _ rfl) ?_
            refine s_letI (fun v4 => ?_)
            refine s_istore (dt_M_marketAt 33 _ _ _ rfl) rfl ?_
            refine s_iload (dt_M_marketAt 34 _ _ _ rfl) rfl ?_
            refine s_bd (κ := fun t6 => kC 108 [some (VR (some 382)), some (VI a0), some (VI a1), some (VI s1.1), some (VI s1.2), some (VI t6)] [] S M) ?_ (fun t6 => ?_)
            · refine s_if_le (tgt := 108) (dt_M_marketAt 35 _ _ _ rfl) rfl ?_ ?_
              · exact s_mask [true, true, true, true, true, true] (s_ret0 rfl)
              · refine s_iload_n (dt_M_marketAt 36 _ _ _ rfl) rfl ?_
                refine s_iload_n (dt_M_marketAt 37 _ _ _ rfl) rfl ?_
                refine s_iadd (dt_M_marketAt 38 _ _ _ rfl) ?_
                refine s_if_le (tgt := 108) (dt_M_marketAt 39 _ _ _ rfl) rfl ?_ ?_
                · exact s_mask [true, true, true, true, true, true] (s_ret0 rfl)
                · refine s_aload_n (dt_M_marketAt 40 _ _ _ rfl) rfl ?_
                  refine s_getR (c := 1) (j := 46) (o := (some 411)) (dt_M_marketAt 41 _ _ _ rfl) (kf_M_101) (sc_382 hS) rfl rfl ?_
                  refine s_bipush (dt_M_marketAt 42 _ _ _ rfl) rfl ?_
                  refine s_iload (dt_M_marketAt 43 _ _ _ rfl) rfl ?_
                  refine s_iadd (dt_M_marketAt 44 _ _ _ rfl) ?_
                  refine s_iald (N := 171) (dt_M_marketAt 45 _ _ _ rfl) (sc_411 hS) rfl ?_
                  refine s_iload_n (dt_M_marketAt 46 _ _ _ rfl) rfl ?_
                  refine s_iload_n (dt_M_marketAt 47 _ _ _ rfl) rfl ?_
                  refine s_iadd (dt_M_marketAt 48 _ _ _ rfl) ?_
                  refine s_idiv (dt_M_marketAt 49 _ _ _ rfl) ?_
                  refine s_iload (dt_M_marketAt 50 _ _ _ rfl) rfl ?_
                  refine s_if_icmp_ge (tgt := 108) (dt_M_marketAt 51 _ _ _ rfl) rfl ?_ ?_
                  · refine s_aload_n (dt_M_marketAt 52 _ _ _ rfl) rfl ?_
                    refine s_getR (c := 1) (j := 46) (o := (some 411)) (dt_M_marketAt 53 _ _ _ rfl) (kf_M_101) (sc_382 hS) rfl rfl ?_
                    refine s_bipush (dt_M_marketAt 54 _ _ _ rfl) rfl ?_
                    refine s_iload (dt_M_marketAt 55 _ _ _ rfl) rfl ?_
                    refine s_iadd (dt_M_marketAt 56 _ _ _ rfl) ?_
                    refine s_iald (N := 171) (dt_M_marketAt 57 _ _ _ rfl) (sc_411 hS) rfl ?_
                    refine s_iload_n (dt_M_marketAt 58 _ _ _ rfl) rfl ?_
                    refine s_iload_n (dt_M_marketAt 59 _ _ _ rfl) rfl ?_
                    refine s_iadd (dt_M_marketAt 60 _ _ _ rfl) ?_
                    refine s_idiv (dt_M_marketAt 61 _ _ _ rfl) ?_
                    refine s_letI (fun v5 => ?_)
                    refine s_istore (dt_M_marketAt 62 _ _ _ rfl) rfl ?_
                    exact s_mask [true, true, true, true, true, true] (s_ret0 rfl)
                  · exact s_mask [true, true, true, true, true, true] (s_ret0 rfl)
            refine s_iload_n (dt_M_marketAt 63 _ _ _ rfl) rfl ?_
            refine s_iload (dt_M_marketAt 64 _ _ _ rfl) rfl ?_
            refine s_iadd (dt_M_marketAt 65 _ _ _ rfl) ?_
            refine s_letI (fun v7 => ?_)
            refine s_istore_n (dt_M_marketAt 66 _ _ _ rfl) rfl ?_
            exact s_mask [true, true, true, true, true, false] (s_ret0 rfl)
      refine s_iinc (dt_M_marketAt 67 _ _ _ rfl) rfl rfl ?_
      refine s_goto (tgt := 5) (dt_M_marketAt 68 _ _ _ rfl) rfl ?_
      exact s_mask [true, true, true, true, true, false] (s_ret0 rfl)
    · exact s_mask [false, false, false, true, false, false] (s_ret0 rfl)
  intro e9
  refine s_iload_n (dt_M_marketAt 69 _ _ _ rfl) rfl ?_
  exact s_iret (dt_M_marketAt 70 _ _ _ rfl) rfl rfl
theorem c_M_marketAt {S : KS} (hS : KExt 435 S)  (a0 : Int) (a1 : Int) (M : KM) : ∀ q, f_M_marketAt a0 a1 M = some q → Ctr y_M_marketAt Y_M_marketAt [VR (some 382), VI a0, VI a1] S M (some (VI q)) S (M) := fun q hq =>
  ctr_of md_M_marketAt (Nat.le_of_ble_eq_true rfl) ⟨Nat.le_refl _, Nat.le_refl _⟩ 3 hq rfl (fun _ G => sim_M_marketAt hS  a0 a1 M)
set_option maxRecDepth 100000 in
theorem sim_M_market {G : Gam} {S : KS} (hS : KExt 435 S)  (a0 : Int) (a1 : Int) (M : KM) : Sim G Y_M_market (f_M_market a0 a1 M) (kC 0 [some (VR (some 382)), some (VI a0), some (VI a1)] [] S M) (fun (q : Int) => Sum.inr (some (VI q), S, M)) := by
  unfold f_M_market
  refine s_iload_n (dt_M_market 0 _ _ _ rfl) rfl ?_
  refine s_iconst (dt_M_market 1 _ _ _ rfl) rfl ?_
  refine s_bipush (dt_M_market 2 _ _ _ rfl) rfl ?_
  refine s_callO (y := y_M_isIn) (Y' := Y_M_isIn) (as := [VI a0, VI (0 : Int), VI (99 : Int)]) (r := fun q => some (VI q)) (M' := fun q => M) (kInvS (dt_M_market 3 _ _ _ rfl) kst_M_isIn rfl) kl_M_388 md_M_isIn rfl rfl (fun q hq => c_M_isIn hS a0 (0 : Int) (99 : Int) M q hq) (fun q1 => ?_)
  refine s_bd (κ := fun t4 => kC 32 [none, none, none] [VI t4] S M) ?_ (fun t4 => ?_)
  · refine s_if_eq (tgt := 29) (dt_M_market 4 _ _ _ rfl) rfl ?_ ?_
    · refine s_ldcw (n := (-1000000 : Int)) (kc_M_428) (dt_M_market 15 _ _ _ rfl) rfl ?_
      exact s_mask [false, false, false] (s_ret0 rfl)
    · refine s_iload_n (dt_M_market 5 _ _ _ rfl) rfl ?_
      refine s_iconst (dt_M_market 6 _ _ _ rfl) rfl ?_
      refine s_bipush (dt_M_market 7 _ _ _ rfl) rfl ?_
      refine s_callO (y := y_M_isIn) (Y' := Y_M_isIn) (as := [VI a1, VI (0 : Int), VI (99 : Int)]) (r := fun q => some (VI q)) (M' := fun q => M) (kInvS (dt_M_market 8 _ _ _ rfl) kst_M_isIn rfl) kl_M_388 md_M_isIn rfl rfl (fun q hq => c_M_isIn hS a1 (0 : Int) (99 : Int) M q hq) (fun q2 => ?_)
      refine s_if_eq (tgt := 29) (dt_M_market 9 _ _ _ rfl) rfl ?_ ?_
      · refine s_ldcw (n := (-1000000 : Int)) (kc_M_428) (dt_M_market 15 _ _ _ rfl) rfl ?_
        exact s_mask [false, false, false] (s_ret0 rfl)
      · refine s_aload_n (dt_M_market 10 _ _ _ rfl) rfl ?_
        refine s_iload_n (dt_M_market 11 _ _ _ rfl) rfl ?_
        refine s_iload_n (dt_M_market 12 _ _ _ rfl) rfl ?_
        refine s_callO (y := y_M_marketAt) (Y' := Y_M_marketAt) (as := [VR (some 382), VI a0, VI a1]) (r := fun q => some (VI q)) (M' := fun q => M) (kInvV (dt_M_market 13 _ _ _ rfl) kin_M_marketAt 1 rfl (sc_382 hS) kse_M_marketAt rfl) kl_M_488 md_M_marketAt rfl rfl (fun q hq => c_M_marketAt hS a0 a1 M q hq) (fun q3 => ?_)
        refine s_goto (tgt := 32) (dt_M_market 14 _ _ _ rfl) rfl ?_
        exact s_mask [false, false, false] (s_ret0 rfl)
  exact s_iret (dt_M_market 16 _ _ _ rfl) rfl rfl
theorem c_M_market {S : KS} (hS : KExt 435 S)  (a0 : Int) (a1 : Int) (M : KM) : ∀ q, f_M_market a0 a1 M = some q → Ctr y_M_market Y_M_market [VR (some 382), VI a0, VI a1] S M (some (VI q)) S (M) := fun q hq =>
  ctr_of md_M_market (Nat.le_of_ble_eq_true rfl) ⟨Nat.le_refl _, Nat.le_refl _⟩ 0 hq rfl (fun _ G => sim_M_market hS  a0 a1 M)
set_option maxRecDepth 100000 in
theorem sim_M_restsAt {G : Gam} {S : KS} (hS : KExt 435 S)  (a0 : Int) (M : KM) : Sim G Y_M_restsAt (f_M_restsAt a0 M) (kC 0 [some (VR (some 382)), some (VI a0), none, none, none, none] [] S M) (fun (q : Int) => Sum.inr (some (VI q), S, M)) := by
  unfold f_M_restsAt
  refine s_iconst (dt_M_restsAt 0 _ _ _ rfl) rfl ?_
  refine s_istore_n (dt_M_restsAt 1 _ _ _ rfl) rfl ?_
  refine s_iconst (dt_M_restsAt 2 _ _ _ rfl) rfl ?_
  refine s_istore_n (dt_M_restsAt 3 _ _ _ rfl) rfl ?_
  refine s_bd (κ := (fun (e7 : Int) => kC 63 [none, none, some (VI e7), none, none, none] [] S M)) (s_mask [true, true, true, true, false, false] (s_while (c := fun s1 => kC 4 [some (VR (some 382)), some (VI a0), some (VI s1.1), some (VI s1.2), none, none] [] S M) (fun s1 => ?_) ((0 : Int), (1 : Int)))) ?_
  · refine s_iload_n (dt_M_restsAt 4 _ _ _ rfl) rfl ?_
    refine s_bipush (dt_M_restsAt 5 _ _ _ rfl) rfl ?_
    refine s_if_icmp_gt (tgt := 63) (dt_M_restsAt 6 _ _ _ rfl) rfl ?_ ?_
    · refine s_aload_n (dt_M_restsAt 7 _ _ _ rfl) rfl ?_
      refine s_iload_n (dt_M_restsAt 8 _ _ _ rfl) rfl ?_
      refine s_iload_n (dt_M_restsAt 9 _ _ _ rfl) rfl ?_
      refine s_callO (y := y_M_marketAt) (Y' := Y_M_marketAt) (as := [VR (some 382), VI s1.2, VI a0]) (r := fun q => some (VI q)) (M' := fun q => M) (kInvV (dt_M_restsAt 10 _ _ _ rfl) kin_M_marketAt 1 rfl (sc_382 hS) kse_M_marketAt rfl) kl_M_488 md_M_marketAt rfl rfl (fun q hq => c_M_marketAt hS s1.2 a0 M q hq) (fun q2 => ?_)
      refine s_istore (dt_M_restsAt 11 _ _ _ rfl) rfl ?_
      refine s_aload_n (dt_M_restsAt 12 _ _ _ rfl) rfl ?_
      refine s_iload_n (dt_M_restsAt 13 _ _ _ rfl) rfl ?_
      refine s_iload_n (dt_M_restsAt 14 _ _ _ rfl) rfl ?_
      refine s_callO (y := y_M_marketAt) (Y' := Y_M_marketAt) (as := [VR (some 382), VI s1.1, VI a0]) (r := fun q => some (VI q)) (M' := fun q => M) (kInvV (dt_M_restsAt 15 _ _ _ rfl) kin_M_marketAt 1 rfl (sc_382 hS) kse_M_marketAt rfl) kl_M_488 md_M_marketAt rfl rfl (fun q hq => c_M_marketAt hS s1.1 a0 M q hq) (fun q3 => ?_)
      refine s_istore (dt_M_restsAt 16 _ _ _ rfl) rfl ?_
      refine s_iload (dt_M_restsAt 17 _ _ _ rfl) rfl ?_
      refine s_bd (κ := fun t4 => kC 39 [some (VR (some 382)), some (VI a0), some (VI s1.1), some (VI s1.2), none, some (VI q3)] [VI t4] S M) ?_ (fun t4 => ?_)
      · refine s_if_ge (tgt := 37) (dt_M_restsAt 18 _ _ _ rfl) rfl ?_ ?_
        · refine s_iload (dt_M_restsAt 19 _ _ _ rfl) rfl ?_
          refine s_ineg (dt_M_restsAt 20 _ _ _ rfl) ?_
          refine s_goto (tgt := 39) (dt_M_restsAt 21 _ _ _ rfl) rfl ?_
          exact s_mask [true, true, true, true, false, true] (s_ret0 rfl)
        · refine s_iload (dt_M_restsAt 22 _ _ _ rfl) rfl ?_
          exact s_mask [true, true, true, true, false, true] (s_ret0 rfl)
      refine s_iload (dt_M_restsAt 23 _ _ _ rfl) rfl ?_
      refine s_bd (κ := fun t5 => kC 52 [some (VR (some 382)), some (VI a0), some (VI s1.1), some (VI s1.2), none, none] [VI t5, VI t4] S M) ?_ (fun t5 => ?_)
      · refine s_if_ge (tgt := 50) (dt_M_restsAt 24 _ _ _ rfl) rfl ?_ ?_
        · refine s_iload (dt_M_restsAt 25 _ _ _ rfl) rfl ?_
          refine s_ineg (dt_M_restsAt 26 _ _ _ rfl) ?_
          refine s_goto (tgt := 52) (dt_M_restsAt 27 _ _ _ rfl) rfl ?_
          exact s_mask [true, true, true, true, false, false] (s_ret0 rfl)
        · refine s_iload (dt_M_restsAt 28 _ _ _ rfl) rfl ?_
          exact s_mask [true, true, true, true, false, false] (s_ret0 rfl)
      refine s_bd (κ := fun t6 => kC 57 [some (VR (some 382)), some (VI a0), some (VI t6), some (VI s1.2), none, none] [] S M) ?_ (fun t6 => ?_)
      · refine s_if_icmp_ge (tgt := 57) (dt_M_restsAt 29 _ _ _ rfl) rfl ?_ ?_
        · refine s_iload_n (dt_M_restsAt 30 _ _ _ rfl) rfl ?_
          refine s_istore_n (dt_M_restsAt 31 _ _ _ rfl) rfl ?_
          exact s_mask [true, true, true, true, false, false] (s_ret0 rfl)
        · exact s_mask [true, true, true, true, false, false] (s_ret0 rfl)
      refine s_iinc (dt_M_restsAt 32 _ _ _ rfl) rfl rfl ?_
      refine s_goto (tgt := 4) (dt_M_restsAt 33 _ _ _ rfl) rfl ?_
      exact s_mask [true, true, true, true, false, false] (s_ret0 rfl)
    · exact s_mask [false, false, true, false, false, false] (s_ret0 rfl)
  intro e7
  refine s_iload_n (dt_M_restsAt 34 _ _ _ rfl) rfl ?_
  exact s_iret (dt_M_restsAt 35 _ _ _ rfl) rfl rfl
theorem c_M_restsAt {S : KS} (hS : KExt 435 S)  (a0 : Int) (M : KM) : ∀ q, f_M_restsAt a0 M = some q → Ctr y_M_restsAt Y_M_restsAt [VR (some 382), VI a0] S M (some (VI q)) S (M) := fun q hq =>
  ctr_of md_M_restsAt (Nat.le_of_ble_eq_true rfl) ⟨Nat.le_refl _, Nat.le_refl _⟩ 4 hq rfl (fun _ G => sim_M_restsAt hS  a0 M)
set_option maxRecDepth 100000 in
theorem sim_M_rests {G : Gam} {S : KS} (hS : KExt 435 S)  (a0 : Int) (a1 : Int) (M : KM) : Sim G Y_M_rests (f_M_rests a0 a1 M) (kC 0 [some (VR (some 382)), some (VI a0), some (VI a1), none] [] S M) (fun (q : Int) => Sum.inr (some (VI q), S, M)) := by
  unfold f_M_rests
  refine s_iload_n (dt_M_rests 0 _ _ _ rfl) rfl ?_
  refine s_iconst (dt_M_rests 1 _ _ _ rfl) rfl ?_
  refine s_bipush (dt_M_rests 2 _ _ _ rfl) rfl ?_
  refine s_callO (y := y_M_isIn) (Y' := Y_M_isIn) (as := [VI a0, VI (0 : Int), VI (99 : Int)]) (r := fun q => some (VI q)) (M' := fun q => M) (kInvS (dt_M_rests 3 _ _ _ rfl) kst_M_isIn rfl) kl_M_388 md_M_isIn rfl rfl (fun q hq => c_M_isIn hS a0 (0 : Int) (99 : Int) M q hq) (fun q1 => ?_)
  refine s_if_eq (tgt := 19) (dt_M_rests 4 _ _ _ rfl) rfl ?_ ?_
  · refine s_ldcw (n := (-1000000 : Int)) (kc_M_428) (dt_M_rests 10 _ _ _ rfl) rfl ?_
    exact s_iret (dt_M_rests 11 _ _ _ rfl) rfl rfl
  · refine s_iload_n (dt_M_rests 5 _ _ _ rfl) rfl ?_
    refine s_iconst (dt_M_rests 6 _ _ _ rfl) rfl ?_
    refine s_iconst (dt_M_rests 7 _ _ _ rfl) rfl ?_
    refine s_callO (y := y_M_isIn) (Y' := Y_M_isIn) (as := [VI a1, VI (0 : Int), VI (1 : Int)]) (r := fun q => some (VI q)) (M' := fun q => M) (kInvS (dt_M_rests 8 _ _ _ rfl) kst_M_isIn rfl) kl_M_388 md_M_isIn rfl rfl (fun q hq => c_M_isIn hS a1 (0 : Int) (1 : Int) M q hq) (fun q2 => ?_)
    refine s_if_ne (tgt := 23) (dt_M_rests 9 _ _ _ rfl) rfl ?_ ?_
    · refine s_ldcw (n := (-1000000 : Int)) (kc_M_428) (dt_M_rests 10 _ _ _ rfl) rfl ?_
      exact s_iret (dt_M_rests 11 _ _ _ rfl) rfl rfl
    · refine s_aload_n (dt_M_rests 12 _ _ _ rfl) rfl ?_
      refine s_iload_n (dt_M_rests 13 _ _ _ rfl) rfl ?_
      refine s_callO (y := y_M_restsAt) (Y' := Y_M_restsAt) (as := [VR (some 382), VI a0]) (r := fun q => some (VI q)) (M' := fun q => M) (kInvV (dt_M_rests 14 _ _ _ rfl) kin_M_restsAt 1 rfl (sc_382 hS) kse_M_restsAt rfl) kl_M_491 md_M_restsAt rfl rfl (fun q hq => c_M_restsAt hS a0 M q hq) (fun q3 => ?_)
      refine s_istore_n (dt_M_rests 15 _ _ _ rfl) rfl ?_
      refine s_iload_n (dt_M_rests 16 _ _ _ rfl) rfl ?_
      refine s_bd (κ := fun t5 => kC 43 [none, none, none, none] [VI t5] S M) ?_ (fun t5 => ?_)
      · refine s_if_ne (tgt := 37) (dt_M_rests 17 _ _ _ rfl) rfl ?_ ?_
        · refine s_iload_n (dt_M_rests 18 _ _ _ rfl) rfl ?_
          refine s_goto (tgt := 43) (dt_M_rests 19 _ _ _ rfl) rfl ?_
          exact s_mask [false, false, false, false] (s_ret0 rfl)
        · refine s_aload_n (dt_M_rests 20 _ _ _ rfl) rfl ?_
          refine s_iload_n (dt_M_rests 21 _ _ _ rfl) rfl ?_
          refine s_iload_n (dt_M_rests 22 _ _ _ rfl) rfl ?_
          refine s_callO (y := y_M_marketAt) (Y' := Y_M_marketAt) (as := [VR (some 382), VI q3, VI a0]) (r := fun q => some (VI q)) (M' := fun q => M) (kInvV (dt_M_rests 23 _ _ _ rfl) kin_M_marketAt 1 rfl (sc_382 hS) kse_M_marketAt rfl) kl_M_488 md_M_marketAt rfl rfl (fun q hq => c_M_marketAt hS q3 a0 M q hq) (fun q4 => ?_)
          exact s_mask [false, false, false, false] (s_ret0 rfl)
      exact s_iret (dt_M_rests 24 _ _ _ rfl) rfl rfl
theorem c_M_rests {S : KS} (hS : KExt 435 S)  (a0 : Int) (a1 : Int) (M : KM) : ∀ q, f_M_rests a0 a1 M = some q → Ctr y_M_rests Y_M_rests [VR (some 382), VI a0, VI a1] S M (some (VI q)) S (M) := fun q hq =>
  ctr_of md_M_rests (Nat.le_of_ble_eq_true rfl) ⟨Nat.le_refl _, Nat.le_refl _⟩ 1 hq rfl (fun _ G => sim_M_rests hS  a0 a1 M)
set_option maxRecDepth 100000 in
theorem sim_M_corner {G : Gam} {S : KS} (hS : KExt 435 S)  (a0 : Int) (a1 : Int) (M : KM) : Sim G Y_M_corner (f_M_corner a0 a1 M) (kC 0 [some (VR (some 382)), some (VI a0), some (VI a1), none, none] [] S M) (fun (q : Int × KM) => Sum.inr (some (VI q.1), S, q.2)) := by
  unfold f_M_corner
  refine s_aload_n (dt_M_corner 0 _ _ _ rfl) rfl ?_
  refine s_iload_n (dt_M_corner 1 _ _ _ rfl) rfl ?_
  refine s_callO (y := y_M_isPerson) (Y' := Y_M_isPerson) (as := [VR (some 382), VI a0]) (r := fun q => some (VI q)) (M' := fun q => M) (kInvV (dt_M_corner 2 _ _ _ rfl) kin_M_isPerson 1 rfl (sc_382 hS) kse_M_isPerson rfl) kl_M_413 md_M_isPerson rfl rfl (fun q hq => c_M_isPerson hS a0 M q hq) (fun q1 => ?_)
  refine s_if_eq (tgt := 26) (dt_M_corner 3 _ _ _ rfl) rfl ?_ ?_
  · refine s_ldcw (n := (-1000000 : Int)) (kc_M_428) (dt_M_corner 13 _ _ _ rfl) rfl ?_
    exact s_iret (dt_M_corner 14 _ _ _ rfl) rfl rfl
  · refine s_aload_n (dt_M_corner 4 _ _ _ rfl) rfl ?_
    refine s_iload_n (dt_M_corner 5 _ _ _ rfl) rfl ?_
    refine s_callO (y := y_M_isAlive) (Y' := Y_M_isAlive) (as := [VR (some 382), VI a0]) (r := fun q => some (VI q)) (M' := fun q => M) (kInvV (dt_M_corner 6 _ _ _ rfl) kin_M_isAlive 1 rfl (sc_382 hS) kse_M_isAlive rfl) kl_M_404 md_M_isAlive rfl rfl (fun q hq => c_M_isAlive hS a0 M q hq) (fun q2 => ?_)
    refine s_if_eq (tgt := 26) (dt_M_corner 7 _ _ _ rfl) rfl ?_ ?_
    · refine s_ldcw (n := (-1000000 : Int)) (kc_M_428) (dt_M_corner 13 _ _ _ rfl) rfl ?_
      exact s_iret (dt_M_corner 14 _ _ _ rfl) rfl rfl
    · refine s_iload_n (dt_M_corner 8 _ _ _ rfl) rfl ?_
      refine s_iconst (dt_M_corner 9 _ _ _ rfl) rfl ?_
      refine s_bipush (dt_M_corner 10 _ _ _ rfl) rfl ?_
      refine s_callO (y := y_M_isIn) (Y' := Y_M_isIn) (as := [VI a1, VI (0 : Int), VI (99 : Int)]) (r := fun q => some (VI q)) (M' := fun q => M) (kInvS (dt_M_corner 11 _ _ _ rfl) kst_M_isIn rfl) kl_M_388 md_M_isIn rfl rfl (fun q hq => c_M_isIn hS a1 (0 : Int) (99 : Int) M q hq) (fun q3 => ?_)
      refine s_if_ne (tgt := 30) (dt_M_corner 12 _ _ _ rfl) rfl ?_ ?_
      · refine s_ldcw (n := (-1000000 : Int)) (kc_M_428) (dt_M_corner 13 _ _ _ rfl) rfl ?_
        exact s_iret (dt_M_corner 14 _ _ _ rfl) rfl rfl
      · refine s_aload_n (dt_M_corner 15 _ _ _ rfl) rfl ?_
        refine s_iload_n (dt_M_corner 16 _ _ _ rfl) rfl ?_
        refine s_callO (y := y_M_restsAt) (Y' := Y_M_restsAt) (as := [VR (some 382), VI a1]) (r := fun q => some (VI q)) (M' := fun q => M) (kInvV (dt_M_corner 17 _ _ _ rfl) kin_M_restsAt 1 rfl (sc_382 hS) kse_M_restsAt rfl) kl_M_491 md_M_restsAt rfl rfl (fun q hq => c_M_restsAt hS a1 M q hq) (fun q4 => ?_)
        refine s_istore_n (dt_M_corner 18 _ _ _ rfl) rfl ?_
        refine s_aload_n (dt_M_corner 19 _ _ _ rfl) rfl ?_
        refine s_iload_n (dt_M_corner 20 _ _ _ rfl) rfl ?_
        refine s_putI (c := 1) (j := 59) (dt_M_corner 21 _ _ _ rfl) kp_M_134 (sc_382 hS) ⟨rfl, rfl⟩ ?_
        refine s_letM (fun M5 => ?_)
        refine s_aload_n (dt_M_corner 22 _ _ _ rfl) rfl ?_
        refine s_iload_n (dt_M_corner 23 _ _ _ rfl) rfl ?_
        refine s_callO (y := y_M_restsAt) (Y' := Y_M_restsAt) (as := [VR (some 382), VI a1]) (r := fun q => some (VI q)) (M' := fun q => M5) (kInvV (dt_M_corner 24 _ _ _ rfl) kin_M_restsAt 1 rfl (sc_382 hS) kse_M_restsAt rfl) kl_M_491 md_M_restsAt rfl rfl (fun q hq => c_M_restsAt hS a1 M5 q hq) (fun q6 => ?_)
        refine s_istore (dt_M_corner 25 _ _ _ rfl) rfl ?_
        refine s_aload_n (dt_M_corner 26 _ _ _ rfl) rfl ?_
        refine s_iconst (dt_M_corner 27 _ _ _ rfl) rfl ?_
        refine s_putI (c := 1) (j := 59) (dt_M_corner 28 _ _ _ rfl) kp_M_134 (sc_382 hS) ⟨rfl, rfl⟩ ?_
        refine s_letM (fun M7 => ?_)
        refine s_iload_n (dt_M_corner 29 _ _ _ rfl) rfl ?_
        refine s_iload (dt_M_corner 30 _ _ _ rfl) rfl ?_
        refine s_isub (dt_M_corner 31 _ _ _ rfl) ?_
        exact s_iret (dt_M_corner 32 _ _ _ rfl) rfl rfl
theorem c_M_corner {S : KS} (hS : KExt 435 S)  (a0 : Int) (a1 : Int) (M : KM) : ∀ q, f_M_corner a0 a1 M = some q → Ctr y_M_corner Y_M_corner [VR (some 382), VI a0, VI a1] S M (some (VI q.1)) S (q.2) := fun q hq =>
  ctr_of md_M_corner (Nat.le_of_ble_eq_true rfl) ⟨Nat.le_refl _, Nat.le_refl _⟩ 2 hq rfl (fun _ G => sim_M_corner hS  a0 a1 M)
set_option maxRecDepth 100000 in
theorem sim_M_lies {G : Gam} {S : KS} (hS : KExt 435 S)  (a0 : Int) (M : KM) : Sim G Y_M_lies (f_M_lies a0 M) (kC 0 [some (VR (some 382)), some (VI a0)] [] S M) (fun (q : Int) => Sum.inr (some (VI q), S, M)) := by
  unfold f_M_lies
  refine s_iload_n (dt_M_lies 0 _ _ _ rfl) rfl ?_
  refine s_iconst (dt_M_lies 1 _ _ _ rfl) rfl ?_
  refine s_aload_n (dt_M_lies 2 _ _ _ rfl) rfl ?_
  refine s_getI (c := 1) (j := 63) (dt_M_lies 3 _ _ _ rfl) (kf_M_401) (sc_382 hS) rfl ?_
  refine s_iconst (dt_M_lies 4 _ _ _ rfl) rfl ?_
  refine s_isub (dt_M_lies 5 _ _ _ rfl) ?_
  refine s_callO (y := y_M_isIn) (Y' := Y_M_isIn) (as := [VI a0, VI (0 : Int), VI (w32 ((M 382 63) - (1 : Int)))]) (r := fun q => some (VI q)) (M' := fun q => M) (kInvS (dt_M_lies 6 _ _ _ rfl) kst_M_isIn rfl) kl_M_388 md_M_isIn rfl rfl (fun q hq => c_M_isIn hS a0 (0 : Int) (w32 ((M 382 63) - (1 : Int))) M q hq) (fun q1 => ?_)
  refine s_bd (κ := fun t2 => kC 26 [none, none] [VI t2] S M) ?_ (fun t2 => ?_)
  · refine s_if_eq (tgt := 23) (dt_M_lies 7 _ _ _ rfl) rfl ?_ ?_
    · refine s_ldcw (n := (-1000000 : Int)) (kc_M_428) (dt_M_lies 13 _ _ _ rfl) rfl ?_
      exact s_mask [false, false] (s_ret0 rfl)
    · refine s_aload_n (dt_M_lies 8 _ _ _ rfl) rfl ?_
      refine s_getR (c := 1) (j := 62) (o := (some 424)) (dt_M_lies 9 _ _ _ rfl) (kf_M_143) (sc_382 hS) rfl rfl ?_
      refine s_iload_n (dt_M_lies 10 _ _ _ rfl) rfl ?_
      refine s_iald (N := 8) (dt_M_lies 11 _ _ _ rfl) (sc_424 hS) rfl ?_
      refine s_goto (tgt := 26) (dt_M_lies 12 _ _ _ rfl) rfl ?_
      exact s_mask [false, false] (s_ret0 rfl)
  exact s_iret (dt_M_lies 14 _ _ _ rfl) rfl rfl
theorem c_M_lies {S : KS} (hS : KExt 435 S)  (a0 : Int) (M : KM) : ∀ q, f_M_lies a0 M = some q → Ctr y_M_lies Y_M_lies [VR (some 382), VI a0] S M (some (VI q)) S (M) := fun q hq =>
  ctr_of md_M_lies (Nat.le_of_ble_eq_true rfl) ⟨Nat.le_refl _, Nat.le_refl _⟩ 0 hq rfl (fun _ G => sim_M_lies hS  a0 M)
