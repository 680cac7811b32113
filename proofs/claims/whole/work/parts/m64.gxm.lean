set_option maxRecDepth 100000 in
theorem sJ_M_unit_222 {G : Gam} {S : KS} (hS : KExt 435 S)  (M : KM) (j29 : Int) (M30 : KM) : Sim G Y_M_unit (J_M_unit_222 M j29 M30) (kC 222 [some (VR (some 382)), none, some (VI j29), none, none, none, none] [] S M30) (fun (q : Int × KM) => Sum.inr (some (VI q.1), S, q.2)) := by
  unfold J_M_unit_222
  refine s_aload_n (dt_M_unit 117 _ _ _ rfl) rfl ?_
  refine s_iload_n (dt_M_unit 118 _ _ _ rfl) rfl ?_
  refine s_bd (κ := fun t31 => kC 233 [some (VR (some 382)), none, none, none, none, none, none] [VI t31, VR (some 382)] S M30) ?_ (fun t31 => ?_)
  · refine s_if_eq (tgt := 231) (dt_M_unit 119 _ _ _ rfl) rfl ?_ ?_
    · refine s_bipush (dt_M_unit 122 _ _ _ rfl) rfl ?_
      exact s_mask [true, false, false, false, false, false, false] (s_ret0 rfl)
    · refine s_iconst (dt_M_unit 120 _ _ _ rfl) rfl ?_
      refine s_goto (tgt := 233) (dt_M_unit 121 _ _ _ rfl) rfl ?_
      exact s_mask [true, false, false, false, false, false, false] (s_ret0 rfl)
  refine s_bipush (dt_M_unit 123 _ _ _ rfl) rfl ?_
  refine s_callO (y := y_M_pushE) (Y' := Y_M_pushE) (as := [VR (some 382), VI t31, VI (126 : Int)]) (r := fun q => none) (M' := fun q => q) (kInvV (dt_M_unit 124 _ _ _ rfl) kin_M_pushE 1 rfl (sc_382 hS) kse_M_pushE rfl) kl_M_348 md_M_pushE rfl rfl (fun q hq => c_M_pushE hS t31 (126 : Int) M30 q hq) (fun q32 => ?_)
  refine s_aload_n (dt_M_unit 125 _ _ _ rfl) rfl ?_
  refine s_dup (dt_M_unit 126 _ _ _ rfl) rfl ?_
  refine s_getI (c := 1) (j := 40) (dt_M_unit 127 _ _ _ rfl) (kf_M_345) (sc_382 hS) rfl ?_
  refine s_iconst (dt_M_unit 128 _ _ _ rfl) rfl ?_
  refine s_iadd (dt_M_unit 129 _ _ _ rfl) ?_
  refine s_putI (c := 1) (j := 40) (dt_M_unit 130 _ _ _ rfl) kp_M_345 (sc_382 hS) ⟨rfl, rfl⟩ ?_
  refine s_letM (fun M33 => ?_)
  refine s_iconst (dt_M_unit 131 _ _ _ rfl) rfl ?_
  exact s_zret01 (dt_M_unit 132 _ _ _ rfl) rfl rfl rfl
set_option maxRecDepth 100000 in
theorem sim_M_unit {G : Gam} {S : KS} (hS : KExt 435 S)   (M : KM) : Sim G Y_M_unit (f_M_unit  M) (kC 0 [some (VR (some 382)), none, none, none, none, none, none] [] S M) (fun (q : Int × KM) => Sum.inr (some (VI q.1), S, q.2)) := by
  unfold f_M_unit
  refine s_aload_n (dt_M_unit 0 _ _ _ rfl) rfl ?_
  refine s_getR (c := 1) (j := 34) (o := (some 408)) (dt_M_unit 1 _ _ _ rfl) (kf_M_92) (sc_382 hS) rfl rfl ?_
  refine s_aload_n (dt_M_unit 2 _ _ _ rfl) rfl ?_
  refine s_getI (c := 1) (j := 41) (dt_M_unit 3 _ _ _ rfl) (kf_M_342) (sc_382 hS) rfl ?_
  refine s_iconst (dt_M_unit 4 _ _ _ rfl) rfl ?_
  refine s_isub (dt_M_unit 5 _ _ _ rfl) ?_
  refine s_iald (N := 90) (dt_M_unit 6 _ _ _ rfl) (sc_408 hS) rfl ?_
  refine s_iconst (dt_M_unit 7 _ _ _ rfl) rfl ?_
  refine s_bd (κ := fun t1 => kC 36 [some (VR (some 382)), none, none, none, none, none, none] [VI t1] S M) ?_ (fun t1 => ?_)
  · refine s_if_icmp_le (tgt := 31) (dt_M_unit 8 _ _ _ rfl) rfl ?_ ?_
    · refine s_iconst (dt_M_unit 18 _ _ _ rfl) rfl ?_
      refine s_goto (tgt := 36) (dt_M_unit 19 _ _ _ rfl) rfl ?_
      exact s_mask [true, false, false, false, false, false, false] (s_ret0 rfl)
    · refine s_aload_n (dt_M_unit 9 _ _ _ rfl) rfl ?_
      refine s_getR (c := 1) (j := 34) (o := (some 408)) (dt_M_unit 10 _ _ _ rfl) (kf_M_92) (sc_382 hS) rfl rfl ?_
      refine s_aload_n (dt_M_unit 11 _ _ _ rfl) rfl ?_
      refine s_getI (c := 1) (j := 41) (dt_M_unit 12 _ _ _ rfl) (kf_M_342) (sc_382 hS) rfl ?_
      refine s_iconst (dt_M_unit 13 _ _ _ rfl) rfl ?_
      refine s_isub (dt_M_unit 14 _ _ _ rfl) ?_
      refine s_iald (N := 90) (dt_M_unit 15 _ _ _ rfl) (sc_408 hS) rfl ?_
      refine s_bipush (dt_M_unit 16 _ _ _ rfl) rfl ?_
      refine s_if_icmp_lt (tgt := 35) (dt_M_unit 17 _ _ _ rfl) rfl ?_ ?_
      · refine s_iconst (dt_M_unit 20 _ _ _ rfl) rfl ?_
        exact s_mask [true, false, false, false, false, false, false] (s_ret0 rfl)
      · refine s_iconst (dt_M_unit 18 _ _ _ rfl) rfl ?_
        refine s_goto (tgt := 36) (dt_M_unit 19 _ _ _ rfl) rfl ?_
        exact s_mask [true, false, false, false, false, false, false] (s_ret0 rfl)
  refine s_istore_n (dt_M_unit 21 _ _ _ rfl) rfl ?_
  refine s_iload_n (dt_M_unit 22 _ _ _ rfl) rfl ?_
  refine s_bd (κ := fun t3 => kC 56 [some (VR (some 382)), none, none, none, none, none, none] [VI t3] S M) ?_ (fun t3 => ?_)
  · refine s_if_eq (tgt := 55) (dt_M_unit 23 _ _ _ rfl) rfl ?_ ?_
    · refine s_iconst (dt_M_unit 30 _ _ _ rfl) rfl ?_
      exact s_mask [true, false, false, false, false, false, false] (s_ret0 rfl)
    · refine s_aload_n (dt_M_unit 24 _ _ _ rfl) rfl ?_
      refine s_ldc2 (n := (7237492 : Int)) (kc_M_218) (dt_M_unit 25 _ _ _ rfl) rfl ?_
      refine s_callO (y := y_M_isWord) (Y' := Y_M_isWord) (as := [VR (some 382), VJ (7237492 : Int)]) (r := fun q => some (VI q)) (M' := fun q => M) (kInvV (dt_M_unit 26 _ _ _ rfl) kin_M_isWord 1 rfl (sc_382 hS) kse_M_isWord rfl) kl_M_268 md_M_isWord rfl rfl (fun q hq => c_M_isWord hS (7237492 : Int) M q hq) (fun q2 => ?_)
      refine s_if_eq (tgt := 55) (dt_M_unit 27 _ _ _ rfl) rfl ?_ ?_
      · refine s_iconst (dt_M_unit 30 _ _ _ rfl) rfl ?_
        exact s_mask [true, false, false, false, false, false, false] (s_ret0 rfl)
      · refine s_iconst (dt_M_unit 28 _ _ _ rfl) rfl ?_
        refine s_goto (tgt := 56) (dt_M_unit 29 _ _ _ rfl) rfl ?_
        exact s_mask [true, false, false, false, false, false, false] (s_ret0 rfl)
  refine s_istore_n (dt_M_unit 31 _ _ _ rfl) rfl ?_
  refine s_aload_n (dt_M_unit 32 _ _ _ rfl) rfl ?_
  refine s_bipush (dt_M_unit 33 _ _ _ rfl) rfl ?_
  refine s_callO (y := y_M_isSignHere) (Y' := Y_M_isSignHere) (as := [VR (some 382), VI (40 : Int)]) (r := fun q => some (VI q)) (M' := fun q => M) (kInvV (dt_M_unit 34 _ _ _ rfl) kin_M_isSignHere 1 rfl (sc_382 hS) kse_M_isSignHere rfl) kl_M_314 md_M_isSignHere rfl rfl (fun q hq => c_M_isSignHere hS (40 : Int) M q hq) (fun q4 => ?_)
  refine s_istore_n (dt_M_unit 35 _ _ _ rfl) rfl ?_
  refine s_aload_n (dt_M_unit 36 _ _ _ rfl) rfl ?_
  refine s_callO (y := y_M_wordHere) (Y' := Y_M_wordHere) (as := [VR (some 382)]) (r := fun q => some (VI q)) (M' := fun q => M) (kInvV (dt_M_unit 37 _ _ _ rfl) kin_M_wordHere 1 rfl (sc_382 hS) kse_M_wordHere rfl) kl_M_357 md_M_wordHere rfl rfl (fun q hq => c_M_wordHere hS M q hq) (fun q5 => ?_)
  refine s_istore (dt_M_unit 38 _ _ _ rfl) rfl ?_
  refine s_aload_n (dt_M_unit 39 _ _ _ rfl) rfl ?_
  refine s_getR (c := 1) (j := 14) (o := (some 388)) (dt_M_unit 40 _ _ _ rfl) (kf_M_30) (sc_382 hS) rfl rfl ?_
  refine s_aload_n (dt_M_unit 41 _ _ _ rfl) rfl ?_
  refine s_getI (c := 1) (j := 38) (dt_M_unit 42 _ _ _ rfl) (kf_M_279) (sc_382 hS) rfl ?_
  refine s_iald (N := 2) (dt_M_unit 43 _ _ _ rfl) (sc_388 hS) rfl ?_
  refine s_bipush (dt_M_unit 44 _ _ _ rfl) rfl ?_
  refine s_bd (κ := fun t6 => kC 98 [some (VR (some 382)), none, some (VI t3), some (VI q4), some (VI q5), none, none] [VI t6] S M) ?_ (fun t6 => ?_)
  · refine s_if_icmp_eq (tgt := 93) (dt_M_unit 45 _ _ _ rfl) rfl ?_ ?_
    · refine s_iconst (dt_M_unit 50 _ _ _ rfl) rfl ?_
      refine s_goto (tgt := 98) (dt_M_unit 51 _ _ _ rfl) rfl ?_
      exact s_mask [true, false, true, true, true, false, false] (s_ret0 rfl)
    · refine s_aload_n (dt_M_unit 46 _ _ _ rfl) rfl ?_
      refine s_getI (c := 1) (j := 42) (dt_M_unit 47 _ _ _ rfl) (kf_M_336) (sc_382 hS) rfl ?_
      refine s_bipush (dt_M_unit 48 _ _ _ rfl) rfl ?_
      refine s_if_icmp_ne (tgt := 97) (dt_M_unit 49 _ _ _ rfl) rfl ?_ ?_
      · refine s_iconst (dt_M_unit 50 _ _ _ rfl) rfl ?_
        refine s_goto (tgt := 98) (dt_M_unit 51 _ _ _ rfl) rfl ?_
        exact s_mask [true, false, true, true, true, false, false] (s_ret0 rfl)
      · refine s_iconst (dt_M_unit 52 _ _ _ rfl) rfl ?_
        exact s_mask [true, false, true, true, true, false, false] (s_ret0 rfl)
  refine s_istore (dt_M_unit 53 _ _ _ rfl) rfl ?_
  refine s_iload_n (dt_M_unit 54 _ _ _ rfl) rfl ?_
  refine s_bd (κ := fun t19 => kC 147 [some (VR (some 382)), none, some (VI t3), some (VI q4), some (VI q5), none, none] [] S t19) ?_ (fun t19 => ?_)
  · refine s_if_ne (tgt := 126) (dt_M_unit 55 _ _ _ rfl) rfl ?_ ?_
    · refine s_iload (dt_M_unit 56 _ _ _ rfl) rfl ?_
      refine s_if_ne (tgt := 121) (dt_M_unit 57 _ _ _ rfl) rfl ?_ ?_
      · refine s_aload_n (dt_M_unit 58 _ _ _ rfl) rfl ?_
        refine s_getI (c := 1) (j := 8) (dt_M_unit 59 _ _ _ rfl) (kf_M_230) (sc_382 hS) rfl ?_
        refine s_iconst (dt_M_unit 60 _ _ _ rfl) rfl ?_
        refine s_if_icmp_eq (tgt := 121) (dt_M_unit 61 _ _ _ rfl) rfl ?_ ?_
        · refine s_iload (dt_M_unit 64 _ _ _ rfl) rfl ?_
          refine s_if_ne (tgt := 143) (dt_M_unit 65 _ _ _ rfl) rfl ?_ ?_
          · refine s_iload_n (dt_M_unit 66 _ _ _ rfl) rfl ?_
            refine s_if_ne (tgt := 134) (dt_M_unit 67 _ _ _ rfl) rfl ?_ ?_
            · refine s_iload_n (dt_M_unit 68 _ _ _ rfl) rfl ?_
              refine s_if_eq (tgt := 147) (dt_M_unit 69 _ _ _ rfl) rfl ?_ ?_
              · exact s_mask [true, false, true, true, true, false, false] (s_ret0 rfl)
              · refine s_aload_n (dt_M_unit 70 _ _ _ rfl) rfl ?_
                refine s_getI (c := 1) (j := 40) (dt_M_unit 71 _ _ _ rfl) (kf_M_345) (sc_382 hS) rfl ?_
                refine s_bipush (dt_M_unit 72 _ _ _ rfl) rfl ?_
                refine s_if_icmp_ne (tgt := 147) (dt_M_unit 73 _ _ _ rfl) rfl ?_ ?_
                · refine s_aload_n (dt_M_unit 74 _ _ _ rfl) rfl ?_
                  refine s_callO (y := y_M_misplaced) (Y' := Y_M_misplaced) (as := [VR (some 382)]) (r := fun q => none) (M' := fun q => q) (kInvV (dt_M_unit 75 _ _ _ rfl) kin_M_misplaced 1 rfl (sc_382 hS) kse_M_misplaced rfl) kl_M_265 md_M_misplaced rfl rfl (fun q hq => c_M_misplaced hS M q hq) (fun q7 => ?_)
                  exact s_mask [true, false, true, true, true, false, false] (s_ret0 rfl)
                · exact s_mask [true, false, true, true, true, false, false] (s_ret0 rfl)
            · refine s_aload_n (dt_M_unit 70 _ _ _ rfl) rfl ?_
              refine s_getI (c := 1) (j := 40) (dt_M_unit 71 _ _ _ rfl) (kf_M_345) (sc_382 hS) rfl ?_
              refine s_bipush (dt_M_unit 72 _ _ _ rfl) rfl ?_
              refine s_if_icmp_ne (tgt := 147) (dt_M_unit 73 _ _ _ rfl) rfl ?_ ?_
              · refine s_aload_n (dt_M_unit 74 _ _ _ rfl) rfl ?_
                refine s_callO (y := y_M_misplaced) (Y' := Y_M_misplaced) (as := [VR (some 382)]) (r := fun q => none) (M' := fun q => q) (kInvV (dt_M_unit 75 _ _ _ rfl) kin_M_misplaced 1 rfl (sc_382 hS) kse_M_misplaced rfl) kl_M_265 md_M_misplaced rfl rfl (fun q hq => c_M_misplaced hS M q hq) (fun q8 => ?_)
                exact s_mask [true, false, true, true, true, false, false] (s_ret0 rfl)
              · exact s_mask [true, false, true, true, true, false, false] (s_ret0 rfl)
          · refine s_aload_n (dt_M_unit 74 _ _ _ rfl) rfl ?_
            refine s_callO (y := y_M_misplaced) (Y' := Y_M_misplaced) (as := [VR (some 382)]) (r := fun q => none) (M' := fun q => q) (kInvV (dt_M_unit 75 _ _ _ rfl) kin_M_misplaced 1 rfl (sc_382 hS) kse_M_misplaced rfl) kl_M_265 md_M_misplaced rfl rfl (fun q hq => c_M_misplaced hS M q hq) (fun q9 => ?_)
            exact s_mask [true, false, true, true, true, false, false] (s_ret0 rfl)
        · refine s_iload_n (dt_M_unit 62 _ _ _ rfl) rfl ?_
          refine s_if_eq (tgt := 143) (dt_M_unit 63 _ _ _ rfl) rfl ?_ ?_
          · refine s_aload_n (dt_M_unit 74 _ _ _ rfl) rfl ?_
            refine s_callO (y := y_M_misplaced) (Y' := Y_M_misplaced) (as := [VR (some 382)]) (r := fun q => none) (M' := fun q => q) (kInvV (dt_M_unit 75 _ _ _ rfl) kin_M_misplaced 1 rfl (sc_382 hS) kse_M_misplaced rfl) kl_M_265 md_M_misplaced rfl rfl (fun q hq => c_M_misplaced hS M q hq) (fun q10 => ?_)
            exact s_mask [true, false, true, true, true, false, false] (s_ret0 rfl)
          · refine s_iload (dt_M_unit 64 _ _ _ rfl) rfl ?_
            refine s_if_ne (tgt := 143) (dt_M_unit 65 _ _ _ rfl) rfl ?_ ?_
            · refine s_iload_n (dt_M_unit 66 _ _ _ rfl) rfl ?_
              refine s_if_ne (tgt := 134) (dt_M_unit 67 _ _ _ rfl) rfl ?_ ?_
              · refine s_iload_n (dt_M_unit 68 _ _ _ rfl) rfl ?_
                refine s_if_eq (tgt := 147) (dt_M_unit 69 _ _ _ rfl) rfl ?_ ?_
                · exact s_mask [true, false, true, true, true, false, false] (s_ret0 rfl)
                · refine s_aload_n (dt_M_unit 70 _ _ _ rfl) rfl ?_
                  refine s_getI (c := 1) (j := 40) (dt_M_unit 71 _ _ _ rfl) (kf_M_345) (sc_382 hS) rfl ?_
                  refine s_bipush (dt_M_unit 72 _ _ _ rfl) rfl ?_
                  refine s_if_icmp_ne (tgt := 147) (dt_M_unit 73 _ _ _ rfl) rfl ?_ ?_
                  · refine s_aload_n (dt_M_unit 74 _ _ _ rfl) rfl ?_
                    refine s_callO (y := y_M_misplaced) (Y' := Y_M_misplaced) (as := [VR (some 382)]) (r := fun q => none) (M' := fun q => q) (kInvV (dt_M_unit 75 _ _ _ rfl) kin_M_misplaced 1 rfl (sc_382 hS) kse_M_misplaced rfl) kl_M_265 md_M_misplaced rfl rfl (fun q hq => c_M_misplaced hS M q hq) (fun q11 => ?_)
                    exact s_mask [true, false, true, true, true, false, false] (s_ret0 rfl)
                  · exact s_mask [true, false, true, true, true, false, false] (s_ret0 rfl)
              · refine s_aload_n (dt_M_unit 70 _ _ _ rfl) rfl ?_
                refine s_getI (c := 1) (j := 40) (dt_M_unit 71 _ _ _ rfl) (kf_M_345) (sc_382 hS) rfl ?_
                refine s_bipush (dt_M_unit 72 _ _ _ rfl) rfl ?_
                refine s_if_icmp_ne (tgt := 147) (dt_M_unit 73 _ _ _ rfl) rfl ?_ ?_
                · refine s_aload_n (dt_M_unit 74 _ _ _ rfl) rfl ?_
                  refine s_callO (y := y_M_misplaced) (Y' := Y_M_misplaced) (as := [VR (some 382)]) (r := fun q => none) (M' := fun q => q) (kInvV (dt_M_unit 75 _ _ _ rfl) kin_M_misplaced 1 rfl (sc_382 hS) kse_M_misplaced rfl) kl_M_265 md_M_misplaced rfl rfl (fun q hq => c_M_misplaced hS M q hq) (fun q12 => ?_)
                  exact s_mask [true, false, true, true, true, false, false] (s_ret0 rfl)
                · exact s_mask [true, false, true, true, true, false, false] (s_ret0 rfl)
            · refine s_aload_n (dt_M_unit 74 _ _ _ rfl) rfl ?_
              refine s_callO (y := y_M_misplaced) (Y' := Y_M_misplaced) (as := [VR (some 382)]) (r := fun q => none) (M' := fun q => q) (kInvV (dt_M_unit 75 _ _ _ rfl) kin_M_misplaced 1 rfl (sc_382 hS) kse_M_misplaced rfl) kl_M_265 md_M_misplaced rfl rfl (fun q hq => c_M_misplaced hS M q hq) (fun q13 => ?_)
              exact s_mask [true, false, true, true, true, false, false] (s_ret0 rfl)
      · refine s_iload (dt_M_unit 64 _ _ _ rfl) rfl ?_
        refine s_if_ne (tgt := 143) (dt_M_unit 65 _ _ _ rfl) rfl ?_ ?_
        · refine s_iload_n (dt_M_unit 66 _ _ _ rfl) rfl ?_
          refine s_if_ne (tgt := 134) (dt_M_unit 67 _ _ _ rfl) rfl ?_ ?_
          · refine s_iload_n (dt_M_unit 68 _ _ _ rfl) rfl ?_
            refine s_if_eq (tgt := 147) (dt_M_unit 69 _ _ _ rfl) rfl ?_ ?_
            · exact s_mask [true, false, true, true, true, false, false] (s_ret0 rfl)
            · refine s_aload_n (dt_M_unit 70 _ _ _ rfl) rfl ?_
              refine s_getI (c := 1) (j := 40) (dt_M_unit 71 _ _ _ rfl) (kf_M_345) (sc_382 hS) rfl ?_
              refine s_bipush (dt_M_unit 72 _ _ _ rfl) rfl ?_
              refine s_if_icmp_ne (tgt := 147) (dt_M_unit 73 _ _ _ rfl) rfl ?_ ?_
              · refine s_aload_n (dt_M_unit 74 _ _ _ rfl) rfl ?_
                refine s_callO (y := y_M_misplaced) (Y' := Y_M_misplaced) (as := [VR (some 382)]) (r := fun q => none) (M' := fun q => q) (kInvV (dt_M_unit 75 _ _ _ rfl) kin_M_misplaced 1 rfl (sc_382 hS) kse_M_misplaced rfl) kl_M_265 md_M_misplaced rfl rfl (fun q hq => c_M_misplaced hS M q hq) (fun q14 => ?_)
                exact s_mask [true, false, true, true, true, false, false] (s_ret0 rfl)
              · exact s_mask [true, false, true, true, true, false, false] (s_ret0 rfl)
          · refine s_aload_n (dt_M_unit 70 _ _ _ rfl) rfl ?_
            refine s_getI (c := 1) (j := 40) (dt_M_unit 71 _ _ _ rfl) (kf_M_345) (sc_382 hS) rfl ?_
            refine s_bipush (dt_M_unit 72 _ _ _ rfl) rfl ?_
            refine s_if_icmp_ne (tgt := 147) (dt_M_unit 73 _ _ _ rfl) rfl ?_ ?_
            · refine s_aload_n (dt_M_unit 74 _ _ _ rfl) rfl ?_
              refine s_callO (y := y_M_misplaced) (Y' := Y_M_misplaced) (as := [VR (some 382)]) (r := fun q => none) (M' := fun q => q) (kInvV (dt_M_unit 75 _ _ _ rfl) kin_M_misplaced 1 rfl (sc_382 hS) kse_M_misplaced rfl) kl_M_265 md_M_misplaced rfl rfl (fun q hq => c_M_misplaced hS M q hq) (fun q15 => ?_)
              exact s_mask [true, false, true, true, true, false, false] (s_ret0 rfl)
            · exact s_mask [true, false, true, true, true, false, false] (s_ret0 rfl)
        · refine s_aload_n (dt_M_unit 74 _ _ _ rfl) rfl ?_
          refine s_callO (y := y_M_misplaced) (Y' := Y_M_misplaced) (as := [VR (some 382)]) (r := fun q => none) (M' := fun q => q) (kInvV (dt_M_unit 75 _ _ _ rfl) kin_M_misplaced 1 rfl (sc_382 hS) kse_M_misplaced rfl) kl_M_265 md_M_misplaced rfl rfl (fun q hq => c_M_misplaced hS M q hq) (fun q16 => ?_)
          exact s_mask [true, false, true, true, true, false, false] (s_ret0 rfl)
    · refine s_iload_n (dt_M_unit 66 _ _ _ rfl) rfl ?_
      refine s_if_ne (tgt := 134) (dt_M_unit 67 _ _ _ rfl) rfl ?_ ?_
      · refine s_iload_n (dt_M_unit 68 _ _ _ rfl) rfl ?_
        refine s_if_eq (tgt := 147) (dt_M_unit 69 _ _ _ rfl) rfl ?_ ?_
        · exact s_mask [true, false, true, true, true, false, false] (s_ret0 rfl)
        · refine s_aload_n (dt_M_unit 70 _ _ _ rfl) rfl ?_
          refine s_getI (c := 1) (j := 40) (dt_M_unit 71 _ _ _ rfl) (kf_M_345) (sc_382 hS) rfl ?_
          refine s_bipush (dt_M_unit 72 _ _ _ rfl) rfl ?_
          refine s_if_icmp_ne (tgt := 147) (dt_M_unit 73 _ _ _ rfl) rfl ?_ ?_
          · refine s_aload_n (dt_M_unit 74 _ _ _ rfl) rfl ?_
            refine s_callO (y := y_M_misplaced) (Y' := Y_M_misplaced) (as := [VR (some 382)]) (r := fun q => none) (M' := fun q => q) (kInvV (dt_M_unit 75 _ _ _ rfl) kin_M_misplaced 1 rfl (sc_382 hS) kse_M_misplaced rfl) kl_M_265 md_M_misplaced rfl rfl (fun q hq => c_M_misplaced hS M q hq) (fun q17 => ?_)
            exact s_mask [true, false, true, true, true, false, false] (s_ret0 rfl)
          · exact s_mask [true, false, true, true, true, false, false] (s_ret0 rfl)
      · refine s_aload_n (dt_M_unit 70 _ _ _ rfl) rfl ?_
        refine s_getI (c := 1) (j := 40) (dt_M_unit 71 _ _ _ rfl) (kf_M_345) (sc_382 hS) rfl ?_
        refine s_bipush (dt_M_unit 72 _ _ _ rfl) rfl ?_
        refine s_if_icmp_ne (tgt := 147) (dt_M_unit 73 _ _ _ rfl) rfl ?_ ?_
        · refine s_aload_n (dt_M_unit 74 _ _ _ rfl) rfl ?_
          refine s_callO (y := y_M_misplaced) (Y' := Y_M_misplaced) (as := [VR (some 382)]) (r := fun q => none) (M' := fun q => q) (kInvV (dt_M_unit 75 _ _ _ rfl) kin_M_misplaced 1 rfl (sc_382 hS) kse_M_misplaced rfl) kl_M_265 md_M_misplaced rfl rfl (fun q hq => c_M_misplaced hS M q hq) (fun q18 => ?_)
          exact s_mask [true, false, true, true, true, false, false] (s_ret0 rfl)
        · exact s_mask [true, false, true, true, true, false, false] (s_ret0 rfl)
  refine s_aload_n (dt_M_unit 76 _ _ _ rfl) rfl ?_
  refine s_callO (y := y_M_isGood) (Y' := Y_M_isGood) (as := [VR (some 382)]) (r := fun q => some (VI q)) (M' := fun q => t19) (kInvV (dt_M_unit 77 _ _ _ rfl) kin_M_isGood 1 rfl (sc_382 hS) kse_M_isGood rfl) kl_M_258 md_M_isGood rfl rfl (fun q hq => c_M_isGood hS t19 q hq) (fun q20 => ?_)
  refine s_if_ne (tgt := 156) (dt_M_unit 78 _ _ _ rfl) rfl ?_ ?_
  · refine s_iconst (dt_M_unit 79 _ _ _ rfl) rfl ?_
    exact s_zret01 (dt_M_unit 80 _ _ _ rfl) rfl rfl rfl
  · refine s_aload_n (dt_M_unit 81 _ _ _ rfl) rfl ?_
    refine s_getR (c := 1) (j := 14) (o := (some 388)) (dt_M_unit 82 _ _ _ rfl) (kf_M_30) (sc_382 hS) rfl rfl ?_
    refine s_aload_n (dt_M_unit 83 _ _ _ rfl) rfl ?_
    refine s_getI (c := 1) (j := 38) (dt_M_unit 84 _ _ _ rfl) (kf_M_279) (sc_382 hS) rfl ?_
    refine s_dup2 (dt_M_unit 85 _ _ _ rfl) rfl rfl ?_
    refine s_iald (N := 2) (dt_M_unit 86 _ _ _ rfl) (sc_388 hS) rfl ?_
    refine s_iload_n (dt_M_unit 87 _ _ _ rfl) rfl ?_
    refine s_bd (κ := fun t21 => kC 175 [some (VR (some 382)), none, some (VI t3), some (VI q4), some (VI q5), none, none] [VI t21, VI (t19 388 (t19 382 38).toNat), VI (t19 382 38), VR (some 388)] S t19) ?_ (fun t21 => ?_)
    · refine s_if_eq (tgt := 174) (dt_M_unit 88 _ _ _ rfl) rfl ?_ ?_
      · refine s_iconst (dt_M_unit 91 _ _ _ rfl) rfl ?_
        exact s_mask [true, false, true, true, true, false, false] (s_ret0 rfl)
      · refine s_iconst (dt_M_unit 89 _ _ _ rfl) rfl ?_
        refine s_goto (tgt := 175) (dt_M_unit 90 _ _ _ rfl) rfl ?_
        exact s_mask [true, false, true, true, true, false, false] (s_ret0 rfl)
    refine s_iadd (dt_M_unit 92 _ _ _ rfl) ?_
    refine s_iast (N := 2) (dt_M_unit 93 _ _ _ rfl) (sc_388 hS) rfl ?_
    refine s_letM (fun M22 => ?_)
    refine s_aload_n (dt_M_unit 94 _ _ _ rfl) rfl ?_
    refine s_dup (dt_M_unit 95 _ _ _ rfl) rfl ?_
    refine s_getI (c := 1) (j := 42) (dt_M_unit 96 _ _ _ rfl) (kf_M_336) (sc_382 hS) rfl ?_
    refine s_iload_n (dt_M_unit 97 _ _ _ rfl) rfl ?_
    refine s_bd (κ := fun t23 => kC 191 [some (VR (some 382)), none, some (VI t3), some (VI q4), some (VI q5), none, none] [VI t23, VI (M22 382 42), VR (some 382)] S M22) ?_ (fun t23 => ?_)
    · refine s_if_eq (tgt := 190) (dt_M_unit 98 _ _ _ rfl) rfl ?_ ?_
      · refine s_iconst (dt_M_unit 101 _ _ _ rfl) rfl ?_
        exact s_mask [true, false, true, true, true, false, false] (s_ret0 rfl)
      · refine s_iconst (dt_M_unit 99 _ _ _ rfl) rfl ?_
        refine s_goto (tgt := 191) (dt_M_unit 100 _ _ _ rfl) rfl ?_
        exact s_mask [true, false, true, true, true, false, false] (s_ret0 rfl)
    refine s_iadd (dt_M_unit 102 _ _ _ rfl) ?_
    refine s_putI (c := 1) (j := 42) (dt_M_unit 103 _ _ _ rfl) kp_M_336 (sc_382 hS) ⟨rfl, rfl⟩ ?_
    refine s_letM (fun M24 => ?_)
    refine s_iload (dt_M_unit 104 _ _ _ rfl) rfl ?_
    refine s_bd (κ := fun t25 => kC 208 [some (VR (some 382)), none, some (VI t3), some (VI q4), some (VI q5), none, none] [VI t25] S M24) ?_ (fun t25 => ?_)
    · refine s_if_ne (tgt := 207) (dt_M_unit 105 _ _ _ rfl) rfl ?_ ?_
      · refine s_aload_n (dt_M_unit 106 _ _ _ rfl) rfl ?_
        refine s_getI (c := 1) (j := 9) (dt_M_unit 107 _ _ _ rfl) (kf_M_248) (sc_382 hS) rfl ?_
        refine s_goto (tgt := 208) (dt_M_unit 108 _ _ _ rfl) rfl ?_
        exact s_mask [true, false, true, true, true, false, false] (s_ret0 rfl)
      · refine s_iconst (dt_M_unit 109 _ _ _ rfl) rfl ?_
        exact s_mask [true, false, true, true, true, false, false] (s_ret0 rfl)
    refine s_istore (dt_M_unit 110 _ _ _ rfl) rfl ?_
    refine s_aload_n (dt_M_unit 111 _ _ _ rfl) rfl ?_
    refine s_callO (y := y_M_goOn) (Y' := Y_M_goOn) (as := [VR (some 382)]) (r := fun q => none) (M' := fun q => q) (kInvV (dt_M_unit 112 _ _ _ rfl) kin_M_goOn 1 rfl (sc_382 hS) kse_M_goOn rfl) kl_M_262 md_M_goOn rfl rfl (fun q hq => c_M_goOn hS M24 q hq) (fun q26 => ?_)
    refine s_iload_n (dt_M_unit 113 _ _ _ rfl) rfl ?_
    refine s_if_ne (tgt := 222) (dt_M_unit 114 _ _ _ rfl) rfl ?_ ?_
    · refine s_iload_n (dt_M_unit 115 _ _ _ rfl) rfl ?_
      refine s_if_eq (tgt := 250) (dt_M_unit 116 _ _ _ rfl) rfl ?_ ?_
      · refine s_aload_n (dt_M_unit 133 _ _ _ rfl) rfl ?_
        refine s_iload (dt_M_unit 134 _ _ _ rfl) rfl ?_
        refine s_bd (κ := fun t27 => kC 263 [none, none, none, none, none, none, some (VI t25)] [VI t27, VR (some 382)] S q26) ?_ (fun t27 => ?_)
        · refine s_if_ne (tgt := 261) (dt_M_unit 135 _ _ _ rfl) rfl ?_ ?_
          · refine s_bipush (dt_M_unit 136 _ _ _ rfl) rfl ?_
            refine s_goto (tgt := 263) (dt_M_unit 137 _ _ _ rfl) rfl ?_
            exact s_mask [false, false, false, false, false, false, true] (s_ret0 rfl)
          · refine s_iload (dt_M_unit 138 _ _ _ rfl) rfl ?_
            exact s_mask [false, false, false, false, false, false, true] (s_ret0 rfl)
        refine s_iload (dt_M_unit 139 _ _ _ rfl) rfl ?_
        refine s_callO (y := y_M_emit) (Y' := Y_M_emit) (as := [VR (some 382), VI t27, VI t25]) (r := fun q => none) (M' := fun q => q) (kInvV (dt_M_unit 140 _ _ _ rfl) kin_M_emit 1 rfl (sc_382 hS) kse_M_emit rfl) kl_M_360 md_M_emit rfl rfl (fun q hq => c_M_emit hS t27 t25 q26 q hq) (fun q28 => ?_)
        refine s_iconst (dt_M_unit 141 _ _ _ rfl) rfl ?_
        exact s_zret01 (dt_M_unit 142 _ _ _ rfl) rfl rfl rfl
      · exact s_mask [true, false, true, false, false, false, false] (sJ_M_unit_222 hS M t3 q26)
    · exact s_mask [true, false, true, false, false, false, false] (sJ_M_unit_222 hS M t3 q26)
theorem c_M_unit {S : KS} (hS : KExt 435 S)   (M : KM) : ∀ q, f_M_unit  M = some q → Ctr y_M_unit Y_M_unit [VR (some 382)] S M (some (VI q.1)) S (q.2) := fun q hq =>
  ctr_of md_M_unit (Nat.le_of_ble_eq_true rfl) ⟨Nat.le_refl _, Nat.le_refl _⟩ 6 hq rfl (fun _ G => sim_M_unit hS   M)
set_option maxRecDepth 100000 in
theorem sim_M_e {G : Gam} {S : KS} (hS : KExt 435 S)   (M : KM) : Sim G Y_M_e (f_M_e  M) (kC 0 [some (VR (some 382)), none] [] S M) (fun (q : KM) => Sum.inr (none, S, q)) := by
  unfold f_M_e
  refine s_aload_n (dt_M_e 0 _ _ _ rfl) rfl ?_
  refine s_iconst (dt_M_e 1 _ _ _ rfl) rfl ?_
  refine s_putI (c := 1) (j := 41) (dt_M_e 2 _ _ _ rfl) kp_M_342 (sc_382 hS) ⟨rfl, rfl⟩ ?_
  refine s_letM (fun M1 => ?_)
  refine s_aload_n (dt_M_e 3 _ _ _ rfl) rfl ?_
  refine s_iconst (dt_M_e 4 _ _ _ rfl) rfl ?_
  refine s_putI (c := 1) (j := 40) (dt_M_e 5 _ _ _ rfl) kp_M_345 (sc_382 hS) ⟨rfl, rfl⟩ ?_
  refine s_letM (fun M2 => ?_)
  refine s_aload_n (dt_M_e 6 _ _ _ rfl) rfl ?_
  refine s_bipush (dt_M_e 7 _ _ _ rfl) rfl ?_
  refine s_iconst (dt_M_e 8 _ _ _ rfl) rfl ?_
  refine s_callO (y := y_M_pushE) (Y' := Y_M_pushE) (as := [VR (some 382), VI (8 : Int), VI (0 : Int)]) (r := fun q => none) (M' := fun q => q) (kInvV (dt_M_e 9 _ _ _ rfl) kin_M_pushE 1 rfl (sc_382 hS) kse_M_pushE rfl) kl_M_348 md_M_pushE rfl rfl (fun q hq => c_M_pushE hS (8 : Int) (0 : Int) M2 q hq) (fun q3 => ?_)
  refine s_iconst (dt_M_e 10 _ _ _ rfl) rfl ?_
  refine s_istore_n (dt_M_e 11 _ _ _ rfl) rfl ?_
  refine s_bd (κ := (fun (e9 : KM) => kC 52 [none, none] [] S e9)) (s_mask [true, true] (s_while (c := fun s4 => kC 19 [some (VR (some 382)), some (VI s4.1)] [] S s4.2) (fun s4 => ?_) ((1 : Int), q3))) ?_
  · refine s_aload_n (dt_M_e 12 _ _ _ rfl) rfl ?_
    refine s_callO (y := y_M_isGood) (Y' := Y_M_isGood) (as := [VR (some 382)]) (r := fun q => some (VI q)) (M' := fun q => s4.2) (kInvV (dt_M_e 13 _ _ _ rfl) kin_M_isGood 1 rfl (sc_382 hS) kse_M_isGood rfl) kl_M_258 md_M_isGood rfl rfl (fun q hq => c_M_isGood hS s4.2 q hq) (fun q5 => ?_)
    refine s_if_eq (tgt := 52) (dt_M_e 14 _ _ _ rfl) rfl ?_ ?_
    · exact s_mask [false, false] (s_ret0 rfl)
    · refine s_aload_n (dt_M_e 15 _ _ _ rfl) rfl ?_
      refine s_getI (c := 1) (j := 41) (dt_M_e 16 _ _ _ rfl) (kf_M_342) (sc_382 hS) rfl ?_
      refine s_if_le (tgt := 52) (dt_M_e 17 _ _ _ rfl) rfl ?_ ?_
      · exact s_mask [false, false] (s_ret0 rfl)
      · refine s_iload_n (dt_M_e 18 _ _ _ rfl) rfl ?_
        refine s_bd (κ := fun t8 => kC 48 [some (VR (some 382)), none] [VI t8.1] S t8.2) ?_ (fun t8 => ?_)
        · refine s_if_eq (tgt := 44) (dt_M_e 19 _ _ _ rfl) rfl ?_ ?_
          · refine s_aload_n (dt_M_e 23 _ _ _ rfl) rfl ?_
            refine s_callO (y := y_M_behindUnit) (Y' := Y_M_behindUnit) (as := [VR (some 382)]) (r := fun q => some (VI q.1)) (M' := fun q => q.2) (kInvV (dt_M_e 24 _ _ _ rfl) kin_M_behindUnit 1 rfl (sc_382 hS) kse_M_behindUnit rfl) kl_M_354 md_M_behindUnit rfl rfl (fun q hq => c_M_behindUnit hS s4.2 q hq) (fun q6 => ?_)
            exact s_mask [true, false] (s_ret0 rfl)
          · refine s_aload_n (dt_M_e 20 _ _ _ rfl) rfl ?_
            refine s_callO (y := y_M_unit) (Y' := Y_M_unit) (as := [VR (some 382)]) (r := fun q => some (VI q.1)) (M' := fun q => q.2) (kInvV (dt_M_e 21 _ _ _ rfl) kin_M_unit 1 rfl (sc_382 hS) kse_M_unit rfl) kl_M_351 md_M_unit rfl rfl (fun q hq => c_M_unit hS s4.2 q hq) (fun q7 => ?_)
            refine s_goto (tgt := 48) (dt_M_e 22 _ _ _ rfl) rfl ?_
            exact s_mask [true, false] (s_ret0 rfl)
        refine s_istore_n (dt_M_e 25 _ _ _ rfl) rfl ?_
        refine s_goto (tgt := 19) (dt_M_e 26 _ _ _ rfl) rfl ?_
        exact s_mask [true, true] (s_ret0 rfl)
  intro e9
  exact s_vret (dt_M_e 27 _ _ _ rfl) rfl rfl
theorem c_M_e {S : KS} (hS : KExt 435 S)   (M : KM) : ∀ q, f_M_e  M = some q → Ctr y_M_e Y_M_e [VR (some 382)] S M (none) S (q) := fun q hq =>
  ctr_of md_M_e (Nat.le_of_ble_eq_true rfl) ⟨Nat.le_refl _, Nat.le_refl _⟩ 1 hq rfl (fun _ G => sim_M_e hS   M)
set_option maxRecDepth 100000 in
theorem sim_M_readRule {G : Gam} {S : KS} (hS : KExt 435 S)  (a0 : Int) (M : KM) : Sim G Y_M_readRule (f_M_readRule a0 M) (kC 0 [some (VR (some 382)), some (VI a0)] [] S M) (fun (q : KM) => Sum.inr (none, S, q)) := by
  unfold f_M_readRule
  refine s_aload_n (dt_M_readRule 0 _ _ _ rfl) rfl ?_
  refine s_iconst (dt_M_readRule 1 _ _ _ rfl) rfl ?_
  refine s_putI (c := 1) (j := 42) (dt_M_readRule 2 _ _ _ rfl) kp_M_336 (sc_382 hS) ⟨rfl, rfl⟩ ?_
  refine s_letM (fun M1 => ?_)
  refine s_aload_n (dt_M_readRule 3 _ _ _ rfl) rfl ?_
  refine s_getR (c := 1) (j := 29) (o := (some 403)) (dt_M_readRule 4 _ _ _ rfl) (kf_M_76) (sc_382 hS) rfl rfl ?_
  refine s_bipush (dt_M_readRule 5 _ _ _ rfl) rfl ?_
  refine s_aload_n (dt_M_readRule 6 _ _ _ rfl) rfl ?_
  refine s_getI (c := 1) (j := 38) (dt_M_readRule 7 _ _ _ rfl) (kf_M_279) (sc_382 hS) rfl ?_
  refine s_imul (dt_M_readRule 8 _ _ _ rfl) ?_
  refine s_iload_n (dt_M_readRule 9 _ _ _ rfl) rfl ?_
  refine s_iadd (dt_M_readRule 10 _ _ _ rfl) ?_
  refine s_iconst (dt_M_readRule 11 _ _ _ rfl) rfl ?_
  refine s_zast (N := 14) (dt_M_readRule 12 _ _ _ rfl) (sc_403 hS) rfl ?_
  refine s_letM (fun M2 => ?_)
  refine s_aload_n (dt_M_readRule 13 _ _ _ rfl) rfl ?_
  refine s_getR (c := 1) (j := 26) (o := (some 400)) (dt_M_readRule 14 _ _ _ rfl) (kf_M_66) (sc_382 hS) rfl rfl ?_
  refine s_bipush (dt_M_readRule 15 _ _ _ rfl) rfl ?_
  refine s_aload_n (dt_M_readRule 16 _ _ _ rfl) rfl ?_
  refine s_getI (c := 1) (j := 38) (dt_M_readRule 17 _ _ _ rfl) (kf_M_279) (sc_382 hS) rfl ?_
  refine s_imul (dt_M_readRule 18 _ _ _ rfl) ?_
  refine s_iload_n (dt_M_readRule 19 _ _ _ rfl) rfl ?_
  refine s_iadd (dt_M_readRule 20 _ _ _ rfl) ?_
  refine s_aload_n (dt_M_readRule 21 _ _ _ rfl) rfl ?_
  refine s_getI (c := 1) (j := 39) (dt_M_readRule 22 _ _ _ rfl) (kf_M_282) (sc_382 hS) rfl ?_
  refine s_iast (N := 14) (dt_M_readRule 23 _ _ _ rfl) (sc_400 hS) rfl ?_
  refine s_letM (fun M3 => ?_)
  refine s_aload_n (dt_M_readRule 24 _ _ _ rfl) rfl ?_
  refine s_callO (y := y_M_e) (Y' := Y_M_e) (as := [VR (some 382)]) (r := fun q => none) (M' := fun q => q) (kInvV (dt_M_readRule 25 _ _ _ rfl) kin_M_e 1 rfl (sc_382 hS) kse_M_e rfl) kl_M_339 md_M_e rfl rfl (fun q hq => c_M_e hS M3 q hq) (fun q4 => ?_)
  refine s_aload_n (dt_M_readRule 26 _ _ _ rfl) rfl ?_
  refine s_getR (c := 1) (j := 27) (o := (some 401)) (dt_M_readRule 27 _ _ _ rfl) (kf_M_69) (sc_382 hS) rfl rfl ?_
  refine s_bipush (dt_M_readRule 28 _ _ _ rfl) rfl ?_
  refine s_aload_n (dt_M_readRule 29 _ _ _ rfl) rfl ?_
  refine s_getI (c := 1) (j := 38) (dt_M_readRule 30 _ _ _ rfl) (kf_M_279) (sc_382 hS) rfl ?_
  refine s_imul (dt_M_readRule 31 _ _ _ rfl) ?_
  refine s_iload_n (dt_M_readRule 32 _ _ _ rfl) rfl ?_
  refine s_iadd (dt_M_readRule 33 _ _ _ rfl) ?_
  refine s_aload_n (dt_M_readRule 34 _ _ _ rfl) rfl ?_
  refine s_getI (c := 1) (j := 39) (dt_M_readRule 35 _ _ _ rfl) (kf_M_282) (sc_382 hS) rfl ?_
  refine s_iast (N := 14) (dt_M_readRule 36 _ _ _ rfl) (sc_401 hS) rfl ?_
  refine s_letM (fun M5 => ?_)
  exact s_vret (dt_M_readRule 37 _ _ _ rfl) rfl rfl
theorem c_M_readRule {S : KS} (hS : KExt 435 S)  (a0 : Int) (M : KM) : ∀ q, f_M_readRule a0 M = some q → Ctr y_M_readRule Y_M_readRule [VR (some 382), VI a0] S M (none) S (q) := fun q hq =>
  ctr_of md_M_readRule (Nat.le_of_ble_eq_true rfl) ⟨Nat.le_refl _, Nat.le_refl _⟩ 0 hq rfl (fun _ G => sim_M_readRule hS  a0 M)
set_option maxRecDepth 100000 in
theorem sim_M_readRight {G : Gam} {S : KS} (hS : KExt 435 S)   (M : KM) : Sim G Y_M_readRight (f_M_readRight  M) (kC 0 [some (VR (some 382))] [] S M) (fun (q : KM) => Sum.inr (none, S, q)) := by
  unfold f_M_readRight
  refine s_aload_n (dt_M_readRight 0 _ _ _ rfl) rfl ?_
  refine s_getR (c := 1) (j := 31) (o := (some 405)) (dt_M_readRight 1 _ _ _ rfl) (kf_M_83) (sc_382 hS) rfl rfl ?_
  refine s_bipush (dt_M_readRight 2 _ _ _ rfl) rfl ?_
  refine s_aload_n (dt_M_readRight 3 _ _ _ rfl) rfl ?_
  refine s_getI (c := 1) (j := 38) (dt_M_readRight 4 _ _ _ rfl) (kf_M_279) (sc_382 hS) rfl ?_
  refine s_imul (dt_M_readRight 5 _ _ _ rfl) ?_
  refine s_aload_n (dt_M_readRight 6 _ _ _ rfl) rfl ?_
  refine s_getR (c := 1) (j := 13) (o := (some 387)) (dt_M_readRight 7 _ _ _ rfl) (kf_M_27) (sc_382 hS) rfl rfl ?_
  refine s_aload_n (dt_M_readRight 8 _ _ _ rfl) rfl ?_
  refine s_getI (c := 1) (j := 38) (dt_M_readRight 9 _ _ _ rfl) (kf_M_279) (sc_382 hS) rfl ?_
  refine s_iald (N := 2) (dt_M_readRight 10 _ _ _ rfl) (sc_387 hS) rfl ?_
  refine s_iadd (dt_M_readRight 11 _ _ _ rfl) ?_
  refine s_aload_n (dt_M_readRight 12 _ _ _ rfl) rfl ?_
  refine s_aload_n (dt_M_readRight 13 _ _ _ rfl) rfl ?_
  refine s_aload_n (dt_M_readRight 14 _ _ _ rfl) rfl ?_
  refine s_getR (c := 1) (j := 31) (o := (some 405)) (dt_M_readRight 15 _ _ _ rfl) (kf_M_83) (sc_382 hS) rfl rfl ?_
  refine s_bipush (dt_M_readRight 16 _ _ _ rfl) rfl ?_
  refine s_aload_n (dt_M_readRight 17 _ _ _ rfl) rfl ?_
  refine s_getI (c := 1) (j := 38) (dt_M_readRight 18 _ _ _ rfl) (kf_M_279) (sc_382 hS) rfl ?_
  refine s_imul (dt_M_readRight 19 _ _ _ rfl) ?_
  refine s_aload_n (dt_M_readRight 20 _ _ _ rfl) rfl ?_
  refine s_getR (c := 1) (j := 13) (o := (some 387)) (dt_M_readRight 21 _ _ _ rfl) (kf_M_27) (sc_382 hS) rfl rfl ?_
  refine s_aload_n (dt_M_readRight 22 _ _ _ rfl) rfl ?_
  refine s_getI (c := 1) (j := 38) (dt_M_readRight 23 _ _ _ rfl) (kf_M_279) (sc_382 hS) rfl ?_
  refine s_iald (N := 2) (dt_M_readRight 24 _ _ _ rfl) (sc_387 hS) rfl ?_
  refine s_callO (y := y_M_here) (Y' := Y_M_here) (as := [VR (some 382), VR (some 405), VI (w32 ((6 : Int) * (M 382 38))), VI (M 387 (M 382 38).toNat)]) (r := fun q => some (VI q)) (M' := fun q => M) (kInvV (dt_M_readRight 25 _ _ _ rfl) kin_M_here 1 rfl (sc_382 hS) kse_M_here rfl) kl_M_317 md_M_here rfl rfl (fun q hq => c_M_hereR hS (w32 ((6 : Int) * (M 382 38))) (M 387 (M 382 38).toNat) M q hq) (fun q1 => ?_)
  refine s_callO (y := y_M_fresh) (Y' := Y_M_fresh) (as := [VR (some 382), VI q1]) (r := fun q => some (VJ q.1)) (M' := fun q => q.2) (kInvV (dt_M_readRight 26 _ _ _ rfl) kin_M_fresh 1 rfl (sc_382 hS) kse_M_fresh rfl) kl_M_325 md_M_fresh rfl rfl (fun q hq => c_M_fresh hS q1 M q hq) (fun q2 => ?_)
  refine s_last (N := 12) (dt_M_readRight 27 _ _ _ rfl) (sc_405 hS) rfl ?_
  refine s_letM (fun M3 => ?_)
  refine s_aload_n (dt_M_readRight 28 _ _ _ rfl) rfl ?_
  refine s_callO (y := y_M_isGood) (Y' := Y_M_isGood) (as := [VR (some 382)]) (r := fun q => some (VI q)) (M' := fun q => M3) (kInvV (dt_M_readRight 29 _ _ _ rfl) kin_M_isGood 1 rfl (sc_382 hS) kse_M_isGood rfl) kl_M_258 md_M_isGood rfl rfl (fun q hq => c_M_isGood hS M3 q hq) (fun q4 => ?_)
  refine s_bd (κ := fun t6 => kC 70 [some (VR (some 382))] [] S t6) ?_ (fun t6 => ?_)
  · refine s_if_eq (tgt := 70) (dt_M_readRight 30 _ _ _ rfl) rfl ?_ ?_
    · exact s_mask [true] (s_ret0 rfl)
    · refine s_aload_n (dt_M_readRight 31 _ _ _ rfl) rfl ?_
      refine s_aload_n (dt_M_readRight 32 _ _ _ rfl) rfl ?_
      refine s_getR (c := 1) (j := 13) (o := (some 387)) (dt_M_readRight 33 _ _ _ rfl) (kf_M_27) (sc_382 hS) rfl rfl ?_
      refine s_aload_n (dt_M_readRight 34 _ _ _ rfl) rfl ?_
      refine s_getI (c := 1) (j := 38) (dt_M_readRight 35 _ _ _ rfl) (kf_M_279) (sc_382 hS) rfl ?_
      refine s_iald (N := 2) (dt_M_readRight 36 _ _ _ rfl) (sc_387 hS) rfl ?_
      refine s_callO (y := y_M_readRule) (Y' := Y_M_readRule) (as := [VR (some 382), VI (M3 387 (M3 382 38).toNat)]) (r := fun q => none) (M' := fun q => q) (kInvV (dt_M_readRight 37 _ _ _ rfl) kin_M_readRule 1 rfl (sc_382 hS) kse_M_readRule rfl) kl_M_310 md_M_readRule rfl rfl (fun q hq => c_M_readRule hS (M3 387 (M3 382 38).toNat) M3 q hq) (fun q5 => ?_)
      exact s_mask [true] (s_ret0 rfl)
  refine s_aload_n (dt_M_readRight 38 _ _ _ rfl) rfl ?_
  refine s_getR (c := 1) (j := 13) (o := (some 387)) (dt_M_readRight 39 _ _ _ rfl) (kf_M_27) (sc_382 hS) rfl rfl ?_
  refine s_aload_n (dt_M_readRight 40 _ _ _ rfl) rfl ?_
  refine s_getI (c := 1) (j := 38) (dt_M_readRight 41 _ _ _ rfl) (kf_M_279) (sc_382 hS) rfl ?_
  refine s_dup2 (dt_M_readRight 42 _ _ _ rfl) rfl rfl ?_
  refine s_iald (N := 2) (dt_M_readRight 43 _ _ _ rfl) (sc_387 hS) rfl ?_
  refine s_iconst (dt_M_readRight 44 _ _ _ rfl) rfl ?_
  refine s_iadd (dt_M_readRight 45 _ _ _ rfl) ?_
  refine s_iast (N := 2) (dt_M_readRight 46 _ _ _ rfl) (sc_387 hS) rfl ?_
  refine s_letM (fun M7 => ?_)
  exact s_vret (dt_M_readRight 47 _ _ _ rfl) rfl rfl
theorem c_M_readRight {S : KS} (hS : KExt 435 S)   (M : KM) : ∀ q, f_M_readRight  M = some q → Ctr y_M_readRight Y_M_readRight [VR (some 382)] S M (none) S (q) := fun q hq =>
  ctr_of md_M_readRight (Nat.le_of_ble_eq_true rfl) ⟨Nat.le_refl _, Nat.le_refl _⟩ 0 hq rfl (fun _ G => sim_M_readRight hS   M)
set_option maxRecDepth 100000 in
theorem sim_M_readLine {G : Gam} {S : KS} (hS : KExt 435 S)   (M : KM) : Sim G Y_M_readLine (f_M_readLine  M) (kC 0 [some (VR (some 382)), none, none] [] S M) (fun (q : KM) => Sum.inr (none, S, q)) := by
  unfold f_M_readLine
  refine s_aload_n (dt_M_readLine 0 _ _ _ rfl) rfl ?_
  refine s_getJ (c := 1) (j := 10) (dt_M_readLine 1 _ _ _ rfl) (kf_M_237) (sc_382 hS) rfl ?_
  refine s_lstore_n (dt_M_readLine 2 _ _ _ rfl) rfl ?_
  refine s_aload_n (dt_M_readLine 3 _ _ _ rfl) rfl ?_
  refine s_getI (c := 1) (j := 8) (dt_M_readLine 4 _ _ _ rfl) (kf_M_230) (sc_382 hS) rfl ?_
  refine s_iconst (dt_M_readLine 5 _ _ _ rfl) rfl ?_
  refine s_bd (κ := fun t4 => kC 24 [some (VR (some 382)), some (VJ (M 382 10)), none] [] S t4) ?_ (fun t4 => ?_)
  · refine s_if_icmp_ne (tgt := 20) (dt_M_readLine 6 _ _ _ rfl) rfl ?_ ?_
    · refine s_aload_n (dt_M_readLine 7 _ _ _ rfl) rfl ?_
      refine s_callO (y := y_M_isFull) (Y' := Y_M_isFull) (as := [VR (some 382)]) (r := fun q => some (VI q)) (M' := fun q => M) (kInvV (dt_M_readLine 8 _ _ _ rfl) kin_M_isFull 1 rfl (sc_382 hS) kse_M_isFull rfl) kl_M_294 md_M_isFull rfl rfl (fun q hq => c_M_isFull hS M q hq) (fun q1 => ?_)
      refine s_if_eq (tgt := 24) (dt_M_readLine 9 _ _ _ rfl) rfl ?_ ?_
      · exact s_mask [true, true, false] (s_ret0 rfl)
      · refine s_aload_n (dt_M_readLine 10 _ _ _ rfl) rfl ?_
        refine s_callO (y := y_M_misplaced) (Y' := Y_M_misplaced) (as := [VR (some 382)]) (r := fun q => none) (M' := fun q => q) (kInvV (dt_M_readLine 11 _ _ _ rfl) kin_M_misplaced 1 rfl (sc_382 hS) kse_M_misplaced rfl) kl_M_265 md_M_misplaced rfl rfl (fun q hq => c_M_misplaced hS M q hq) (fun q2 => ?_)
        exact s_mask [true, true, false] (s_ret0 rfl)
    · refine s_aload_n (dt_M_readLine 10 _ _ _ rfl) rfl ?_
      refine s_callO (y := y_M_misplaced) (Y' := Y_M_misplaced) (as := [VR (some 382)]) (r := fun q => none) (M' := fun q => q) (kInvV (dt_M_readLine 11 _ _ _ rfl) kin_M_misplaced 1 rfl (sc_382 hS) kse_M_misplaced rfl) kl_M_265 md_M_misplaced rfl rfl (fun q hq => c_M_misplaced hS M q hq) (fun q3 => ?_)
      exact s_mask [true, true, false] (s_ret0 rfl)
  refine s_aload_n (dt_M_readLine 12 _ _ _ rfl) rfl ?_
  refine s_callO (y := y_M_isGood) (Y' := Y_M_isGood) (as := [VR (some 382)]) (r := fun q => some (VI q)) (M' := fun q => t4) (kInvV (dt_M_readLine 13 _ _ _ rfl) kin_M_isGood 1 rfl (sc_382 hS) kse_M_isGood rfl) kl_M_258 md_M_isGood rfl rfl (fun q hq => c_M_isGood hS t4 q hq) (fun q5 => ?_)
  refine s_if_ne (tgt := 32) (dt_M_readLine 14 _ _ _ rfl) rfl ?_ ?_
  · exact s_vret (dt_M_readLine 15 _ _ _ rfl) rfl rfl
  · refine s_aload_n (dt_M_readLine 16 _ _ _ rfl) rfl ?_
    refine s_callO (y := y_M_goOn) (Y' := Y_M_goOn) (as := [VR (some 382)]) (r := fun q => none) (M' := fun q => q) (kInvV (dt_M_readLine 17 _ _ _ rfl) kin_M_goOn 1 rfl (sc_382 hS) kse_M_goOn rfl) kl_M_262 md_M_goOn rfl rfl (fun q hq => c_M_goOn hS t4 q hq) (fun q6 => ?_)
    refine s_aload_n (dt_M_readLine 18 _ _ _ rfl) rfl ?_
    refine s_getR (c := 1) (j := 18) (o := (some 392)) (dt_M_readLine 19 _ _ _ rfl) (kf_M_42) (sc_382 hS) rfl rfl ?_
    refine s_aload_n (dt_M_readLine 20 _ _ _ rfl) rfl ?_
    refine s_getI (c := 1) (j := 38) (dt_M_readLine 21 _ _ _ rfl) (kf_M_279) (sc_382 hS) rfl ?_
    refine s_dup2 (dt_M_readLine 22 _ _ _ rfl) rfl rfl ?_
    refine s_iald (N := 2) (dt_M_readLine 23 _ _ _ rfl) (sc_392 hS) rfl ?_
    refine s_iconst (dt_M_readLine 24 _ _ _ rfl) rfl ?_
    refine s_iadd (dt_M_readLine 25 _ _ _ rfl) ?_
    refine s_iast (N := 2) (dt_M_readLine 26 _ _ _ rfl) (sc_392 hS) rfl ?_
    refine s_letM (fun M7 => ?_)
    refine s_lload_n (dt_M_readLine 27 _ _ _ rfl) rfl ?_
    refine s_ldc2 (n := (1634166131 : Int)) (kc_M_208) (dt_M_readLine 28 _ _ _ rfl) rfl ?_
    refine s_lcmp (dt_M_readLine 29 _ _ _ rfl) ?_
    refine s_bd (κ := fun t12 => kC 102 [some (VR (some 382)), some (VJ (M 382 10)), none] [] S t12) ?_ (fun t12 => ?_)
    · refine s_if_ne (tgt := 102) (dt_M_readLine 30 _ _ _ rfl) rfl ?_ ?_
      · refine s_aload_n (dt_M_readLine 31 _ _ _ rfl) rfl ?_
        refine s_getR (c := 1) (j := 16) (o := (some 390)) (dt_M_readLine 32 _ _ _ rfl) (kf_M_36) (sc_382 hS) rfl rfl ?_
        refine s_aload_n (dt_M_readLine 33 _ _ _ rfl) rfl ?_
        refine s_getI (c := 1) (j := 38) (dt_M_readLine 34 _ _ _ rfl) (kf_M_279) (sc_382 hS) rfl ?_
        refine s_aload_n (dt_M_readLine 35 _ _ _ rfl) rfl ?_
        refine s_iconst (dt_M_readLine 36 _ _ _ rfl) rfl ?_
        refine s_sipush (dt_M_readLine 37 _ _ _ rfl) rfl ?_
        refine s_callO (y := y_M_numeral) (Y' := Y_M_numeral) (as := [VR (some 382), VI (0 : Int), VI (150 : Int)]) (r := fun q => some (VI q.1)) (M' := fun q => q.2) (kInvV (dt_M_readLine 38 _ _ _ rfl) kin_M_numeral 1 rfl (sc_382 hS) kse_M_numeral rfl) kl_M_275 md_M_numeral rfl rfl (fun q hq => c_M_numeral hS (0 : Int) (150 : Int) M7 q hq) (fun q8 => ?_)
        refine s_iast (N := 2) (dt_M_readLine 39 _ _ _ rfl) (sc_390 hS) rfl ?_
        refine s_letM (fun M9 => ?_)
        refine s_aload_n (dt_M_readLine 40 _ _ _ rfl) rfl ?_
        refine s_getR (c := 1) (j := 17) (o := (some 391)) (dt_M_readLine 41 _ _ _ rfl) (kf_M_39) (sc_382 hS) rfl rfl ?_
        refine s_aload_n (dt_M_readLine 42 _ _ _ rfl) rfl ?_
        refine s_getI (c := 1) (j := 38) (dt_M_readLine 43 _ _ _ rfl) (kf_M_279) (sc_382 hS) rfl ?_
        refine s_aload_n (dt_M_readLine 44 _ _ _ rfl) rfl ?_
        refine s_ldc2 (n := (29807 : Int)) (kc_M_200) (dt_M_readLine 45 _ _ _ rfl) rfl ?_
        refine s_aload_n (dt_M_readLine 46 _ _ _ rfl) rfl ?_
        refine s_getR (c := 1) (j := 16) (o := (some 390)) (dt_M_readLine 47 _ _ _ rfl) (kf_M_36) (sc_382 hS) rfl rfl ?_
        refine s_aload_n (dt_M_readLine 48 _ _ _ rfl) rfl ?_
        refine s_getI (c := 1) (j := 38) (dt_M_readLine 49 _ _ _ rfl) (kf_M_279) (sc_382 hS) rfl ?_
        refine s_iald (N := 2) (dt_M_readLine 50 _ _ _ rfl) (sc_390 hS) rfl ?_
        refine s_sipush (dt_M_readLine 51 _ _ _ rfl) rfl ?_
        refine s_callO (y := y_M_after) (Y' := Y_M_after) (as := [VR (some 382), VJ (29807 : Int), VI (M9 390 (M9 382 38).toNat), VI (150 : Int)]) (r := fun q => some (VI q.1)) (M' := fun q => q.2) (kInvV (dt_M_readLine 52 _ _ _ rfl) kin_M_after 1 rfl (sc_382 hS) kse_M_after rfl) kl_M_297 md_M_after rfl rfl (fun q hq => c_M_after hS (29807 : Int) (M9 390 (M9 382 38).toNat) (150 : Int) M9 q hq) (fun q10 => ?_)
        refine s_iast (N := 2) (dt_M_readLine 53 _ _ _ rfl) (sc_391 hS) rfl ?_
        refine s_letM (fun M11 => ?_)
        exact s_mask [true, true, false] (s_ret0 rfl)
      · exact s_mask [true, true, false] (s_ret0 rfl)
    refine s_lload_n (dt_M_readLine 54 _ _ _ rfl) rfl ?_
    refine s_ldc2 (n := (123581014175598 : Int)) (kc_M_188) (dt_M_readLine 55 _ _ _ rfl) rfl ?_
    refine s_lcmp (dt_M_readLine 56 _ _ _ rfl) ?_
    refine s_bd (κ := fun t14 => kC 114 [some (VR (some 382)), some (VJ (M 382 10)), none] [] S t14) ?_ (fun t14 => ?_)
    · refine s_if_ne (tgt := 114) (dt_M_readLine 57 _ _ _ rfl) rfl ?_ ?_
      · refine s_aload_n (dt_M_readLine 58 _ _ _ rfl) rfl ?_
        refine s_callO (y := y_M_readPerson) (Y' := Y_M_readPerson) (as := [VR (some 382)]) (r := fun q => none) (M' := fun q => q) (kInvV (dt_M_readLine 59 _ _ _ rfl) kin_M_readPerson 1 rfl (sc_382 hS) kse_M_readPerson rfl) kl_M_301 md_M_readPerson rfl rfl (fun q hq => c_M_readPerson hS t12 q hq) (fun q13 => ?_)
        exact s_mask [true, true, false] (s_ret0 rfl)
      · exact s_mask [true, true, false] (s_ret0 rfl)
    refine s_lload_n (dt_M_readLine 60 _ _ _ rfl) rfl ?_
    refine s_ldc2 (n := (112641580559972 : Int)) (kc_M_198) (dt_M_readLine 61 _ _ _ rfl) rfl ?_
    refine s_lcmp (dt_M_readLine 62 _ _ _ rfl) ?_
    refine s_bd (κ := fun t16 => kC 126 [some (VR (some 382)), some (VJ (M 382 10)), none] [] S t16) ?_ (fun t16 => ?_)
    · refine s_if_ne (tgt := 126) (dt_M_readLine 63 _ _ _ rfl) rfl ?_ ?_
      · refine s_aload_n (dt_M_readLine 64 _ _ _ rfl) rfl ?_
        refine s_callO (y := y_M_readFriend) (Y' := Y_M_readFriend) (as := [VR (some 382)]) (r := fun q => none) (M' := fun q => q) (kInvV (dt_M_readLine 65 _ _ _ rfl) kin_M_readFriend 1 rfl (sc_382 hS) kse_M_readFriend rfl) kl_M_304 md_M_readFriend rfl rfl (fun q hq => c_M_readFriend hS t14 q hq) (fun q15 => ?_)
        exact s_mask [true, true, false] (s_ret0 rfl)
      · exact s_mask [true, true, false] (s_ret0 rfl)
    refine s_lload_n (dt_M_readLine 66 _ _ _ rfl) rfl ?_
    refine s_ldc2 (n := (491394656372 : Int)) (kc_M_204) (dt_M_readLine 67 _ _ _ rfl) rfl ?_
    refine s_lcmp (dt_M_readLine 68 _ _ _ rfl) ?_
    refine s_bd (κ := fun t18 => kC 138 [some (VR (some 382)), some (VJ (M 382 10)), none] [] S t18) ?_ (fun t18 => ?_)
    · refine s_if_ne (tgt := 138) (dt_M_readLine 69 _ _ _ rfl) rfl ?_ ?_
      · refine s_aload_n (dt_M_readLine 70 _ _ _ rfl) rfl ?_
        refine s_callO (y := y_M_readRight) (Y' := Y_M_readRight) (as := [VR (some 382)]) (r := fun q => none) (M' := fun q => q) (kInvV (dt_M_readLine 71 _ _ _ rfl) kin_M_readRight 1 rfl (sc_382 hS) kse_M_readRight rfl) kl_M_307 md_M_readRight rfl rfl (fun q hq => c_M_readRight hS t16 q hq) (fun q17 => ?_)
        exact s_mask [true, true, false] (s_ret0 rfl)
      · exact s_mask [true, true, false] (s_ret0 rfl)
    refine s_lload_n (dt_M_readLine 72 _ _ _ rfl) rfl ?_
    refine s_ldc2 (n := (1868850291 : Int)) (kc_M_206) (dt_M_readLine 73 _ _ _ rfl) rfl ?_
    refine s_lcmp (dt_M_readLine 74 _ _ _ rfl) ?_
    refine s_bd (κ := fun t20 => kC 152 [some (VR (some 382)), some (VJ (M 382 10)), none] [] S t20) ?_ (fun t20 => ?_)
    · refine s_if_ne (tgt := 152) (dt_M_readLine 75 _ _ _ rfl) rfl ?_ ?_
      · refine s_aload_n (dt_M_readLine 76 _ _ _ rfl) rfl ?_
        refine s_bipush (dt_M_readLine 77 _ _ _ rfl) rfl ?_
        refine s_callO (y := y_M_readRule) (Y' := Y_M_readRule) (as := [VR (some 382), VI (6 : Int)]) (r := fun q => none) (M' := fun q => q) (kInvV (dt_M_readLine 78 _ _ _ rfl) kin_M_readRule 1 rfl (sc_382 hS) kse_M_readRule rfl) kl_M_310 md_M_readRule rfl rfl (fun q hq => c_M_readRule hS (6 : Int) t18 q hq) (fun q19 => ?_)
        exact s_mask [true, true, false] (s_ret0 rfl)
      · exact s_mask [true, true, false] (s_ret0 rfl)
    refine s_lload_n (dt_M_readLine 79 _ _ _ rfl) rfl ?_
    refine s_ldc2 (n := (1685217655 : Int)) (kc_M_210) (dt_M_readLine 80 _ _ _ rfl) rfl ?_
    refine s_lcmp (dt_M_readLine 81 _ _ _ rfl) ?_
    refine s_bd (κ := fun t24 => kC 187 [some (VR (some 382)), none, none] [] S t24) ?_ (fun t24 => ?_)
    · refine s_if_ne (tgt := 187) (dt_M_readLine 82 _ _ _ rfl) rfl ?_ ?_
      · refine s_aload_n (dt_M_readLine 83 _ _ _ rfl) rfl ?_
        refine s_getR (c := 1) (j := 28) (o := (some 402)) (dt_M_readLine 84 _ _ _ rfl) (kf_M_72) (sc_382 hS) rfl rfl ?_
        refine s_aload_n (dt_M_readLine 85 _ _ _ rfl) rfl ?_
        refine s_getI (c := 1) (j := 38) (dt_M_readLine 86 _ _ _ rfl) (kf_M_279) (sc_382 hS) rfl ?_
        refine s_iconst (dt_M_readLine 87 _ _ _ rfl) rfl ?_
        refine s_zast (N := 2) (dt_M_readLine 88 _ _ _ rfl) (sc_402 hS) rfl ?_
        refine s_letM (fun M21 => ?_)
        refine s_aload_n (dt_M_readLine 89 _ _ _ rfl) rfl ?_
        refine s_getR (c := 1) (j := 15) (o := (some 389)) (dt_M_readLine 90 _ _ _ rfl) (kf_M_33) (sc_382 hS) rfl rfl ?_
        refine s_aload_n (dt_M_readLine 91 _ _ _ rfl) rfl ?_
        refine s_getI (c := 1) (j := 38) (dt_M_readLine 92 _ _ _ rfl) (kf_M_279) (sc_382 hS) rfl ?_
        refine s_aload_n (dt_M_readLine 93 _ _ _ rfl) rfl ?_
        refine s_iconst (dt_M_readLine 94 _ _ _ rfl) rfl ?_
        refine s_sipush (dt_M_readLine 95 _ _ _ rfl) rfl ?_
        refine s_callO (y := y_M_numeral) (Y' := Y_M_numeral) (as := [VR (some 382), VI (0 : Int), VI (999 : Int)]) (r := fun q => some (VI q.1)) (M' := fun q => q.2) (kInvV (dt_M_readLine 96 _ _ _ rfl) kin_M_numeral 1 rfl (sc_382 hS) kse_M_numeral rfl) kl_M_275 md_M_numeral rfl rfl (fun q hq => c_M_numeral hS (0 : Int) (999 : Int) M21 q hq) (fun q22 => ?_)
        refine s_iast (N := 2) (dt_M_readLine 97 _ _ _ rfl) (sc_389 hS) rfl ?_
        refine s_letM (fun M23 => ?_)
        exact s_mask [true, false, false] (s_ret0 rfl)
      · exact s_mask [true, false, false] (s_ret0 rfl)
    refine s_aload_n (dt_M_readLine 98 _ _ _ rfl) rfl ?_
    refine s_aload_n (dt_M_readLine 99 _ _ _ rfl) rfl ?_
    refine s_bipush (dt_M_readLine 100 _ _ _ rfl) rfl ?_
    refine s_callO (y := y_M_isSignHere) (Y' := Y_M_isSignHere) (as := [VR (some 382), VI (59 : Int)]) (r := fun q => some (VI q)) (M' := fun q => t24) (kInvV (dt_M_readLine 101 _ _ _ rfl) kin_M_isSignHere 1 rfl (sc_382 hS) kse_M_isSignHere rfl) kl_M_314 md_M_isSignHere rfl rfl (fun q hq => c_M_isSignHere hS (59 : Int) t24 q hq) (fun q25 => ?_)
    refine s_callO (y := y_M_must) (Y' := Y_M_must) (as := [VR (some 382), VI q25]) (r := fun q => none) (M' := fun q => q) (kInvV (dt_M_readLine 102 _ _ _ rfl) kin_M_must 1 rfl (sc_382 hS) kse_M_must rfl) kl_M_271 md_M_must rfl rfl (fun q hq => c_M_must hS q25 t24 q hq) (fun q26 => ?_)
    exact s_vret (dt_M_readLine 103 _ _ _ rfl) rfl rfl
theorem c_M_readLine {S : KS} (hS : KExt 435 S)   (M : KM) : ∀ q, f_M_readLine  M = some q → Ctr y_M_readLine Y_M_readLine [VR (some 382)] S M (none) S (q) := fun q hq =>
  ctr_of md_M_readLine (Nat.le_of_ble_eq_true rfl) ⟨Nat.le_refl _, Nat.le_refl _⟩ 2 hq rfl (fun _ G => sim_M_readLine hS   M)
