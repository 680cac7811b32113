set_option maxRecDepth 100000 in
theorem sim_M_rankHere {G : Gam} {S : KS} (hS : KExt 435 S)   (M : KM) : Sim G Y_M_rankHere (f_M_rankHere  M) (kC 0 [some (VR (some 382))] [] S M) (fun (q : Int) => Sum.inr (some (VI q), S, M)) := by
  unfold f_M_rankHere
  refine s_aload_n (dt_M_rankHere 0 _ _ _ rfl) rfl ?_
  refine s_ldc2 (n := (6385252 : Int)) (kc_M_216) (dt_M_rankHere 1 _ _ _ rfl) rfl ?_
  refine s_callO (y := y_M_isWord) (Y' := Y_M_isWord) (as := [VR (some 382), VJ (6385252 : Int)]) (r := fun q => some (VI q)) (M' := fun q => M) (kInvV (dt_M_rankHere 2 _ _ _ rfl) kin_M_isWord 1 rfl (sc_382 hS) kse_M_isWord rfl) kl_M_268 md_M_isWord rfl rfl (fun q hq => c_M_isWord hS (6385252 : Int) M q hq) (fun q1 => ?_)
  refine s_if_eq (tgt := 12) (dt_M_rankHere 3 _ _ _ rfl) rfl ?_ ?_
  · refine s_aload_n (dt_M_rankHere 6 _ _ _ rfl) rfl ?_
    refine s_ldc2 (n := (28530 : Int)) (kc_M_214) (dt_M_rankHere 7 _ _ _ rfl) rfl ?_
    refine s_callO (y := y_M_isWord) (Y' := Y_M_isWord) (as := [VR (some 382), VJ (28530 : Int)]) (r := fun q => some (VI q)) (M' := fun q => M) (kInvV (dt_M_rankHere 8 _ _ _ rfl) kin_M_isWord 1 rfl (sc_382 hS) kse_M_isWord rfl) kl_M_268 md_M_isWord rfl rfl (fun q hq => c_M_isWord hS (28530 : Int) M q hq) (fun q2 => ?_)
    refine s_if_eq (tgt := 24) (dt_M_rankHere 9 _ _ _ rfl) rfl ?_ ?_
    · refine s_aload_n (dt_M_rankHere 12 _ _ _ rfl) rfl ?_
      refine s_bipush (dt_M_rankHere 13 _ _ _ rfl) rfl ?_
      refine s_callO (y := y_M_isSignHere) (Y' := Y_M_isSignHere) (as := [VR (some 382), VI (60 : Int)]) (r := fun q => some (VI q)) (M' := fun q => M) (kInvV (dt_M_rankHere 14 _ _ _ rfl) kin_M_isSignHere 1 rfl (sc_382 hS) kse_M_isSignHere rfl) kl_M_314 md_M_isSignHere rfl rfl (fun q hq => c_M_isSignHere hS (60 : Int) M q hq) (fun q3 => ?_)
      refine s_if_ne (tgt := 51) (dt_M_rankHere 15 _ _ _ rfl) rfl ?_ ?_
      · refine s_aload_n (dt_M_rankHere 16 _ _ _ rfl) rfl ?_
        refine s_bipush (dt_M_rankHere 17 _ _ _ rfl) rfl ?_
        refine s_callO (y := y_M_isSignHere) (Y' := Y_M_isSignHere) (as := [VR (some 382), VI (62 : Int)]) (r := fun q => some (VI q)) (M' := fun q => M) (kInvV (dt_M_rankHere 18 _ _ _ rfl) kin_M_isSignHere 1 rfl (sc_382 hS) kse_M_isSignHere rfl) kl_M_314 md_M_isSignHere rfl rfl (fun q hq => c_M_isSignHere hS (62 : Int) M q hq) (fun q4 => ?_)
        refine s_if_ne (tgt := 51) (dt_M_rankHere 19 _ _ _ rfl) rfl ?_ ?_
        · refine s_aload_n (dt_M_rankHere 20 _ _ _ rfl) rfl ?_
          refine s_bipush (dt_M_rankHere 21 _ _ _ rfl) rfl ?_
          refine s_callO (y := y_M_isSignHere) (Y' := Y_M_isSignHere) (as := [VR (some 382), VI (61 : Int)]) (r := fun q => some (VI q)) (M' := fun q => M) (kInvV (dt_M_rankHere 22 _ _ _ rfl) kin_M_isSignHere 1 rfl (sc_382 hS) kse_M_isSignHere rfl) kl_M_314 md_M_isSignHere rfl rfl (fun q hq => c_M_isSignHere hS (61 : Int) M q hq) (fun q5 => ?_)
          refine s_if_eq (tgt := 53) (dt_M_rankHere 23 _ _ _ rfl) rfl ?_ ?_
          · refine s_aload_n (dt_M_rankHere 26 _ _ _ rfl) rfl ?_
            refine s_bipush (dt_M_rankHere 27 _ _ _ rfl) rfl ?_
            refine s_callO (y := y_M_isSignHere) (Y' := Y_M_isSignHere) (as := [VR (some 382), VI (43 : Int)]) (r := fun q => some (VI q)) (M' := fun q => M) (kInvV (dt_M_rankHere 28 _ _ _ rfl) kin_M_isSignHere 1 rfl (sc_382 hS) kse_M_isSignHere rfl) kl_M_314 md_M_isSignHere rfl rfl (fun q hq => c_M_isSignHere hS (43 : Int) M q hq) (fun q6 => ?_)
            refine s_if_ne (tgt := 71) (dt_M_rankHere 29 _ _ _ rfl) rfl ?_ ?_
            · refine s_aload_n (dt_M_rankHere 30 _ _ _ rfl) rfl ?_
              refine s_bipush (dt_M_rankHere 31 _ _ _ rfl) rfl ?_
              refine s_callO (y := y_M_isSignHere) (Y' := Y_M_isSignHere) (as := [VR (some 382), VI (45 : Int)]) (r := fun q => some (VI q)) (M' := fun q => M) (kInvV (dt_M_rankHere 32 _ _ _ rfl) kin_M_isSignHere 1 rfl (sc_382 hS) kse_M_isSignHere rfl) kl_M_314 md_M_isSignHere rfl rfl (fun q hq => c_M_isSignHere hS (45 : Int) M q hq) (fun q7 => ?_)
              refine s_if_eq (tgt := 73) (dt_M_rankHere 33 _ _ _ rfl) rfl ?_ ?_
              · refine s_aload_n (dt_M_rankHere 36 _ _ _ rfl) rfl ?_
                refine s_bipush (dt_M_rankHere 37 _ _ _ rfl) rfl ?_
                refine s_callO (y := y_M_isSignHere) (Y' := Y_M_isSignHere) (as := [VR (some 382), VI (42 : Int)]) (r := fun q => some (VI q)) (M' := fun q => M) (kInvV (dt_M_rankHere 38 _ _ _ rfl) kin_M_isSignHere 1 rfl (sc_382 hS) kse_M_isSignHere rfl) kl_M_314 md_M_isSignHere rfl rfl (fun q hq => c_M_isSignHere hS (42 : Int) M q hq) (fun q8 => ?_)
                refine s_bd (κ := fun t11 => kC 106 [none] [VI t11] S M) ?_ (fun t11 => ?_)
                · refine s_if_ne (tgt := 100) (dt_M_rankHere 39 _ _ _ rfl) rfl ?_ ?_
                  · refine s_aload_n (dt_M_rankHere 40 _ _ _ rfl) rfl ?_
                    refine s_bipush (dt_M_rankHere 41 _ _ _ rfl) rfl ?_
                    refine s_callO (y := y_M_isSignHere) (Y' := Y_M_isSignHere) (as := [VR (some 382), VI (47 : Int)]) (r := fun q => some (VI q)) (M' := fun q => M) (kInvV (dt_M_rankHere 42 _ _ _ rfl) kin_M_isSignHere 1 rfl (sc_382 hS) kse_M_isSignHere rfl) kl_M_314 md_M_isSignHere rfl rfl (fun q hq => c_M_isSignHere hS (47 : Int) M q hq) (fun q9 => ?_)
                    refine s_if_ne (tgt := 100) (dt_M_rankHere 43 _ _ _ rfl) rfl ?_ ?_
                    · refine s_aload_n (dt_M_rankHere 44 _ _ _ rfl) rfl ?_
                      refine s_bipush (dt_M_rankHere 45 _ _ _ rfl) rfl ?_
                      refine s_callO (y := y_M_isSignHere) (Y' := Y_M_isSignHere) (as := [VR (some 382), VI (37 : Int)]) (r := fun q => some (VI q)) (M' := fun q => M) (kInvV (dt_M_rankHere 46 _ _ _ rfl) kin_M_isSignHere 1 rfl (sc_382 hS) kse_M_isSignHere rfl) kl_M_314 md_M_isSignHere rfl rfl (fun q hq => c_M_isSignHere hS (37 : Int) M q hq) (fun q10 => ?_)
                      refine s_if_eq (tgt := 105) (dt_M_rankHere 47 _ _ _ rfl) rfl ?_ ?_
                      · refine s_iconst (dt_M_rankHere 50 _ _ _ rfl) rfl ?_
                        exact s_mask [false] (s_ret0 rfl)
                      · refine s_bipush (dt_M_rankHere 48 _ _ _ rfl) rfl ?_
                        refine s_goto (tgt := 106) (dt_M_rankHere 49 _ _ _ rfl) rfl ?_
                        exact s_mask [false] (s_ret0 rfl)
                    · refine s_bipush (dt_M_rankHere 48 _ _ _ rfl) rfl ?_
                      refine s_goto (tgt := 106) (dt_M_rankHere 49 _ _ _ rfl) rfl ?_
                      exact s_mask [false] (s_ret0 rfl)
                  · refine s_bipush (dt_M_rankHere 48 _ _ _ rfl) rfl ?_
                    refine s_goto (tgt := 106) (dt_M_rankHere 49 _ _ _ rfl) rfl ?_
                    exact s_mask [false] (s_ret0 rfl)
                exact s_iret (dt_M_rankHere 51 _ _ _ rfl) rfl rfl
              · refine s_iconst (dt_M_rankHere 34 _ _ _ rfl) rfl ?_
                exact s_iret (dt_M_rankHere 35 _ _ _ rfl) rfl rfl
            · refine s_iconst (dt_M_rankHere 34 _ _ _ rfl) rfl ?_
              exact s_iret (dt_M_rankHere 35 _ _ _ rfl) rfl rfl
          · refine s_iconst (dt_M_rankHere 24 _ _ _ rfl) rfl ?_
            exact s_iret (dt_M_rankHere 25 _ _ _ rfl) rfl rfl
        · refine s_iconst (dt_M_rankHere 24 _ _ _ rfl) rfl ?_
          exact s_iret (dt_M_rankHere 25 _ _ _ rfl) rfl rfl
      · refine s_iconst (dt_M_rankHere 24 _ _ _ rfl) rfl ?_
        exact s_iret (dt_M_rankHere 25 _ _ _ rfl) rfl rfl
    · refine s_iconst (dt_M_rankHere 10 _ _ _ rfl) rfl ?_
      exact s_iret (dt_M_rankHere 11 _ _ _ rfl) rfl rfl
  · refine s_iconst (dt_M_rankHere 4 _ _ _ rfl) rfl ?_
    exact s_iret (dt_M_rankHere 5 _ _ _ rfl) rfl rfl
theorem c_M_rankHere {S : KS} (hS : KExt 435 S)   (M : KM) : ∀ q, f_M_rankHere  M = some q → Ctr y_M_rankHere Y_M_rankHere [VR (some 382)] S M (some (VI q)) S (M) := fun q hq =>
  ctr_of md_M_rankHere (Nat.le_of_ble_eq_true rfl) ⟨Nat.le_refl _, Nat.le_refl _⟩ 0 hq rfl (fun _ G => sim_M_rankHere hS   M)
set_option maxRecDepth 100000 in
theorem sim_M_behindUnit {G : Gam} {S : KS} (hS : KExt 435 S)   (M : KM) : Sim G Y_M_behindUnit (f_M_behindUnit  M) (kC 0 [some (VR (some 382)), none] [] S M) (fun (q : Int × KM) => Sum.inr (some (VI q.1), S, q.2)) := by
  unfold f_M_behindUnit
  refine s_aload_n (dt_M_behindUnit 0 _ _ _ rfl) rfl ?_
  refine s_callO (y := y_M_rankHere) (Y' := Y_M_rankHere) (as := [VR (some 382)]) (r := fun q => some (VI q)) (M' := fun q => M) (kInvV (dt_M_behindUnit 1 _ _ _ rfl) kin_M_rankHere 1 rfl (sc_382 hS) kse_M_rankHere rfl) kl_M_363 md_M_rankHere rfl rfl (fun q hq => c_M_rankHere hS M q hq) (fun q1 => ?_)
  refine s_istore_n (dt_M_behindUnit 2 _ _ _ rfl) rfl ?_
  refine s_iload_n (dt_M_behindUnit 3 _ _ _ rfl) rfl ?_
  refine s_iconst (dt_M_behindUnit 4 _ _ _ rfl) rfl ?_
  refine s_if_icmp_ne (tgt := 23) (dt_M_behindUnit 5 _ _ _ rfl) rfl ?_ ?_
  · refine s_aload_n (dt_M_behindUnit 6 _ _ _ rfl) rfl ?_
    refine s_callO (y := y_M_isCompared) (Y' := Y_M_isCompared) (as := [VR (some 382)]) (r := fun q => some (VI q)) (M' := fun q => M) (kInvV (dt_M_behindUnit 7 _ _ _ rfl) kin_M_isCompared 1 rfl (sc_382 hS) kse_M_isCompared rfl) kl_M_366 md_M_isCompared rfl rfl (fun q hq => c_M_isCompared hS M q hq) (fun q2 => ?_)
    refine s_if_eq (tgt := 23) (dt_M_behindUnit 8 _ _ _ rfl) rfl ?_ ?_
    · refine s_bd (κ := (fun (e8 : KM) => kC 104 [some (VR (some 382)), some (VI q1)] [] S e8)) (s_mask [true, true] (s_while (c := fun s3 => kC 23 [some (VR (some 382)), some (VI q1)] [] S s3) (fun s3 => ?_) M)) ?_
      · refine s_aload_n (dt_M_behindUnit 13 _ _ _ rfl) rfl ?_
        refine s_getR (c := 1) (j := 34) (o := (some 408)) (dt_M_behindUnit 14 _ _ _ rfl) (kf_M_92) (sc_382 hS) rfl rfl ?_
        refine s_aload_n (dt_M_behindUnit 15 _ _ _ rfl) rfl ?_
        refine s_getI (c := 1) (j := 41) (dt_M_behindUnit 16 _ _ _ rfl) (kf_M_342) (sc_382 hS) rfl ?_
        refine s_iconst (dt_M_behindUnit 17 _ _ _ rfl) rfl ?_
        refine s_isub (dt_M_behindUnit 18 _ _ _ rfl) ?_
        refine s_iald (N := 90) (dt_M_behindUnit 19 _ _ _ rfl) (sc_408 hS) rfl ?_
        refine s_bipush (dt_M_behindUnit 20 _ _ _ rfl) rfl ?_
        refine s_if_icmp_gt (tgt := 104) (dt_M_behindUnit 21 _ _ _ rfl) rfl ?_ ?_
        · refine s_aload_n (dt_M_behindUnit 22 _ _ _ rfl) rfl ?_
          refine s_getR (c := 1) (j := 34) (o := (some 408)) (dt_M_behindUnit 23 _ _ _ rfl) (kf_M_92) (sc_382 hS) rfl rfl ?_
          refine s_aload_n (dt_M_behindUnit 24 _ _ _ rfl) rfl ?_
          refine s_getI (c := 1) (j := 41) (dt_M_behindUnit 25 _ _ _ rfl) (kf_M_342) (sc_382 hS) rfl ?_
          refine s_iconst (dt_M_behindUnit 26 _ _ _ rfl) rfl ?_
          refine s_isub (dt_M_behindUnit 27 _ _ _ rfl) ?_
          refine s_iald (N := 90) (dt_M_behindUnit 28 _ _ _ rfl) (sc_408 hS) rfl ?_
          refine s_iload_n (dt_M_behindUnit 29 _ _ _ rfl) rfl ?_
          refine s_if_icmp_lt (tgt := 104) (dt_M_behindUnit 30 _ _ _ rfl) rfl ?_ ?_
          · exact s_mask [true, true] (s_ret0 rfl)
          · refine s_aload_n (dt_M_behindUnit 31 _ _ _ rfl) rfl ?_
            refine s_dup (dt_M_behindUnit 32 _ _ _ rfl) rfl ?_
            refine s_getI (c := 1) (j := 41) (dt_M_behindUnit 33 _ _ _ rfl) (kf_M_342) (sc_382 hS) rfl ?_
            refine s_iconst (dt_M_behindUnit 34 _ _ _ rfl) rfl ?_
            refine s_isub (dt_M_behindUnit 35 _ _ _ rfl) ?_
            refine s_putI (c := 1) (j := 41) (dt_M_behindUnit 36 _ _ _ rfl) kp_M_342 (sc_382 hS) ⟨rfl, rfl⟩ ?_
            refine s_letM (fun M4 => ?_)
            refine s_aload_n (dt_M_behindUnit 37 _ _ _ rfl) rfl ?_
            refine s_getR (c := 1) (j := 34) (o := (some 408)) (dt_M_behindUnit 38 _ _ _ rfl) (kf_M_92) (sc_382 hS) rfl rfl ?_
            refine s_aload_n (dt_M_behindUnit 39 _ _ _ rfl) rfl ?_
            refine s_getI (c := 1) (j := 41) (dt_M_behindUnit 40 _ _ _ rfl) (kf_M_342) (sc_382 hS) rfl ?_
            refine s_iald (N := 90) (dt_M_behindUnit 41 _ _ _ rfl) (sc_408 hS) rfl ?_
            refine s_iconst (dt_M_behindUnit 42 _ _ _ rfl) rfl ?_
            refine s_bd (κ := fun t6 => kC 87 [some (VR (some 382)), some (VI q1)] [] S t6) ?_ (fun t6 => ?_)
            · refine s_if_icmp_ne (tgt := 87) (dt_M_behindUnit 43 _ _ _ rfl) rfl ?_ ?_
              · refine s_aload_n (dt_M_behindUnit 44 _ _ _ rfl) rfl ?_
                refine s_dup (dt_M_behindUnit 45 _ _ _ rfl) rfl ?_
                refine s_getI (c := 1) (j := 40) (dt_M_behindUnit 46 _ _ _ rfl) (kf_M_345) (sc_382 hS) rfl ?_
                refine s_iconst (dt_M_behindUnit 47 _ _ _ rfl) rfl ?_
                refine s_isub (dt_M_behindUnit 48 _ _ _ rfl) ?_
                refine s_putI (c := 1) (j := 40) (dt_M_behindUnit 49 _ _ _ rfl) kp_M_345 (sc_382 hS) ⟨rfl, rfl⟩ ?_
                refine s_letM (fun M5 => ?_)
                exact s_mask [true, true] (s_ret0 rfl)
              · exact s_mask [true, true] (s_ret0 rfl)
            refine s_aload_n (dt_M_behindUnit 50 _ _ _ rfl) rfl ?_
            refine s_aload_n (dt_M_behindUnit 51 _ _ _ rfl) rfl ?_
            refine s_getR (c := 1) (j := 35) (o := (some 409)) (dt_M_behindUnit 52 _ _ _ rfl) (kf_M_95) (sc_382 hS) rfl rfl ?_
            refine s_aload_n (dt_M_behindUnit 53 _ _ _ rfl) rfl ?_
            refine s_getI (c := 1) (j := 41) (dt_M_behindUnit 54 _ _ _ rfl) (kf_M_342) (sc_382 hS) rfl ?_
            refine s_iald (N := 90) (dt_M_behindUnit 55 _ _ _ rfl) (sc_409 hS) rfl ?_
            refine s_iconst (dt_M_behindUnit 56 _ _ _ rfl) rfl ?_
            refine s_callO (y := y_M_emit) (Y' := Y_M_emit) (as := [VR (some 382), VI (t6 409 (t6 382 41).toNat), VI (0 : Int)]) (r := fun q => none) (M' := fun q => q) (kInvV (dt_M_behindUnit 57 _ _ _ rfl) kin_M_emit 1 rfl (sc_382 hS) kse_M_emit rfl) kl_M_360 md_M_emit rfl rfl (fun q hq => c_M_emit hS (t6 409 (t6 382 41).toNat) (0 : Int) t6 q hq) (fun q7 => ?_)
            refine s_goto (tgt := 23) (dt_M_behindUnit 58 _ _ _ rfl) rfl ?_
            exact s_mask [true, true] (s_ret0 rfl)
        · exact s_mask [true, true] (s_ret0 rfl)
      intro e8
      refine s_iload_n (dt_M_behindUnit 59 _ _ _ rfl) rfl ?_
      refine s_if_le (tgt := 147) (dt_M_behindUnit 60 _ _ _ rfl) rfl ?_ ?_
      · refine s_aload_n (dt_M_behindUnit 82 _ _ _ rfl) rfl ?_
        refine s_dup (dt_M_behindUnit 83 _ _ _ rfl) rfl ?_
        refine s_getI (c := 1) (j := 41) (dt_M_behindUnit 84 _ _ _ rfl) (kf_M_342) (sc_382 hS) rfl ?_
        refine s_iconst (dt_M_behindUnit 85 _ _ _ rfl) rfl ?_
        refine s_isub (dt_M_behindUnit 86 _ _ _ rfl) ?_
        refine s_putI (c := 1) (j := 41) (dt_M_behindUnit 87 _ _ _ rfl) kp_M_342 (sc_382 hS) ⟨rfl, rfl⟩ ?_
        refine s_letM (fun M9 => ?_)
        refine s_aload_n (dt_M_behindUnit 88 _ _ _ rfl) rfl ?_
        refine s_getR (c := 1) (j := 34) (o := (some 408)) (dt_M_behindUnit 89 _ _ _ rfl) (kf_M_92) (sc_382 hS) rfl rfl ?_
        refine s_aload_n (dt_M_behindUnit 90 _ _ _ rfl) rfl ?_
        refine s_getI (c := 1) (j := 41) (dt_M_behindUnit 91 _ _ _ rfl) (kf_M_342) (sc_382 hS) rfl ?_
        refine s_iald (N := 90) (dt_M_behindUnit 92 _ _ _ rfl) (sc_408 hS) rfl ?_
        refine s_bipush (dt_M_behindUnit 93 _ _ _ rfl) rfl ?_
        refine s_bd (κ := fun t13 => kC 191 [none, none] [] S t13) ?_ (fun t13 => ?_)
        · refine s_if_icmp_ne (tgt := 191) (dt_M_behindUnit 94 _ _ _ rfl) rfl ?_ ?_
          · refine s_aload_n (dt_M_behindUnit 95 _ _ _ rfl) rfl ?_
            refine s_dup (dt_M_behindUnit 96 _ _ _ rfl) rfl ?_
            refine s_getI (c := 1) (j := 40) (dt_M_behindUnit 97 _ _ _ rfl) (kf_M_345) (sc_382 hS) rfl ?_
            refine s_iconst (dt_M_behindUnit 98 _ _ _ rfl) rfl ?_
            refine s_isub (dt_M_behindUnit 99 _ _ _ rfl) ?_
            refine s_putI (c := 1) (j := 40) (dt_M_behindUnit 100 _ _ _ rfl) kp_M_345 (sc_382 hS) ⟨rfl, rfl⟩ ?_
            refine s_letM (fun M10 => ?_)
            refine s_aload_n (dt_M_behindUnit 101 _ _ _ rfl) rfl ?_
            refine s_aload_n (dt_M_behindUnit 102 _ _ _ rfl) rfl ?_
            refine s_bipush (dt_M_behindUnit 103 _ _ _ rfl) rfl ?_
            refine s_callO (y := y_M_isSignHere) (Y' := Y_M_isSignHere) (as := [VR (some 382), VI (41 : Int)]) (r := fun q => some (VI q)) (M' := fun q => M10) (kInvV (dt_M_behindUnit 104 _ _ _ rfl) kin_M_isSignHere 1 rfl (sc_382 hS) kse_M_isSignHere rfl) kl_M_314 md_M_isSignHere rfl rfl (fun q hq => c_M_isSignHere hS (41 : Int) M10 q hq) (fun q11 => ?_)
            refine s_callO (y := y_M_must) (Y' := Y_M_must) (as := [VR (some 382), VI q11]) (r := fun q => none) (M' := fun q => q) (kInvV (dt_M_behindUnit 105 _ _ _ rfl) kin_M_must 1 rfl (sc_382 hS) kse_M_must rfl) kl_M_271 md_M_must rfl rfl (fun q hq => c_M_must hS q11 M10 q hq) (fun q12 => ?_)
            exact s_mask [false, false] (s_ret0 rfl)
          · exact s_mask [false, false] (s_ret0 rfl)
        refine s_iconst (dt_M_behindUnit 106 _ _ _ rfl) rfl ?_
        exact s_zret01 (dt_M_behindUnit 107 _ _ _ rfl) rfl rfl rfl
      · refine s_aload_n (dt_M_behindUnit 61 _ _ _ rfl) rfl ?_
        refine s_iload_n (dt_M_behindUnit 62 _ _ _ rfl) rfl ?_
        refine s_iload_n (dt_M_behindUnit 63 _ _ _ rfl) rfl ?_
        refine s_iconst (dt_M_behindUnit 64 _ _ _ rfl) rfl ?_
        refine s_bd (κ := fun t15 => kC 138 [some (VR (some 382)), none] [VI t15, VI q1, VR (some 382)] S e8) ?_ (fun t15 => ?_)
        · refine s_if_icmp_ne (tgt := 120) (dt_M_behindUnit 65 _ _ _ rfl) rfl ?_ ?_
          · refine s_bipush (dt_M_behindUnit 66 _ _ _ rfl) rfl ?_
            refine s_goto (tgt := 138) (dt_M_behindUnit 67 _ _ _ rfl) rfl ?_
            exact s_mask [true, false] (s_ret0 rfl)
          · refine s_iload_n (dt_M_behindUnit 68 _ _ _ rfl) rfl ?_
            refine s_iconst (dt_M_behindUnit 69 _ _ _ rfl) rfl ?_
            refine s_if_icmp_ne (tgt := 130) (dt_M_behindUnit 70 _ _ _ rfl) rfl ?_ ?_
            · refine s_bipush (dt_M_behindUnit 71 _ _ _ rfl) rfl ?_
              refine s_goto (tgt := 138) (dt_M_behindUnit 72 _ _ _ rfl) rfl ?_
              exact s_mask [true, false] (s_ret0 rfl)
            · refine s_aload_n (dt_M_behindUnit 73 _ _ _ rfl) rfl ?_
              refine s_aload_n (dt_M_behindUnit 74 _ _ _ rfl) rfl ?_
              refine s_getI (c := 1) (j := 6) (dt_M_behindUnit 75 _ _ _ rfl) (kf_M_223) (sc_382 hS) rfl ?_
              refine s_callO (y := y_M_sign) (Y' := Y_M_sign) (as := [VR (some 382), VI (e8 382 6)]) (r := fun q => some (VI q)) (M' := fun q => e8) (kInvV (dt_M_behindUnit 76 _ _ _ rfl) kin_M_sign 1 rfl (sc_382 hS) kse_M_sign rfl) kl_M_226 md_M_sign rfl rfl (fun q hq => c_M_sign hS (e8 382 6) e8 q hq) (fun q14 => ?_)
              exact s_mask [true, false] (s_ret0 rfl)
        refine s_callO (y := y_M_pushE) (Y' := Y_M_pushE) (as := [VR (some 382), VI q1, VI t15]) (r := fun q => none) (M' := fun q => q) (kInvV (dt_M_behindUnit 77 _ _ _ rfl) kin_M_pushE 1 rfl (sc_382 hS) kse_M_pushE rfl) kl_M_348 md_M_pushE rfl rfl (fun q hq => c_M_pushE hS q1 t15 e8 q hq) (fun q16 => ?_)
        refine s_aload_n (dt_M_behindUnit 78 _ _ _ rfl) rfl ?_
        refine s_callO (y := y_M_goOn) (Y' := Y_M_goOn) (as := [VR (some 382)]) (r := fun q => none) (M' := fun q => q) (kInvV (dt_M_behindUnit 79 _ _ _ rfl) kin_M_goOn 1 rfl (sc_382 hS) kse_M_goOn rfl) kl_M_262 md_M_goOn rfl rfl (fun q hq => c_M_goOn hS q16 q hq) (fun q17 => ?_)
        refine s_iconst (dt_M_behindUnit 80 _ _ _ rfl) rfl ?_
        exact s_zret01 (dt_M_behindUnit 81 _ _ _ rfl) rfl rfl rfl
    · refine s_aload_n (dt_M_behindUnit 9 _ _ _ rfl) rfl ?_
      refine s_callO (y := y_M_misplaced) (Y' := Y_M_misplaced) (as := [VR (some 382)]) (r := fun q => none) (M' := fun q => q) (kInvV (dt_M_behindUnit 10 _ _ _ rfl) kin_M_misplaced 1 rfl (sc_382 hS) kse_M_misplaced rfl) kl_M_265 md_M_misplaced rfl rfl (fun q hq => c_M_misplaced hS M q hq) (fun q18 => ?_)
      refine s_iconst (dt_M_behindUnit 11 _ _ _ rfl) rfl ?_
      exact s_zret01 (dt_M_behindUnit 12 _ _ _ rfl) rfl rfl rfl
  · refine s_bd (κ := (fun (e24 : KM) => kC 104 [some (VR (some 382)), some (VI q1)] [] S e24)) (s_mask [true, true] (s_while (c := fun s19 => kC 23 [some (VR (some 382)), some (VI q1)] [] S s19) (fun s19 => ?_) M)) ?_
    · refine s_aload_n (dt_M_behindUnit 13 _ _ _ rfl) rfl ?_
      refine s_getR (c := 1) (j := 34) (o := (some 408)) (dt_M_behindUnit 14 _ _ _ rfl) (kf_M_92) (sc_382 hS) rfl rfl ?_
      refine s_aload_n (dt_M_behindUnit 15 _ _ _ rfl) rfl ?_
      refine s_getI (c := 1) (j := 41) (dt_M_behindUnit 16 _ _ _ rfl) (kf_M_342) (sc_382 hS) rfl ?_
      refine s_iconst (dt_M_behindUnit 17 _ _ _ rfl) rfl ?_
      refine s_isub (dt_M_behindUnit 18 _ _ _ rfl) ?_
      refine s_iald (N := 90) (dt_M_behindUnit 19 _ _ _ rfl) (sc_408 hS) rfl ?_
      refine s_bipush (dt_M_behindUnit 20 _ _ _ rfl) rfl ?_
      refine s_if_icmp_gt (tgt := 104) (dt_M_behindUnit 21 _ _ _ rfl) rfl ?_ ?_
      · refine s_aload_n (dt_M_behindUnit 22 _ _ _ rfl) rfl ?_
        refine s_getR (c := 1) (j := 34) (o := (some 408)) (dt_M_behindUnit 23 _ _ _ rfl) (kf_M_92) (sc_382 hS) rfl rfl ?_
        refine s_aload_n (dt_M_behindUnit 24 _ _ _ rfl) rfl ?_
        refine s_getI (c := 1) (j := 41) (dt_M_behindUnit 25 _ _ _ rfl) (kf_M_342) (sc_382 hS) rfl ?_
        refine s_iconst (dt_M_behindUnit 26 _ _ _ rfl) rfl ?_
        refine s_isub (dt_M_behindUnit 27 _ _ _ rfl) ?_
        refine s_iald (N := 90) (dt_M_behindUnit 28 _ _ _ rfl) (sc_408 hS) rfl ?_
        refine s_iload_n (dt_M_behindUnit 29 _ _ _ rfl) rfl ?_
        refine s_if_icmp_lt (tgt := 104) (dt_M_behindUnit 30 _ _ _ rfl) rfl ?_ ?_
        · exact s_mask [true, true] (s_ret0 rfl)
        · refine s_aload_n (dt_M_behindUnit 31 _ _ _ rfl) rfl ?_
          refine s_dup (dt_M_behindUnit 32 _ _ _ rfl) rfl ?_
          refine s_getI (c := 1) (j := 41) (dt_M_behindUnit 33 _ _ _ rfl) (kf_M_342) (sc_382 hS) rfl ?_
          refine s_iconst (dt_M_behindUnit 34 _ _ _ rfl) rfl ?_
          refine s_isub (dt_M_behindUnit 35 _ _ _ rfl) ?_
          refine s_putI (c := 1) (j := 41) (dt_M_behindUnit 36 _ _ _ rfl) kp_M_342 (sc_382 hS) ⟨rfl, rfl⟩ ?_
          refine s_letM (fun M20 => ?_)
          refine s_aload_n (dt_M_behindUnit 37 _ _ _ rfl) rfl ?_
          refine s_getR (c := 1) (j := 34) (o := (some 408)) (dt_M_behindUnit 38 _ _ _ rfl) (kf_M_92) (sc_382 hS) rfl rfl ?_
          refine s_aload_n (dt_M_behindUnit 39 _ _ _ rfl) rfl ?_
          refine s_getI (c := 1) (j := 41) (dt_M_behindUnit 40 _ _ _ rfl) (kf_M_342) (sc_382 hS) rfl ?_
          refine s_iald (N := 90) (dt_M_behindUnit 41 _ _ _ rfl) (sc_408 hS) rfl ?_
          refine s_iconst (dt_M_behindUnit 42 _ _ _ rfl) rfl ?_
          refine s_bd (κ := fun t22 => kC 87 [some (VR (some 382)), some (VI q1)] [] S t22) ?_ (fun t22 => ?_)
          · refine s_if_icmp_ne (tgt := 87) (dt_M_behindUnit 43 _ _ _ rfl) rfl ?_ ?_
            · refine s_aload_n (dt_M_behindUnit 44 _ _ _ rfl) rfl ?_
              refine s_dup (dt_M_behindUnit 45 _ _ _ rfl) rfl ?_
              refine s_getI (c := 1) (j := 40) (dt_M_behindUnit 46 _ _ _ rfl) (kf_M_345) (sc_382 hS) rfl ?_
              refine s_iconst (dt_M_behindUnit 47 _ _ _ rfl) rfl ?_
              refine s_isub (dt_M_behindUnit 48 _ _ _ rfl) ?_
              refine s_putI (c := 1) (j := 40) (dt_M_behindUnit 49 _ _ _ rfl) kp_M_345 (sc_382 hS) ⟨rfl, rfl⟩ ?_
              refine s_letM (fun M21 => ?_)
              exact s_mask [true, true] (s_ret0 rfl)
            · exact s_mask [true, true] (s_ret0 rfl)
          refine s_aload_n (dt_M_behindUnit 50 _ _ _ rfl) rfl ?_
          refine s_aload_n (dt_M_behindUnit 51 _ _ _ rfl) rfl ?_
          refine s_getR (c := 1) (j := 35) (o := (some 409)) (dt_M_behindUnit 52 _ _ _ rfl) (kf_M_95) (sc_382 hS) rfl rfl ?_
          refine s_aload_n (dt_M_behindUnit 53 _ _ _ rfl) rfl ?_
          refine s_getI (c := 1) (j := 41) (dt_M_behindUnit 54 _ _ _ rfl) (kf_M_342) (sc_382 hS) rfl ?_
          refine s_iald (N := 90) (dt_M_behindUnit 55 _ _ _ rfl) (sc_409 hS) rfl ?_
          refine s_iconst (dt_M_behindUnit 56 _ _ _ rfl) rfl ?_
          refine s_callO (y := y_M_emit) (Y' := Y_M_emit) (as := [VR (some 382), VI (t22 409 (t22 382 41).toNat), VI (0 : Int)]) (r := fun q => none) (M' := fun q => q) (kInvV (dt_M_behindUnit 57 _ _ _ rfl) kin_M_emit 1 rfl (sc_382 hS) kse_M_emit rfl) kl_M_360 md_M_emit rfl rfl (fun q hq => c_M_emit hS (t22 409 (t22 382 41).toNat) (0 : Int) t22 q hq) (fun q23 => ?_)
          refine s_goto (tgt := 23) (dt_M_behindUnit 58 _ _ _ rfl) rfl ?_
          exact s_mask [true, true] (s_ret0 rfl)
      · exact s_mask [true, true] (s_ret0 rfl)
    intro e24
    refine s_iload_n (dt_M_behindUnit 59 _ _ _ rfl) rfl ?_
    refine s_if_le (tgt := 147) (dt_M_behindUnit 60 _ _ _ rfl) rfl ?_ ?_
    · refine s_aload_n (dt_M_behindUnit 82 _ _ _ rfl) rfl ?_
      refine s_dup (dt_M_behindUnit 83 _ _ _ rfl) rfl ?_
      refine s_getI (c := 1) (j := 41) (dt_M_behindUnit 84 _ _ _ rfl) (kf_M_342) (sc_382 hS) rfl ?_
      refine s_iconst (dt_M_behindUnit 85 _ _ _ rfl) rfl ?_
      refine s_isub (dt_M_behindUnit 86 _ _ _ rfl) ?_
      refine s_putI (c := 1) (j := 41) (dt_M_behindUnit 87 _ _ _ rfl) kp_M_342 (sc_382 hS) ⟨rfl, rfl⟩ ?_
      refine s_letM (fun M25 => ?_)
      refine s_aload_n (dt_M_behindUnit 88 _ _ _ rfl) rfl ?_
      refine s_getR (c := 1) (j := 34) (o := (some 408)) (dt_M_behindUnit 89 _ _ _ rfl) (kf_M_92) (sc_382 hS) rfl rfl ?_
      refine s_aload_n (dt_M_behindUnit 90 _ _ _ rfl) rfl ?_
      refine s_getI (c := 1) (j := 41) (dt_M_behindUnit 91 _ _ _ rfl) (kf_M_342) (sc_382 hS) rfl ?_
      refine s_iald (N := 90) (dt_M_behindUnit 92 _ _ _ rfl) (sc_408 hS) rfl ?_
      refine s_bipush (dt_M_behindUnit 93 _ _ _ rfl) rfl ?_
      refine s_bd (κ := fun t29 => kC 191 [none, none] [] S t29) ?_ (fun t29 => ?_)
      · refine s_if_icmp_ne (tgt := 191) (dt_M_behindUnit 94 _ _ _ rfl) rfl ?_ ?_
        · refine s_aload_n (dt_M_behindUnit 95 _ _ _ rfl) rfl ?_
          refine s_dup (dt_M_behindUnit 96 _ _ _ rfl) rfl ?_
          refine s_getI (c := 1) (j := 40) (dt_M_behindUnit 97 _ _ _ rfl) (kf_M_345) (sc_382 hS) rfl ?_
          refine s_iconst (dt_M_behindUnit 98 _ _ _ rfl) rfl ?_
          refine s_isub (dt_M_behindUnit 99 _ _ _ rfl) ?_
          refine s_putI (c := 1) (j := 40) (dt_M_behindUnit 100 _ _ _ rfl) kp_M_345 (sc_382 hS) ⟨rfl, rfl⟩ ?_
          refine s_letM (fun M26 => ?_)
          refine s_aload_n (dt_M_behindUnit 101 _ _ _ rfl) rfl ?_
          refine s_aload_n (dt_M_behindUnit 102 _ _ _ rfl) rfl ?_
          refine s_bipush (dt_M_behindUnit 103 _ _ _ rfl) rfl ?_
          refine s_callO (y := y_M_isSignHere) (Y' := Y_M_isSignHere) (as := [VR (some 382), VI (41 : Int)]) (r := fun q => some (VI q)) (M' := fun q => M26) (kInvV (dt_M_behindUnit 104 _ _ _ rfl) kin_M_isSignHere 1 rfl (sc_382 hS) kse_M_isSignHere rfl) kl_M_314 md_M_isSignHere rfl rfl (fun q hq => c_M_isSignHere hS (41 : Int) M26 q hq) (fun q27 => ?_)
          refine s_callO (y := y_M_must) (Y' := Y_M_must) (as := [VR (some 382), VI q27]) (r := fun q => none) (M' := fun q => q) (kInvV (dt_M_behindUnit 105 _ _ _ rfl) kin_M_must 1 rfl (sc_382 hS) kse_M_must rfl) kl_M_271 md_M_must rfl rfl (fun q hq => c_M_must hS q27 M26 q hq) (fun q28 => ?_)
          exact s_mask [false, false] (s_ret0 rfl)
        · exact s_mask [false, false] (s_ret0 rfl)
      refine s_iconst (dt_M_behindUnit 106 _ _ _ rfl) rfl ?_
      exact s_zret01 (dt_M_behindUnit 107 _ _ _ rfl) rfl rfl rfl
    · refine s_aload_n (dt_M_behindUnit 61 _ _ _ rfl) rfl ?_
      refine s_iload_n (dt_M_behindUnit 62 _ _ _ rfl) rfl ?_
      refine s_iload_n (dt_M_behindUnit 63 _ _ _ rfl) rfl ?_
      refine s_iconst (dt_M_behindUnit 64 _ _ _ rfl) rfl ?_
      refine s_bd (κ := fun t31 => kC 138 [some (VR (some 382)), none] [VI t31, VI q1, VR (some 382)] S e24) ?_ (fun t31 => ?_)
      · refine s_if_icmp_ne (tgt := 120) (dt_M_behindUnit 65 _ _ _ rfl) rfl ?_ ?_
        · refine s_bipush (dt_M_behindUnit 66 _ _ _ rfl) rfl ?_
          refine s_goto (tgt := 138) (dt_M_behindUnit 67 _ _ _ rfl) rfl ?_
          exact s_mask [true, false] (s_ret0 rfl)
        · refine s_iload_n (dt_M_behindUnit 68 _ _ _ rfl) rfl ?_
          refine s_iconst (dt_M_behindUnit 69 _ _ _ rfl) rfl ?_
          refine s_if_icmp_ne (tgt := 130) (dt_M_behindUnit 70 _ _ _ rfl) rfl ?_ ?_
          · refine s_bipush (dt_M_behindUnit 71 _ _ _ rfl) rfl ?_
            refine s_goto (tgt := 138) (dt_M_behindUnit 72 _ _ _ rfl) rfl ?_
            exact s_mask [true, false] (s_ret0 rfl)
          · refine s_aload_n (dt_M_behindUnit 73 _ _ _ rfl) rfl ?_
            refine s_aload_n (dt_M_behindUnit 74 _ _ _ rfl) rfl ?_
            refine s_getI (c := 1) (j := 6) (dt_M_behindUnit 75 _ _ _ rfl) (kf_M_223) (sc_382 hS) rfl ?_
            refine s_callO (y := y_M_sign) (Y' := Y_M_sign) (as := [VR (some 382), VI (e24 382 6)]) (r := fun q => some (VI q)) (M' := fun q => e24) (kInvV (dt_M_behindUnit 76 _ _ _ rfl) kin_M_sign 1 rfl (sc_382 hS) kse_M_sign rfl) kl_M_226 md_M_sign rfl rfl (fun q hq => c_M_sign hS (e24 382 6) e24 q hq) (fun q30 => ?_)
            exact s_mask [true, false] (s_ret0 rfl)
      refine s_callO (y := y_M_pushE) (Y' := Y_M_pushE) (as := [VR (some 382), VI q1, VI t31]) (r := fun q => none) (M' := fun q => q) (kInvV (dt_M_behindUnit 77 _ _ _ rfl) kin_M_pushE 1 rfl (sc_382 hS) kse_M_pushE rfl) kl_M_348 md_M_pushE rfl rfl (fun q hq => c_M_pushE hS q1 t31 e24 q hq) (fun q32 => ?_)
      refine s_aload_n (dt_M_behindUnit 78 _ _ _ rfl) rfl ?_
      refine s_callO (y := y_M_goOn) (Y' := Y_M_goOn) (as := [VR (some 382)]) (r := fun q => none) (M' := fun q => q) (kInvV (dt_M_behindUnit 79 _ _ _ rfl) kin_M_goOn 1 rfl (sc_382 hS) kse_M_goOn rfl) kl_M_262 md_M_goOn rfl rfl (fun q hq => c_M_goOn hS q32 q hq) (fun q33 => ?_)
      refine s_iconst (dt_M_behindUnit 80 _ _ _ rfl) rfl ?_
      exact s_zret01 (dt_M_behindUnit 81 _ _ _ rfl) rfl rfl rfl
theorem c_M_behindUnit {S : KS} (hS : KExt 435 S)   (M : KM) : ∀ q, f_M_behindUnit  M = some q → Ctr y_M_behindUnit Y_M_behindUnit [VR (some 382)] S M (some (VI q.1)) S (q.2) := fun q hq =>
  ctr_of md_M_behindUnit (Nat.le_of_ble_eq_true rfl) ⟨Nat.le_refl _, Nat.le_refl _⟩ 1 hq rfl (fun _ G => sim_M_behindUnit hS   M)
set_option maxRecDepth 100000 in
theorem sim_M_wordHere {G : Gam} {S : KS} (hS : KExt 435 S)   (M : KM) : Sim G Y_M_wordHere (f_M_wordHere  M) (kC 0 [some (VR (some 382))] [] S M) (fun (q : Int) => Sum.inr (some (VI q), S, M)) := by
  unfold f_M_wordHere
  refine s_aload_n (dt_M_wordHere 0 _ _ _ rfl) rfl ?_
  refine s_ldc2 (n := (6383461 : Int)) (kc_M_190) (dt_M_wordHere 1 _ _ _ rfl) rfl ?_
  refine s_callO (y := y_M_isWord) (Y' := Y_M_isWord) (as := [VR (some 382), VJ (6383461 : Int)]) (r := fun q => some (VI q)) (M' := fun q => M) (kInvV (dt_M_wordHere 2 _ _ _ rfl) kin_M_isWord 1 rfl (sc_382 hS) kse_M_isWord rfl) kl_M_268 md_M_isWord rfl rfl (fun q hq => c_M_isWord hS (6383461 : Int) M q hq) (fun q1 => ?_)
  refine s_if_eq (tgt := 13) (dt_M_wordHere 3 _ _ _ rfl) rfl ?_ ?_
  · refine s_aload_n (dt_M_wordHere 6 _ _ _ rfl) rfl ?_
    refine s_ldc2 (n := (1668245870 : Int)) (kc_M_192) (dt_M_wordHere 7 _ _ _ rfl) rfl ?_
    refine s_callO (y := y_M_isWord) (Y' := Y_M_isWord) (as := [VR (some 382), VJ (1668245870 : Int)]) (r := fun q => some (VI q)) (M' := fun q => M) (kInvV (dt_M_wordHere 8 _ _ _ rfl) kin_M_isWord 1 rfl (sc_382 hS) kse_M_isWord rfl) kl_M_268 md_M_isWord rfl rfl (fun q hq => c_M_isWord hS (1668245870 : Int) M q hq) (fun q2 => ?_)
    refine s_if_eq (tgt := 26) (dt_M_wordHere 9 _ _ _ rfl) rfl ?_ ?_
    · refine s_aload_n (dt_M_wordHere 12 _ _ _ rfl) rfl ?_
      refine s_ldc2 (n := (2036687218 : Int)) (kc_M_212) (dt_M_wordHere 13 _ _ _ rfl) rfl ?_
      refine s_callO (y := y_M_isWord) (Y' := Y_M_isWord) (as := [VR (some 382), VJ (2036687218 : Int)]) (r := fun q => some (VI q)) (M' := fun q => M) (kInvV (dt_M_wordHere 14 _ _ _ rfl) kin_M_isWord 1 rfl (sc_382 hS) kse_M_isWord rfl) kl_M_268 md_M_isWord rfl rfl (fun q hq => c_M_isWord hS (2036687218 : Int) M q hq) (fun q3 => ?_)
      refine s_if_eq (tgt := 39) (dt_M_wordHere 15 _ _ _ rfl) rfl ?_ ?_
      · refine s_aload_n (dt_M_wordHere 18 _ _ _ rfl) rfl ?_
        refine s_ldc2 (n := (112568633486457 : Int)) (kc_M_196) (dt_M_wordHere 19 _ _ _ rfl) rfl ?_
        refine s_callO (y := y_M_isWord) (Y' := Y_M_isWord) (as := [VR (some 382), VJ (112568633486457 : Int)]) (r := fun q => some (VI q)) (M' := fun q => M) (kInvV (dt_M_wordHere 20 _ _ _ rfl) kin_M_isWord 1 rfl (sc_382 hS) kse_M_isWord rfl) kl_M_268 md_M_isWord rfl rfl (fun q hq => c_M_isWord hS (112568633486457 : Int) M q hq) (fun q4 => ?_)
        refine s_bd (κ := fun t5 => kC 55 [none] [VI t5] S M) ?_ (fun t5 => ?_)
        · refine s_if_eq (tgt := 54) (dt_M_wordHere 21 _ _ _ rfl) rfl ?_ ?_
          · refine s_iconst (dt_M_wordHere 24 _ _ _ rfl) rfl ?_
            exact s_mask [false] (s_ret0 rfl)
          · refine s_bipush (dt_M_wordHere 22 _ _ _ rfl) rfl ?_
            refine s_goto (tgt := 55) (dt_M_wordHere 23 _ _ _ rfl) rfl ?_
            exact s_mask [false] (s_ret0 rfl)
        exact s_iret (dt_M_wordHere 25 _ _ _ rfl) rfl rfl
      · refine s_bipush (dt_M_wordHere 16 _ _ _ rfl) rfl ?_
        exact s_iret (dt_M_wordHere 17 _ _ _ rfl) rfl rfl
    · refine s_bipush (dt_M_wordHere 10 _ _ _ rfl) rfl ?_
      exact s_iret (dt_M_wordHere 11 _ _ _ rfl) rfl rfl
  · refine s_bipush (dt_M_wordHere 4 _ _ _ rfl) rfl ?_
    exact s_iret (dt_M_wordHere 5 _ _ _ rfl) rfl rfl
theorem c_M_wordHere {S : KS} (hS : KExt 435 S)   (M : KM) : ∀ q, f_M_wordHere  M = some q → Ctr y_M_wordHere Y_M_wordHere [VR (some 382)] S M (some (VI q)) S (M) := fun q hq =>
  ctr_of md_M_wordHere (Nat.le_of_ble_eq_true rfl) ⟨Nat.le_refl _, Nat.le_refl _⟩ 0 hq rfl (fun _ G => sim_M_wordHere hS   M)
