set_option maxRecDepth 100000 in
theorem sim_M_back {G : Gam} {S : KS} (hS : KExt 435 S)  (a0 : Int) (M : KM) : Sim G Y_M_back (f_M_back a0 M) (kC 0 [some (VR (some 382)), some (VI a0), none] [] S M) (fun (q : Int × KM) => Sum.inr (some (VI q.1), S, q.2)) := by
  unfold f_M_back
  refine s_iload_n (dt_M_back 0 _ _ _ rfl) rfl ?_
  refine s_iconst (dt_M_back 1 _ _ _ rfl) rfl ?_
  refine s_iconst (dt_M_back 2 _ _ _ rfl) rfl ?_
  refine s_callO (y := y_M_isIn) (Y' := Y_M_isIn) (as := [VI a0, VI (0 : Int), VI (2 : Int)]) (r := fun q => some (VI q)) (M' := fun q => M) (kInvS (dt_M_back 3 _ _ _ rfl) kst_M_isIn rfl) kl_M_388 md_M_isIn rfl rfl (fun q hq => c_M_isIn hS a0 (0 : Int) (2 : Int) M q hq) (fun q1 => ?_)
  refine s_if_eq (tgt := 18) (dt_M_back 4 _ _ _ rfl) rfl ?_ ?_
  · refine s_iconst (dt_M_back 10 _ _ _ rfl) rfl ?_
    exact s_iret (dt_M_back 11 _ _ _ rfl) rfl rfl
  · refine s_aload_n (dt_M_back 5 _ _ _ rfl) rfl ?_
    refine s_getR (c := 1) (j := 77) (o := (some 434)) (dt_M_back 6 _ _ _ rfl) (kf_M_173) (sc_382 hS) rfl rfl ?_
    refine s_iload_n (dt_M_back 7 _ _ _ rfl) rfl ?_
    refine s_zald (N := 3) (dt_M_back 8 _ _ _ rfl) (sc_434 hS) rfl ?_
    refine s_if_ne (tgt := 20) (dt_M_back 9 _ _ _ rfl) rfl ?_ ?_
    · refine s_iconst (dt_M_back 10 _ _ _ rfl) rfl ?_
      exact s_iret (dt_M_back 11 _ _ _ rfl) rfl rfl
    · refine s_iconst (dt_M_back 12 _ _ _ rfl) rfl ?_
      refine s_istore_n (dt_M_back 13 _ _ _ rfl) rfl ?_
      refine s_bd (κ := (fun (e4 : KM) => kC 53 [some (VR (some 382)), none, none] [] S e4)) (s_mask [true, true, true] (s_while (c := fun s2 => kC 22 [some (VR (some 382)), some (VI a0), some (VI s2.1)] [] S s2.2) (fun s2 => ?_) ((0 : Int), M))) ?_
      · refine s_iload_n (dt_M_back 14 _ _ _ rfl) rfl ?_
        refine s_sipush (dt_M_back 15 _ _ _ rfl) rfl ?_
        refine s_if_icmp_ge (tgt := 53) (dt_M_back 16 _ _ _ rfl) rfl ?_ ?_
        · refine s_aload_n (dt_M_back 17 _ _ _ rfl) rfl ?_
          refine s_getR (c := 1) (j := 46) (o := (some 411)) (dt_M_back 18 _ _ _ rfl) (kf_M_101) (sc_382 hS) rfl rfl ?_
          refine s_iload_n (dt_M_back 19 _ _ _ rfl) rfl ?_
          refine s_aload_n (dt_M_back 20 _ _ _ rfl) rfl ?_
          refine s_getR (c := 1) (j := 76) (o := (some 433)) (dt_M_back 21 _ _ _ rfl) (kf_M_170) (sc_382 hS) rfl rfl ?_
          refine s_sipush (dt_M_back 22 _ _ _ rfl) rfl ?_
          refine s_iload_n (dt_M_back 23 _ _ _ rfl) rfl ?_
          refine s_imul (dt_M_back 24 _ _ _ rfl) ?_
          refine s_iload_n (dt_M_back 25 _ _ _ rfl) rfl ?_
          refine s_iadd (dt_M_back 26 _ _ _ rfl) ?_
          refine s_iald (N := 513) (dt_M_back 27 _ _ _ rfl) (sc_433 hS) rfl ?_
          refine s_iast (N := 171) (dt_M_back 28 _ _ _ rfl) (sc_411 hS) rfl ?_
          refine s_letM (fun M3 => ?_)
          refine s_iinc (dt_M_back 29 _ _ _ rfl) rfl rfl ?_
          refine s_goto (tgt := 22) (dt_M_back 30 _ _ _ rfl) rfl ?_
          exact s_mask [true, true, true] (s_ret0 rfl)
        · exact s_mask [true, false, false] (s_ret0 rfl)
      intro e4
      refine s_aload_n (dt_M_back 31 _ _ _ rfl) rfl ?_
      refine s_iconst (dt_M_back 32 _ _ _ rfl) rfl ?_
      refine s_putI (c := 1) (j := 48) (dt_M_back 33 _ _ _ rfl) kp_M_392 (sc_382 hS) ⟨rfl, rfl⟩ ?_
      refine s_letM (fun M5 => ?_)
      refine s_aload_n (dt_M_back 34 _ _ _ rfl) rfl ?_
      refine s_iconst (dt_M_back 35 _ _ _ rfl) rfl ?_
      refine s_putI (c := 1) (j := 49) (dt_M_back 36 _ _ _ rfl) kp_M_395 (sc_382 hS) ⟨rfl, rfl⟩ ?_
      refine s_letM (fun M6 => ?_)
      refine s_aload_n (dt_M_back 37 _ _ _ rfl) rfl ?_
      refine s_getR (c := 1) (j := 46) (o := (some 411)) (dt_M_back 38 _ _ _ rfl) (kf_M_101) (sc_382 hS) rfl rfl ?_
      refine s_bipush (dt_M_back 39 _ _ _ rfl) rfl ?_
      refine s_iald (N := 171) (dt_M_back 40 _ _ _ rfl) (sc_411 hS) rfl ?_
      exact s_iret (dt_M_back 41 _ _ _ rfl) rfl rfl
theorem c_M_back {S : KS} (hS : KExt 435 S)  (a0 : Int) (M : KM) : ∀ q, f_M_back a0 M = some q → Ctr y_M_back Y_M_back [VR (some 382), VI a0] S M (some (VI q.1)) S (q.2) := fun q hq =>
  ctr_of md_M_back (Nat.le_of_ble_eq_true rfl) ⟨Nat.le_refl _, Nat.le_refl _⟩ 1 hq rfl (fun _ G => sim_M_back hS  a0 M)
set_option maxRecDepth 100000 in
theorem sim_M_about {G : Gam} {S : KS} (hS : KExt 435 S)  (a0 : Int) (M : KM) : Sim G Y_M_about (f_M_about a0 M) (kC 0 [some (VR (some 382)), some (VI a0)] [] S M) (fun (q : Int) => Sum.inr (some (VI q), S, M)) := by
  unfold f_M_about
  refine s_iload_n (dt_M_about 0 _ _ _ rfl) rfl ?_
  refine s_tcase (tgt := 88) (dt_M_about 1 _ _ _ rfl) rfl rfl rfl ?_ (fun h3 => ?_)
  · refine s_aload_n (dt_M_about 2 _ _ _ rfl) rfl ?_
    refine s_callO (y := y_M_many) (Y' := Y_M_many) (as := [VR (some 382)]) (r := fun q => some (VI q)) (M' := fun q => M) (kInvV (dt_M_about 3 _ _ _ rfl) kin_M_many 1 rfl (sc_382 hS) kse_M_many rfl) kl_M_385 md_M_many rfl rfl (fun q hq => c_M_many hS M q hq) (fun q1 => ?_)
    exact s_iret (dt_M_about 4 _ _ _ rfl) rfl rfl
  refine s_tcase (tgt := 93) (dt_M_about 1 _ _ _ rfl) rfl rfl rfl ?_ (fun h4 => ?_)
  · refine s_aload_n (dt_M_about 5 _ _ _ rfl) rfl ?_
    refine s_getR (c := 1) (j := 12) (o := (some 386)) (dt_M_about 6 _ _ _ rfl) (kf_M_24) (sc_382 hS) rfl rfl ?_
    refine s_aload_n (dt_M_about 7 _ _ _ rfl) rfl ?_
    refine s_getI (c := 1) (j := 37) (dt_M_about 8 _ _ _ rfl) (kf_M_288) (sc_382 hS) rfl ?_
    refine s_iald (N := 2) (dt_M_about 9 _ _ _ rfl) (sc_386 hS) rfl ?_
    exact s_iret (dt_M_about 10 _ _ _ rfl) rfl rfl
  refine s_tcase (tgt := 103) (dt_M_about 1 _ _ _ rfl) rfl rfl rfl ?_ (fun h5 => ?_)
  · refine s_aload_n (dt_M_about 11 _ _ _ rfl) rfl ?_
    refine s_getR (c := 1) (j := 13) (o := (some 387)) (dt_M_about 12 _ _ _ rfl) (kf_M_27) (sc_382 hS) rfl rfl ?_
    refine s_aload_n (dt_M_about 13 _ _ _ rfl) rfl ?_
    refine s_getI (c := 1) (j := 37) (dt_M_about 14 _ _ _ rfl) (kf_M_288) (sc_382 hS) rfl ?_
    refine s_iald (N := 2) (dt_M_about 15 _ _ _ rfl) (sc_387 hS) rfl ?_
    exact s_iret (dt_M_about 16 _ _ _ rfl) rfl rfl
  refine s_tcase (tgt := 113) (dt_M_about 1 _ _ _ rfl) rfl rfl rfl ?_ (fun h6 => ?_)
  · refine s_aload_n (dt_M_about 17 _ _ _ rfl) rfl ?_
    refine s_getR (c := 1) (j := 16) (o := (some 390)) (dt_M_about 18 _ _ _ rfl) (kf_M_36) (sc_382 hS) rfl rfl ?_
    refine s_aload_n (dt_M_about 19 _ _ _ rfl) rfl ?_
    refine s_getI (c := 1) (j := 37) (dt_M_about 20 _ _ _ rfl) (kf_M_288) (sc_382 hS) rfl ?_
    refine s_iald (N := 2) (dt_M_about 21 _ _ _ rfl) (sc_390 hS) rfl ?_
    exact s_iret (dt_M_about 22 _ _ _ rfl) rfl rfl
  refine s_tcase (tgt := 123) (dt_M_about 1 _ _ _ rfl) rfl rfl rfl ?_ (fun h7 => ?_)
  · refine s_aload_n (dt_M_about 23 _ _ _ rfl) rfl ?_
    refine s_getR (c := 1) (j := 17) (o := (some 391)) (dt_M_about 24 _ _ _ rfl) (kf_M_39) (sc_382 hS) rfl rfl ?_
    refine s_aload_n (dt_M_about 25 _ _ _ rfl) rfl ?_
    refine s_getI (c := 1) (j := 37) (dt_M_about 26 _ _ _ rfl) (kf_M_288) (sc_382 hS) rfl ?_
    refine s_iald (N := 2) (dt_M_about 27 _ _ _ rfl) (sc_391 hS) rfl ?_
    exact s_iret (dt_M_about 28 _ _ _ rfl) rfl rfl
  refine s_tcase (tgt := 133) (dt_M_about 1 _ _ _ rfl) rfl rfl rfl ?_ (fun h8 => ?_)
  · refine s_aload_n (dt_M_about 29 _ _ _ rfl) rfl ?_
    refine s_getR (c := 1) (j := 46) (o := (some 411)) (dt_M_about 30 _ _ _ rfl) (kf_M_101) (sc_382 hS) rfl rfl ?_
    refine s_bipush (dt_M_about 31 _ _ _ rfl) rfl ?_
    refine s_iald (N := 171) (dt_M_about 32 _ _ _ rfl) (sc_411 hS) rfl ?_
    exact s_iret (dt_M_about 33 _ _ _ rfl) rfl rfl
  refine s_tcase (tgt := 141) (dt_M_about 1 _ _ _ rfl) rfl rfl rfl ?_ (fun h9 => ?_)
  · refine s_aload_n (dt_M_about 34 _ _ _ rfl) rfl ?_
    refine s_getR (c := 1) (j := 46) (o := (some 411)) (dt_M_about 35 _ _ _ rfl) (kf_M_101) (sc_382 hS) rfl rfl ?_
    refine s_bipush (dt_M_about 36 _ _ _ rfl) rfl ?_
    refine s_iald (N := 171) (dt_M_about 37 _ _ _ rfl) (sc_411 hS) rfl ?_
    exact s_iret (dt_M_about 38 _ _ _ rfl) rfl rfl
  refine s_tcase (tgt := 149) (dt_M_about 1 _ _ _ rfl) rfl rfl rfl ?_ (fun h10 => ?_)
  · refine s_aload_n (dt_M_about 39 _ _ _ rfl) rfl ?_
    refine s_getR (c := 1) (j := 46) (o := (some 411)) (dt_M_about 40 _ _ _ rfl) (kf_M_101) (sc_382 hS) rfl rfl ?_
    refine s_bipush (dt_M_about 41 _ _ _ rfl) rfl ?_
    refine s_iald (N := 171) (dt_M_about 42 _ _ _ rfl) (sc_411 hS) rfl ?_
    exact s_iret (dt_M_about 43 _ _ _ rfl) rfl rfl
  refine s_tcase (tgt := 157) (dt_M_about 1 _ _ _ rfl) rfl rfl rfl ?_ (fun h11 => ?_)
  · refine s_aload_n (dt_M_about 44 _ _ _ rfl) rfl ?_
    refine s_getR (c := 1) (j := 46) (o := (some 411)) (dt_M_about 45 _ _ _ rfl) (kf_M_101) (sc_382 hS) rfl rfl ?_
    refine s_bipush (dt_M_about 46 _ _ _ rfl) rfl ?_
    refine s_iald (N := 171) (dt_M_about 47 _ _ _ rfl) (sc_411 hS) rfl ?_
    exact s_iret (dt_M_about 48 _ _ _ rfl) rfl rfl
  refine s_tcase (tgt := 165) (dt_M_about 1 _ _ _ rfl) rfl rfl rfl ?_ (fun h12 => ?_)
  · refine s_aload_n (dt_M_about 49 _ _ _ rfl) rfl ?_
    refine s_getR (c := 1) (j := 46) (o := (some 411)) (dt_M_about 50 _ _ _ rfl) (kf_M_101) (sc_382 hS) rfl rfl ?_
    refine s_bipush (dt_M_about 51 _ _ _ rfl) rfl ?_
    refine s_iald (N := 171) (dt_M_about 52 _ _ _ rfl) (sc_411 hS) rfl ?_
    exact s_iret (dt_M_about 53 _ _ _ rfl) rfl rfl
  refine s_tcase (tgt := 173) (dt_M_about 1 _ _ _ rfl) rfl rfl rfl ?_ (fun h13 => ?_)
  · refine s_aload_n (dt_M_about 54 _ _ _ rfl) rfl ?_
    refine s_getI (c := 1) (j := 48) (dt_M_about 55 _ _ _ rfl) (kf_M_392) (sc_382 hS) rfl ?_
    exact s_iret (dt_M_about 56 _ _ _ rfl) rfl rfl
  refine s_tcase (tgt := 178) (dt_M_about 1 _ _ _ rfl) rfl rfl rfl ?_ (fun h14 => ?_)
  · refine s_aload_n (dt_M_about 57 _ _ _ rfl) rfl ?_
    refine s_getI (c := 1) (j := 49) (dt_M_about 58 _ _ _ rfl) (kf_M_395) (sc_382 hS) rfl ?_
    exact s_iret (dt_M_about 59 _ _ _ rfl) rfl rfl
  refine s_tcase (tgt := 183) (dt_M_about 1 _ _ _ rfl) rfl rfl rfl ?_ (fun h15 => ?_)
  · refine s_aload_n (dt_M_about 60 _ _ _ rfl) rfl ?_
    refine s_callO (y := y_M_targets) (Y' := Y_M_targets) (as := [VR (some 382)]) (r := fun q => some (VI q)) (M' := fun q => M) (kInvV (dt_M_about 61 _ _ _ rfl) kin_M_targets 1 rfl (sc_382 hS) kse_M_targets rfl) kl_M_452 md_M_targets rfl rfl (fun q hq => c_M_targets hS M q hq) (fun q2 => ?_)
    exact s_iret (dt_M_about 62 _ _ _ rfl) rfl rfl
  refine s_tcase (tgt := 188) (dt_M_about 1 _ _ _ rfl) rfl rfl rfl ?_ (fun h16 => ?_)
  · refine s_aload_n (dt_M_about 63 _ _ _ rfl) rfl ?_
    refine s_getI (c := 1) (j := 71) (dt_M_about 64 _ _ _ rfl) (kf_M_398) (sc_382 hS) rfl ?_
    exact s_iret (dt_M_about 65 _ _ _ rfl) rfl rfl
  refine s_tcase (tgt := 193) (dt_M_about 1 _ _ _ rfl) rfl rfl rfl ?_ (fun h17 => ?_)
  · refine s_aload_n (dt_M_about 66 _ _ _ rfl) rfl ?_
    refine s_getI (c := 1) (j := 72) (dt_M_about 67 _ _ _ rfl) (kf_M_512) (sc_382 hS) rfl ?_
    exact s_iret (dt_M_about 68 _ _ _ rfl) rfl rfl
  refine s_tcase (tgt := 198) (dt_M_about 1 _ _ _ rfl) rfl rfl rfl ?_ (fun h18 => ?_)
  · refine s_aload_n (dt_M_about 69 _ _ _ rfl) rfl ?_
    refine s_getI (c := 1) (j := 2) (dt_M_about 70 _ _ _ rfl) (kf_M_285) (sc_382 hS) rfl ?_
    exact s_iret (dt_M_about 71 _ _ _ rfl) rfl rfl
  refine s_tcase (tgt := 203) (dt_M_about 1 _ _ _ rfl) rfl rfl rfl ?_ (fun h19 => ?_)
  · refine s_aload_n (dt_M_about 72 _ _ _ rfl) rfl ?_
    refine s_getR (c := 1) (j := 14) (o := (some 388)) (dt_M_about 73 _ _ _ rfl) (kf_M_30) (sc_382 hS) rfl rfl ?_
    refine s_aload_n (dt_M_about 74 _ _ _ rfl) rfl ?_
    refine s_getI (c := 1) (j := 37) (dt_M_about 75 _ _ _ rfl) (kf_M_288) (sc_382 hS) rfl ?_
    refine s_iald (N := 2) (dt_M_about 76 _ _ _ rfl) (sc_388 hS) rfl ?_
    exact s_iret (dt_M_about 77 _ _ _ rfl) rfl rfl
  refine s_tcase (tgt := 213) (dt_M_about 1 _ _ _ rfl) rfl rfl rfl ?_ (fun h20 => ?_)
  · refine s_aload_n (dt_M_about 78 _ _ _ rfl) rfl ?_
    refine s_getI (c := 1) (j := 63) (dt_M_about 79 _ _ _ rfl) (kf_M_401) (sc_382 hS) rfl ?_
    exact s_iret (dt_M_about 80 _ _ _ rfl) rfl rfl
  refine s_tdef (tgt := 218) (dt_M_about 1 _ _ _ rfl) (by omega) rfl ?_
  refine s_iconst (dt_M_about 81 _ _ _ rfl) rfl ?_
  exact s_iret (dt_M_about 82 _ _ _ rfl) rfl rfl
theorem c_M_about {S : KS} (hS : KExt 435 S)  (a0 : Int) (M : KM) : ∀ q, f_M_about a0 M = some q → Ctr y_M_about Y_M_about [VR (some 382), VI a0] S M (some (VI q)) S (M) := fun q hq =>
  ctr_of md_M_about (Nat.le_of_ble_eq_true rfl) ⟨Nat.le_refl _, Nat.le_refl _⟩ 0 hq rfl (fun _ G => sim_M_about hS  a0 M)
set_option maxRecDepth 100000 in
theorem sim_M_feed {G : Gam} {S : KS} (hS : KExt 435 S)  (a0 : Int) (a1 : Int) (a2 : Int) (a3 : Int) (a4 : Int) (M : KM) : Sim G Y_M_feed (f_M_feed a0 a1 a2 a3 a4 M) (kC 0 [some (VR (some 382)), some (VI a0), some (VI a1), some (VI a2), some (VI a3), some (VI a4), none, none] [] S M) (fun (q : Int × KM) => Sum.inr (some (VI q.1), S, q.2)) := by
  unfold f_M_feed
  refine s_aload_n (dt_M_feed 0 _ _ _ rfl) rfl ?_
  refine s_getI (c := 1) (j := 2) (dt_M_feed 1 _ _ _ rfl) (kf_M_285) (sc_382 hS) rfl ?_
  refine s_bipush (dt_M_feed 2 _ _ _ rfl) rfl ?_
  refine s_iadd (dt_M_feed 3 _ _ _ rfl) ?_
  refine s_sipush (dt_M_feed 4 _ _ _ rfl) rfl ?_
  refine s_if_icmp_le (tgt := 15) (dt_M_feed 5 _ _ _ rfl) rfl ?_ ?_
  · refine s_iconst (dt_M_feed 8 _ _ _ rfl) rfl ?_
    refine s_istore (dt_M_feed 9 _ _ _ rfl) rfl ?_
    refine s_bd (κ := (fun (e4 : KM) => kC 105 [some (VR (some 382)), none, none, none, none, none, none, none] [] S e4)) (s_mask [true, true, true, true, true, true, true, false] (s_while (c := fun s1 => kC 18 [some (VR (some 382)), some (VI a0), some (VI a1), some (VI a2), some (VI a3), some (VI a4), some (VI s1.1), none] [] S s1.2) (fun s1 => ?_) ((0 : Int), M))) ?_
    · refine s_iload (dt_M_feed 10 _ _ _ rfl) rfl ?_
      refine s_bipush (dt_M_feed 11 _ _ _ rfl) rfl ?_
      refine s_if_icmp_ge (tgt := 105) (dt_M_feed 12 _ _ _ rfl) rfl ?_ ?_
      · refine s_iload (dt_M_feed 13 _ _ _ rfl) rfl ?_
        refine s_iconst (dt_M_feed 14 _ _ _ rfl) rfl ?_
        refine s_bd (κ := fun t2 => kC 71 [some (VR (some 382)), some (VI a0), some (VI a1), some (VI a2), some (VI a3), some (VI a4), some (VI s1.1), none] [VI t2] S s1.2) ?_ (fun t2 => ?_)
        · refine s_if_icmp_ge (tgt := 35) (dt_M_feed 15 _ _ _ rfl) rfl ?_ ?_
          · refine s_iload_n (dt_M_feed 16 _ _ _ rfl) rfl ?_
            refine s_goto (tgt := 71) (dt_M_feed 17 _ _ _ rfl) rfl ?_
            exact s_mask [true, true, true, true, true, true, true, false] (s_ret0 rfl)
          · refine s_iload (dt_M_feed 18 _ _ _ rfl) rfl ?_
            refine s_bipush (dt_M_feed 19 _ _ _ rfl) rfl ?_
            refine s_if_icmp_ge (tgt := 46) (dt_M_feed 20 _ _ _ rfl) rfl ?_ ?_
            · refine s_iload_n (dt_M_feed 21 _ _ _ rfl) rfl ?_
              refine s_goto (tgt := 71) (dt_M_feed 22 _ _ _ rfl) rfl ?_
              exact s_mask [true, true, true, true, true, true, true, false] (s_ret0 rfl)
            · refine s_iload (dt_M_feed 23 _ _ _ rfl) rfl ?_
              refine s_bipush (dt_M_feed 24 _ _ _ rfl) rfl ?_
              refine s_if_icmp_ge (tgt := 57) (dt_M_feed 25 _ _ _ rfl) rfl ?_ ?_
              · refine s_iload_n (dt_M_feed 26 _ _ _ rfl) rfl ?_
                refine s_goto (tgt := 71) (dt_M_feed 27 _ _ _ rfl) rfl ?_
                exact s_mask [true, true, true, true, true, true, true, false] (s_ret0 rfl)
              · refine s_iload (dt_M_feed 28 _ _ _ rfl) rfl ?_
                refine s_bipush (dt_M_feed 29 _ _ _ rfl) rfl ?_
                refine s_if_icmp_ge (tgt := 69) (dt_M_feed 30 _ _ _ rfl) rfl ?_ ?_
                · refine s_iload (dt_M_feed 31 _ _ _ rfl) rfl ?_
                  refine s_goto (tgt := 71) (dt_M_feed 32 _ _ _ rfl) rfl ?_
                  exact s_mask [true, true, true, true, true, true, true, false] (s_ret0 rfl)
                · refine s_iload (dt_M_feed 33 _ _ _ rfl) rfl ?_
                  exact s_mask [true, true, true, true, true, true, true, false] (s_ret0 rfl)
        refine s_istore (dt_M_feed 34 _ _ _ rfl) rfl ?_
        refine s_aload_n (dt_M_feed 35 _ _ _ rfl) rfl ?_
        refine s_getR (c := 1) (j := 0) (o := (some 383)) (dt_M_feed 36 _ _ _ rfl) (kf_M_7) (sc_382 hS) rfl rfl ?_
        refine s_aload_n (dt_M_feed 37 _ _ _ rfl) rfl ?_
        refine s_getI (c := 1) (j := 2) (dt_M_feed 38 _ _ _ rfl) (kf_M_285) (sc_382 hS) rfl ?_
        refine s_iload (dt_M_feed 39 _ _ _ rfl) rfl ?_
        refine s_iadd (dt_M_feed 40 _ _ _ rfl) ?_
        refine s_iload (dt_M_feed 41 _ _ _ rfl) rfl ?_
        refine s_bipush (dt_M_feed 42 _ _ _ rfl) rfl ?_
        refine s_bipush (dt_M_feed 43 _ _ _ rfl) rfl ?_
        refine s_iload (dt_M_feed 44 _ _ _ rfl) rfl ?_
        refine s_iconst (dt_M_feed 45 _ _ _ rfl) rfl ?_
        refine s_iand (dt_M_feed 46 _ _ _ rfl) ?_
        refine s_imul (dt_M_feed 47 _ _ _ rfl) ?_
        refine s_isub (dt_M_feed 48 _ _ _ rfl) ?_
        refine s_ishr (dt_M_feed 49 _ _ _ rfl) ?_
        refine s_i2b (dt_M_feed 50 _ _ _ rfl) ?_
        refine s_bast (N := 1620) (dt_M_feed 51 _ _ _ rfl) (sc_383 hS) rfl ?_
        refine s_letM (fun M3 => ?_)
        refine s_iinc (dt_M_feed 52 _ _ _ rfl) rfl rfl ?_
        refine s_goto (tgt := 18) (dt_M_feed 53 _ _ _ rfl) rfl ?_
        exact s_mask [true, true, true, true, true, true, true, false] (s_ret0 rfl)
      · exact s_mask [true, false, false, false, false, false, false, false] (s_ret0 rfl)
    intro e4
    refine s_aload_n (dt_M_feed 54 _ _ _ rfl) rfl ?_
    refine s_dup (dt_M_feed 55 _ _ _ rfl) rfl ?_
    refine s_getI (c := 1) (j := 2) (dt_M_feed 56 _ _ _ rfl) (kf_M_285) (sc_382 hS) rfl ?_
    refine s_bipush (dt_M_feed 57 _ _ _ rfl) rfl ?_
    refine s_iadd (dt_M_feed 58 _ _ _ rfl) ?_
    refine s_putI (c := 1) (j := 2) (dt_M_feed 59 _ _ _ rfl) kp_M_285 (sc_382 hS) ⟨rfl, rfl⟩ ?_
    refine s_letM (fun M5 => ?_)
    refine s_aload_n (dt_M_feed 60 _ _ _ rfl) rfl ?_
    refine s_getI (c := 1) (j := 2) (dt_M_feed 61 _ _ _ rfl) (kf_M_285) (sc_382 hS) rfl ?_
    exact s_iret (dt_M_feed 62 _ _ _ rfl) rfl rfl
  · refine s_iconst (dt_M_feed 6 _ _ _ rfl) rfl ?_
    exact s_iret (dt_M_feed 7 _ _ _ rfl) rfl rfl
theorem c_M_feed {S : KS} (hS : KExt 435 S)  (a0 : Int) (a1 : Int) (a2 : Int) (a3 : Int) (a4 : Int) (M : KM) : ∀ q, f_M_feed a0 a1 a2 a3 a4 M = some q → Ctr y_M_feed Y_M_feed [VR (some 382), VI a0, VI a1, VI a2, VI a3, VI a4] S M (some (VI q.1)) S (q.2) := fun q hq =>
  ctr_of md_M_feed (Nat.le_of_ble_eq_true rfl) ⟨Nat.le_refl _, Nat.le_refl _⟩ 2 hq rfl (fun _ G => sim_M_feed hS  a0 a1 a2 a3 a4 M)
set_option maxRecDepth 100000 in
theorem sim_M_end {G : Gam} {S : KS} (hS : KExt 435 S)  (a0 : Int) (M : KM) : Sim G Y_M_end (f_M_end a0 M) (kC 0 [some (VR (some 382)), some (VI a0)] [] S M) (fun (q : Int × KM) => Sum.inr (some (VI q.1), S, q.2)) := by
  unfold f_M_end
  refine s_iload_n (dt_M_end 0 _ _ _ rfl) rfl ?_
  refine s_if_lt (tgt := 12) (dt_M_end 1 _ _ _ rfl) rfl ?_ ?_
  · refine s_iconst (dt_M_end 6 _ _ _ rfl) rfl ?_
    exact s_iret (dt_M_end 7 _ _ _ rfl) rfl rfl
  · refine s_iload_n (dt_M_end 2 _ _ _ rfl) rfl ?_
    refine s_aload_n (dt_M_end 3 _ _ _ rfl) rfl ?_
    refine s_getI (c := 1) (j := 2) (dt_M_end 4 _ _ _ rfl) (kf_M_285) (sc_382 hS) rfl ?_
    refine s_if_icmp_le (tgt := 14) (dt_M_end 5 _ _ _ rfl) rfl ?_ ?_
    · refine s_aload_n (dt_M_end 8 _ _ _ rfl) rfl ?_
      refine s_iload_n (dt_M_end 9 _ _ _ rfl) rfl ?_
      refine s_putI (c := 1) (j := 2) (dt_M_end 10 _ _ _ rfl) kp_M_285 (sc_382 hS) ⟨rfl, rfl⟩ ?_
      refine s_letM (fun M1 => ?_)
      refine s_iload_n (dt_M_end 11 _ _ _ rfl) rfl ?_
      exact s_iret (dt_M_end 12 _ _ _ rfl) rfl rfl
    · refine s_iconst (dt_M_end 6 _ _ _ rfl) rfl ?_
      exact s_iret (dt_M_end 7 _ _ _ rfl) rfl rfl
theorem c_M_end {S : KS} (hS : KExt 435 S)  (a0 : Int) (M : KM) : ∀ q, f_M_end a0 M = some q → Ctr y_M_end Y_M_end [VR (some 382), VI a0] S M (some (VI q.1)) S (q.2) := fun q hq =>
  ctr_of md_M_end (Nat.le_of_ble_eq_true rfl) ⟨Nat.le_refl _, Nat.le_refl _⟩ 0 hq rfl (fun _ G => sim_M_end hS  a0 M)
