set_option maxRecDepth 100000 in
theorem sim_Safety_firstBest {G : Gam} {S : KS} (hS : KExt 382 S)  (a0 : Int) (a1 : Int) (M : KM) : Sim G Y_Safety_firstBest (f_Safety_firstBest a0 a1 M) (kC 0 [some (VR (some 345)), some (VI a0), some (VI a1), none, none, none] [] S M) (fun (q : Int) => Sum.inr (some (VI q), S, M)) := by
  unfold f_Safety_firstBest
  refine s_aload_n (dt_Safety_firstBest 0 _ _ _ rfl) rfl ?_
  refine s_iload_n (dt_Safety_firstBest 1 _ _ _ rfl) rfl ?_
  refine s_iconst (dt_Safety_firstBest 2 _ _ _ rfl) rfl ?_
  refine s_iadd (dt_Safety_firstBest 3 _ _ _ rfl) ?_
  refine s_iload_n (dt_Safety_firstBest 4 _ _ _ rfl) rfl ?_
  refine s_callO (y := y_Safety_fewestOf) (Y' := Y_Safety_fewestOf) (as := [VR (some 345), VI (w32 (a0 + (1 : Int))), VI a1]) (r := fun q => some (VI q)) (M' := fun q => M) (kInvV (dt_Safety_firstBest 5 _ _ _ rfl) kin_Safety_fewestOf 9 rfl (sc_345 hS) kse_Safety_fewestOf rfl) kl_Safety_57 md_Safety_fewestOf rfl rfl (fun q hq => c_Safety_fewestOf hS (w32 (a0 + (1 : Int))) a1 M q hq) (fun q1 => ?_)
  refine s_istore_n (dt_Safety_firstBest 6 _ _ _ rfl) rfl ?_
  refine s_aload_n (dt_Safety_firstBest 7 _ _ _ rfl) rfl ?_
  refine s_getI (c := 9) (j := 4) (dt_Safety_firstBest 8 _ _ _ rfl) (kf_Safety_31) (sc_345 hS) rfl ?_
  refine s_iload_n (dt_Safety_firstBest 9 _ _ _ rfl) rfl ?_
  refine s_mmin (dt_Safety_firstBest 10 _ _ _ rfl) kj_Safety_73 rfl ?_
  refine s_letI (fun v2 => ?_)
  refine s_istore (dt_Safety_firstBest 11 _ _ _ rfl) rfl ?_
  refine s_iconst (dt_Safety_firstBest 12 _ _ _ rfl) rfl ?_
  refine s_iload_n (dt_Safety_firstBest 13 _ _ _ rfl) rfl ?_
  refine s_iload_n (dt_Safety_firstBest 14 _ _ _ rfl) rfl ?_
  refine s_aload_n (dt_Safety_firstBest 15 _ _ _ rfl) rfl ?_
  refine s_getI (c := 9) (j := 4) (dt_Safety_firstBest 16 _ _ _ rfl) (kf_Safety_31) (sc_345 hS) rfl ?_
  refine s_imul (dt_Safety_firstBest 17 _ _ _ rfl) ?_
  refine s_isub (dt_Safety_firstBest 18 _ _ _ rfl) ?_
  refine s_mmax (dt_Safety_firstBest 19 _ _ _ rfl) kj_Safety_68 rfl ?_
  refine s_letI (fun v3 => ?_)
  refine s_istore (dt_Safety_firstBest 20 _ _ _ rfl) rfl ?_
  refine s_bd (κ := (Sum.elim (fun (e6 : Int) => kC 68 [none, none, none, none, none, some (VI e6)] [] S M) (fun (e7 : Unit) => kC 77 [none, none, none, none, none, none] [] S M))) (s_mask [true, true, true, true, true, true] (s_while (c := fun s4 => kC 33 [some (VR (some 345)), some (VI a0), some (VI a1), some (VI q1), some (VI v2), some (VI s4)] [] S M) (fun s4 => ?_) v3)) ?_
  · refine s_iload (dt_Safety_firstBest 21 _ _ _ rfl) rfl ?_
    refine s_iload (dt_Safety_firstBest 22 _ _ _ rfl) rfl ?_
    refine s_if_icmp_gt (tgt := 77) (dt_Safety_firstBest 23 _ _ _ rfl) rfl ?_ ?_
    · refine s_aload_n (dt_Safety_firstBest 24 _ _ _ rfl) rfl ?_
      refine s_getR (c := 9) (j := 0) (o := (some 346)) (dt_Safety_firstBest 25 _ _ _ rfl) (kf_Safety_9) (sc_345 hS) rfl rfl ?_
      refine s_aload_n (dt_Safety_firstBest 26 _ _ _ rfl) rfl ?_
      refine s_getI (c := 9) (j := 3) (dt_Safety_firstBest 27 _ _ _ rfl) (kf_Safety_27) (sc_345 hS) rfl ?_
      refine s_iload (dt_Safety_firstBest 28 _ _ _ rfl) rfl ?_
      refine s_iadd (dt_Safety_firstBest 29 _ _ _ rfl) ?_
      refine s_inv (y := y_X_at) (Y' := Y_X_at) (as := [VR (some 346), VI (w32 ((M 345 3) + s4))]) (r := some (VI (atM M 346 151 (w32 ((M 345 3) + s4))))) (M' := M) (kInvS (dt_Safety_firstBest 30 _ _ _ rfl) kst_X_at rfl) kl_Safety_49 md_X_at rfl rfl (c_X_at hS ⟨(sc_346 hS), by decide⟩ (w32 ((M 345 3) + s4)) M) ?_
      refine s_aload_n (dt_Safety_firstBest 31 _ _ _ rfl) rfl ?_
      refine s_iload_n (dt_Safety_firstBest 32 _ _ _ rfl) rfl ?_
      refine s_iload_n (dt_Safety_firstBest 33 _ _ _ rfl) rfl ?_
      refine s_iload (dt_Safety_firstBest 34 _ _ _ rfl) rfl ?_
      refine s_isub (dt_Safety_firstBest 35 _ _ _ rfl) ?_
      refine s_callO (y := y_Safety_fewestOf) (Y' := Y_Safety_fewestOf) (as := [VR (some 345), VI a0, VI (w32 (a1 - s4))]) (r := fun q => some (VI q)) (M' := fun q => M) (kInvV (dt_Safety_firstBest 36 _ _ _ rfl) kin_Safety_fewestOf 9 rfl (sc_345 hS) kse_Safety_fewestOf rfl) kl_Safety_57 md_Safety_fewestOf rfl rfl (fun q hq => c_Safety_fewestOf hS a0 (w32 (a1 - s4)) M q hq) (fun q5 => ?_)
      refine s_iadd (dt_Safety_firstBest 37 _ _ _ rfl) ?_
      refine s_iload_n (dt_Safety_firstBest 38 _ _ _ rfl) rfl ?_
      refine s_if_icmp_ne (tgt := 71) (dt_Safety_firstBest 39 _ _ _ rfl) rfl ?_ ?_
      · exact s_mask [false, false, false, false, false, true] (s_ret0 rfl)
      · refine s_iinc (dt_Safety_firstBest 42 _ _ _ rfl) rfl rfl ?_
        refine s_goto (tgt := 33) (dt_Safety_firstBest 43 _ _ _ rfl) rfl ?_
        exact s_mask [true, true, true, true, true, true] (s_ret0 rfl)
    · exact s_mask [false, false, false, false, false, false] (s_ret0 rfl)
  refine s_elim (fun e6 => ?_) ?_
  · refine s_iload (dt_Safety_firstBest 40 _ _ _ rfl) rfl ?_
    exact s_iret (dt_Safety_firstBest 41 _ _ _ rfl) rfl rfl
  intro e7
  refine s_iconst (dt_Safety_firstBest 44 _ _ _ rfl) rfl ?_
  exact s_iret (dt_Safety_firstBest 45 _ _ _ rfl) rfl rfl
theorem c_Safety_firstBest {S : KS} (hS : KExt 382 S)  (a0 : Int) (a1 : Int) (M : KM) : ∀ q, f_Safety_firstBest a0 a1 M = some q → Ctr y_Safety_firstBest Y_Safety_firstBest [VR (some 345), VI a0, VI a1] S M (some (VI q)) S (M) := fun q hq =>
  ctr_of md_Safety_firstBest (Nat.le_of_ble_eq_true rfl) ⟨Nat.le_refl _, Nat.le_refl _⟩ 3 hq rfl (fun _ G => sim_Safety_firstBest hS  a0 a1 M)
set_option maxRecDepth 100000 in
theorem sim_Safety_spread {G : Gam} {S : KS} (hS : KExt 382 S)   (M : KM) : Sim G Y_Safety_spread (f_Safety_spread  M) (kC 0 [some (VR (some 345)), some (VR (some 2)), some (VR (some 34)), none, none, none, none, none] [] S M) (fun (q : Int × KM) => Sum.inr (some (VI q.1), S, q.2)) := by
  unfold f_Safety_spread
  refine s_aload_n (dt_Safety_spread 0 _ _ _ rfl) rfl ?_
  refine s_aload_n (dt_Safety_spread 1 _ _ _ rfl) rfl ?_
  refine s_getI (c := 12) (j := 12) (dt_Safety_spread 2 _ _ _ rfl) (kf_Safety_21) (sc_2 hS) rfl ?_
  refine s_putI (c := 9) (j := 3) (dt_Safety_spread 3 _ _ _ rfl) kp_Safety_27 (sc_345 hS) ⟨rfl, rfl⟩ ?_
  refine s_letM (fun M1 => ?_)
  refine s_aload_n (dt_Safety_spread 4 _ _ _ rfl) rfl ?_
  refine s_aload_n (dt_Safety_spread 5 _ _ _ rfl) rfl ?_
  refine s_getI (c := 12) (j := 13) (dt_Safety_spread 6 _ _ _ rfl) (kf_Safety_28) (sc_2 hS) rfl ?_
  refine s_aload_n (dt_Safety_spread 7 _ _ _ rfl) rfl ?_
  refine s_getI (c := 12) (j := 12) (dt_Safety_spread 8 _ _ _ rfl) (kf_Safety_21) (sc_2 hS) rfl ?_
  refine s_isub (dt_Safety_spread 9 _ _ _ rfl) ?_
  refine s_putI (c := 9) (j := 4) (dt_Safety_spread 10 _ _ _ rfl) kp_Safety_31 (sc_345 hS) ⟨rfl, rfl⟩ ?_
  refine s_letM (fun M2 => ?_)
  refine s_iconst (dt_Safety_spread 11 _ _ _ rfl) rfl ?_
  refine s_istore_n (dt_Safety_spread 12 _ _ _ rfl) rfl ?_
  refine s_iconst (dt_Safety_spread 13 _ _ _ rfl) rfl ?_
  refine s_istore (dt_Safety_spread 14 _ _ _ rfl) rfl ?_
  refine s_iconst (dt_Safety_spread 15 _ _ _ rfl) rfl ?_
  refine s_istore (dt_Safety_spread 16 _ _ _ rfl) rfl ?_
  refine s_bd (κ := (fun (e6 : Int × Int) => kC 78 [some (VR (some 345)), none, some (VR (some 34)), some (VI e6.1), some (VI e6.2), none, none, none] [] S M2)) (s_mask [true, false, true, true, true, true, false, false] (s_while (c := fun s3 => kC 29 [some (VR (some 345)), none, some (VR (some 34)), some (VI s3.1), some (VI s3.2.1), some (VI s3.2.2), none, none] [] S M2) (fun s3 => ?_) ((0 : Int), (0 : Int), (0 : Int)))) ?_
  · refine s_iload (dt_Safety_spread 17 _ _ _ rfl) rfl ?_
    refine s_aload_n (dt_Safety_spread 18 _ _ _ rfl) rfl ?_
    refine s_getI (c := 10) (j := 2) (dt_Safety_spread 19 _ _ _ rfl) (kf_Safety_34) (sc_34 hS) rfl ?_
    refine s_if_icmp_ge (tgt := 78) (dt_Safety_spread 20 _ _ _ rfl) rfl ?_ ?_
    · refine s_aload_n (dt_Safety_spread 21 _ _ _ rfl) rfl ?_
      refine s_getI (c := 10) (j := 3) (dt_Safety_spread 22 _ _ _ rfl) (kf_Safety_39) (sc_34 hS) rfl ?_
      refine s_iload (dt_Safety_spread 23 _ _ _ rfl) rfl ?_
      refine s_inv (y := y_X_isIn) (Y' := Y_X_isIn) (as := [VI (M2 34 3), VI s3.2.2]) (r := some (VI (isInV (M2 34 3) s3.2.2))) (M' := M2) (kInvS (dt_Safety_spread 24 _ _ _ rfl) kst_X_isIn rfl) kl_Safety_42 md_X_isIn rfl rfl (c_X_isIn hS (M2 34 3) s3.2.2 M2) ?_
      refine s_bd (κ := fun t5 => kC 72 [some (VR (some 345)), none, some (VR (some 34)), some (VI t5.1), some (VI t5.2), some (VI s3.2.2), none, none] [] S M2) ?_ (fun t5 => ?_)
      · refine s_if_eq (tgt := 72) (dt_Safety_spread 25 _ _ _ rfl) rfl ?_ ?_
        · exact s_mask [true, false, true, true, true, true, false, false] (s_ret0 rfl)
        · refine s_iinc (dt_Safety_spread 26 _ _ _ rfl) rfl rfl ?_
          refine s_iload (dt_Safety_spread 27 _ _ _ rfl) rfl ?_
          refine s_aload_n (dt_Safety_spread 28 _ _ _ rfl) rfl ?_
          refine s_getR (c := 10) (j := 0) (o := (some 35)) (dt_Safety_spread 29 _ _ _ rfl) (kf_Safety_46) (sc_34 hS) rfl rfl ?_
          refine s_iload (dt_Safety_spread 30 _ _ _ rfl) rfl ?_
          refine s_inv (y := y_X_at) (Y' := Y_X_at) (as := [VR (some 35), VI s3.2.2]) (r := some (VI (atM M2 35 8 s3.2.2))) (M' := M2) (kInvS (dt_Safety_spread 31 _ _ _ rfl) kst_X_at rfl) kl_Safety_49 md_X_at rfl rfl (c_X_at hS ⟨(sc_35 hS), by decide⟩ s3.2.2 M2) ?_
          refine s_aload_n (dt_Safety_spread 32 _ _ _ rfl) rfl ?_
          refine s_getI (c := 9) (j := 3) (dt_Safety_spread 33 _ _ _ rfl) (kf_Safety_27) (sc_345 hS) rfl ?_
          refine s_isub (dt_Safety_spread 34 _ _ _ rfl) ?_
          refine s_iadd (dt_Safety_spread 35 _ _ _ rfl) ?_
          refine s_letI (fun v4 => ?_)
          refine s_istore (dt_Safety_spread 36 _ _ _ rfl) rfl ?_
          exact s_mask [true, false, true, true, true, true, false, false] (s_ret0 rfl)
      refine s_iinc (dt_Safety_spread 37 _ _ _ rfl) rfl rfl ?_
      refine s_goto (tgt := 29) (dt_Safety_spread 38 _ _ _ rfl) rfl ?_
      exact s_mask [true, false, true, true, true, true, false, false] (s_ret0 rfl)
    · exact s_mask [true, false, true, true, true, false, false, false] (s_ret0 rfl)
  intro e6
  refine s_aload_n (dt_Safety_spread 39 _ _ _ rfl) rfl ?_
  refine s_iload_n (dt_Safety_spread 40 _ _ _ rfl) rfl ?_
  refine s_iload (dt_Safety_spread 41 _ _ _ rfl) rfl ?_
  refine s_callO (y := y_Safety_fillRows) (Y' := Y_Safety_fillRows) (as := [VR (some 345), VI e6.1, VI e6.2]) (r := fun q => none) (M' := fun q => q) (kInvV (dt_Safety_spread 42 _ _ _ rfl) kin_Safety_fillRows 9 rfl (sc_345 hS) kse_Safety_fillRows rfl) kl_Safety_53 md_Safety_fillRows rfl rfl (fun q hq => c_Safety_fillRows hS e6.1 e6.2 M2 q hq) (fun q7 => ?_)
  refine s_aload_n (dt_Safety_spread 43 _ _ _ rfl) rfl ?_
  refine s_iload_n (dt_Safety_spread 44 _ _ _ rfl) rfl ?_
  refine s_iload (dt_Safety_spread 45 _ _ _ rfl) rfl ?_
  refine s_callO (y := y_Safety_fewestOf) (Y' := Y_Safety_fewestOf) (as := [VR (some 345), VI e6.1, VI e6.2]) (r := fun q => some (VI q)) (M' := fun q => q7) (kInvV (dt_Safety_spread 46 _ _ _ rfl) kin_Safety_fewestOf 9 rfl (sc_345 hS) kse_Safety_fewestOf rfl) kl_Safety_57 md_Safety_fewestOf rfl rfl (fun q hq => c_Safety_fewestOf hS e6.1 e6.2 q7 q hq) (fun q8 => ?_)
  refine s_istore (dt_Safety_spread 47 _ _ _ rfl) rfl ?_
  refine s_iconst (dt_Safety_spread 48 _ _ _ rfl) rfl ?_
  refine s_istore (dt_Safety_spread 49 _ _ _ rfl) rfl ?_
  refine s_bd (κ := (fun (e14 : KM) => kC 159 [none, none, none, none, none, some (VI q8), none, none] [] S e14)) (s_mask [true, false, true, true, true, true, true, false] (s_while (c := fun s9 => kC 97 [some (VR (some 345)), none, some (VR (some 34)), some (VI s9.1), some (VI s9.2.1), some (VI q8), some (VI s9.2.2.1), none] [] S s9.2.2.2) (fun s9 => ?_) (e6.1, e6.2, (0 : Int), q7))) ?_
  · refine s_iload (dt_Safety_spread 50 _ _ _ rfl) rfl ?_
    refine s_aload_n (dt_Safety_spread 51 _ _ _ rfl) rfl ?_
    refine s_getI (c := 10) (j := 2) (dt_Safety_spread 52 _ _ _ rfl) (kf_Safety_34) (sc_34 hS) rfl ?_
    refine s_if_icmp_ge (tgt := 159) (dt_Safety_spread 53 _ _ _ rfl) rfl ?_ ?_
    · refine s_aload_n (dt_Safety_spread 54 _ _ _ rfl) rfl ?_
      refine s_getI (c := 10) (j := 3) (dt_Safety_spread 55 _ _ _ rfl) (kf_Safety_39) (sc_34 hS) rfl ?_
      refine s_iload (dt_Safety_spread 56 _ _ _ rfl) rfl ?_
      refine s_inv (y := y_X_isIn) (Y' := Y_X_isIn) (as := [VI (s9.2.2.2 34 3), VI s9.2.2.1]) (r := some (VI (isInV (s9.2.2.2 34 3) s9.2.2.1))) (M' := s9.2.2.2) (kInvS (dt_Safety_spread 57 _ _ _ rfl) kst_X_isIn rfl) kl_Safety_42 md_X_isIn rfl rfl (c_X_isIn hS (s9.2.2.2 34 3) s9.2.2.1 s9.2.2.2) ?_
      refine s_bd (κ := fun t13 => kC 153 [some (VR (some 345)), none, some (VR (some 34)), some (VI t13.1), some (VI t13.2.1), some (VI q8), some (VI s9.2.2.1), none] [] S t13.2.2) ?_ (fun t13 => ?_)
      · refine s_if_eq (tgt := 153) (dt_Safety_spread 58 _ _ _ rfl) rfl ?_ ?_
        · exact s_mask [true, false, true, true, true, true, true, false] (s_ret0 rfl)
        · refine s_iinc (dt_Safety_spread 59 _ _ _ rfl) rfl rfl ?_
          refine s_aload_n (dt_Safety_spread 60 _ _ _ rfl) rfl ?_
          refine s_iload_n (dt_Safety_spread 61 _ _ _ rfl) rfl ?_
          refine s_iload (dt_Safety_spread 62 _ _ _ rfl) rfl ?_
          refine s_callO (y := y_Safety_firstBest) (Y' := Y_Safety_firstBest) (as := [VR (some 345), VI (w32 (s9.1 + (-1 : Int))), VI s9.2.1]) (r := fun q => some (VI q)) (M' := fun q => s9.2.2.2) (kInvV (dt_Safety_spread 63 _ _ _ rfl) kin_Safety_firstBest 9 rfl (sc_345 hS) kse_Safety_firstBest rfl) kl_Safety_61 md_Safety_firstBest rfl rfl (fun q hq => c_Safety_firstBest hS (w32 (s9.1 + (-1 : Int))) s9.2.1 s9.2.2.2 q hq) (fun q10 => ?_)
          refine s_istore (dt_Safety_spread 64 _ _ _ rfl) rfl ?_
          refine s_aload_n (dt_Safety_spread 65 _ _ _ rfl) rfl ?_
          refine s_getR (c := 9) (j := 1) (o := (some 347)) (dt_Safety_spread 66 _ _ _ rfl) (kf_Safety_15) (sc_345 hS) rfl rfl ?_
          refine s_iload (dt_Safety_spread 67 _ _ _ rfl) rfl ?_
          refine s_aload_n (dt_Safety_spread 68 _ _ _ rfl) rfl ?_
          refine s_getI (c := 9) (j := 3) (dt_Safety_spread 69 _ _ _ rfl) (kf_Safety_27) (sc_345 hS) rfl ?_
          refine s_iload (dt_Safety_spread 70 _ _ _ rfl) rfl ?_
          refine s_iadd (dt_Safety_spread 71 _ _ _ rfl) ?_
          refine s_inv (y := y_X_put) (Y' := Y_X_put) (as := [VR (some 347), VI s9.2.2.1, VI (w32 ((s9.2.2.2 345 3) + q10))]) (r := none) (M' := (putM s9.2.2.2 347 8 s9.2.2.1 (w32 ((s9.2.2.2 345 3) + q10)))) (kInvS (dt_Safety_spread 72 _ _ _ rfl) kst_X_put rfl) kl_Safety_64 md_X_put rfl rfl (c_X_put hS ⟨(sc_347 hS), by decide⟩ s9.2.2.1 (w32 ((s9.2.2.2 345 3) + q10)) s9.2.2.2) ?_
          refine s_letM (fun M11 => ?_)
          refine s_iload (dt_Safety_spread 73 _ _ _ rfl) rfl ?_
          refine s_iload (dt_Safety_spread 74 _ _ _ rfl) rfl ?_
          refine s_isub (dt_Safety_spread 75 _ _ _ rfl) ?_
          refine s_letI (fun v12 => ?_)
          refine s_istore (dt_Safety_spread 76 _ _ _ rfl) rfl ?_
          exact s_mask [true, false, true, true, true, true, true, false] (s_ret0 rfl)
      refine s_iinc (dt_Safety_spread 77 _ _ _ rfl) rfl rfl ?_
      refine s_goto (tgt := 97) (dt_Safety_spread 78 _ _ _ rfl) rfl ?_
      exact s_mask [true, false, true, true, true, true, true, false] (s_ret0 rfl)
    · exact s_mask [false, false, false, false, false, true, false, false] (s_ret0 rfl)
  intro e14
  refine s_iload (dt_Safety_spread 79 _ _ _ rfl) rfl ?_
  exact s_iret (dt_Safety_spread 80 _ _ _ rfl) rfl rfl
theorem c_Safety_spread {S : KS} (hS : KExt 382 S)   (M : KM) : ∀ q, f_Safety_spread  M = some q → Ctr y_Safety_spread Y_Safety_spread [VR (some 345), VR (some 2), VR (some 34)] S M (some (VI q.1)) S (q.2) := fun q hq =>
  ctr_of md_Safety_spread (Nat.le_of_ble_eq_true rfl) ⟨Nat.le_refl _, Nat.le_refl _⟩ 5 hq rfl (fun _ G => sim_Safety_spread hS   M)
set_option maxRecDepth 100000 in
theorem sim_X_lay {G : Gam} {S : KS} (hS : KExt 382 S)  (a0 : Int) (M : KM) : Sim G Y_X_lay (f_X_lay a0 M) (kC 0 [some (VR (some 0)), some (VI a0)] [] S M) (fun (q : KM) => Sum.inr (none, S, q)) := by
  unfold f_X_lay
  refine s_aload_n (dt_X_lay 0 _ _ _ rfl) rfl ?_
  refine s_getI (c := 0) (j := 16) (dt_X_lay 1 _ _ _ rfl) (kf_X_97) (sc_0 hS) rfl ?_
  refine s_aload_n (dt_X_lay 2 _ _ _ rfl) rfl ?_
  refine s_getR (c := 0) (j := 15) (o := (some 360)) (dt_X_lay 3 _ _ _ rfl) (kf_X_94) (sc_0 hS) rfl rfl ?_
  refine s_alen (N := 8) (dt_X_lay 4 _ _ _ rfl) (sc_360 hS) rfl rfl (by decide) ?_
  refine s_bd (κ := fun t3 => kC 34 [none, none] [] S t3) ?_ (fun t3 => ?_)
  · refine s_if_icmp_ge (tgt := 34) (dt_X_lay 5 _ _ _ rfl) rfl ?_ ?_
    · refine s_aload_n (dt_X_lay 6 _ _ _ rfl) rfl ?_
      refine s_getR (c := 0) (j := 15) (o := (some 360)) (dt_X_lay 7 _ _ _ rfl) (kf_X_94) (sc_0 hS) rfl rfl ?_
      refine s_aload_n (dt_X_lay 8 _ _ _ rfl) rfl ?_
      refine s_getI (c := 0) (j := 16) (dt_X_lay 9 _ _ _ rfl) (kf_X_97) (sc_0 hS) rfl ?_
      refine s_iload_n (dt_X_lay 10 _ _ _ rfl) rfl ?_
      refine s_inv (y := y_X_put) (Y' := Y_X_put) (as := [VR (some 360), VI (M 0 16), VI a0]) (r := none) (M' := (putM M 360 8 (M 0 16) a0)) (kInvS (dt_X_lay 11 _ _ _ rfl) kst_X_put rfl) kl_X_288 md_X_put rfl rfl (c_X_put hS ⟨(sc_360 hS), by decide⟩ (M 0 16) a0 M) ?_
      refine s_letM (fun M1 => ?_)
      refine s_aload_n (dt_X_lay 12 _ _ _ rfl) rfl ?_
      refine s_dup (dt_X_lay 13 _ _ _ rfl) rfl ?_
      refine s_getI (c := 0) (j := 16) (dt_X_lay 14 _ _ _ rfl) (kf_X_97) (sc_0 hS) rfl ?_
      refine s_iconst (dt_X_lay 15 _ _ _ rfl) rfl ?_
      refine s_iadd (dt_X_lay 16 _ _ _ rfl) ?_
      refine s_putI (c := 0) (j := 16) (dt_X_lay 17 _ _ _ rfl) kp_X_97 (sc_0 hS) ⟨rfl, rfl⟩ ?_
      refine s_letM (fun M2 => ?_)
      exact s_mask [false, false] (s_ret0 rfl)
    · exact s_mask [false, false] (s_ret0 rfl)
  exact s_vret (dt_X_lay 18 _ _ _ rfl) rfl rfl
theorem c_X_lay {S : KS} (hS : KExt 382 S)  (a0 : Int) (M : KM) : ∀ q, f_X_lay a0 M = some q → Ctr y_X_lay Y_X_lay [VR (some 0), VI a0] S M (none) S (q) := fun q hq =>
  ctr_of md_X_lay (Nat.le_of_ble_eq_true rfl) ⟨Nat.le_refl _, Nat.le_refl _⟩ 0 hq rfl (fun _ G => sim_X_lay hS  a0 M)
set_option maxRecDepth 100000 in
theorem sim_X_safest {G : Gam} {S : KS} (hS : KExt 382 S)   (M : KM) : Sim G Y_X_safest (f_X_safest  M) (kC 0 [some (VR (some 0)), none, none] [] S M) (fun (q : Int × KM) => Sum.inr (some (VI q.1), S, q.2)) := by
  unfold f_X_safest
  refine s_aload_n (dt_X_safest 0 _ _ _ rfl) rfl ?_
  refine s_getR (c := 0) (j := 2) (o := (some 2)) (dt_X_safest 1 _ _ _ rfl) (kf_X_20) (sc_0 hS) rfl rfl ?_
  refine s_getI (c := 12) (j := 12) (dt_X_safest 2 _ _ _ rfl) (kf_X_177) (sc_2 hS) rfl ?_
  refine s_letI (fun v1 => ?_)
  refine s_istore_n (dt_X_safest 3 _ _ _ rfl) rfl ?_
  refine s_bd (κ := (fun (e5 : KM) => kC 41 [some (VR (some 0)), none, none] [] S e5)) (s_mask [true, true, false] (s_while (c := fun s2 => kC 8 [some (VR (some 0)), some (VI s2.1), none] [] S s2.2) (fun s2 => ?_) (v1, M))) ?_
  · refine s_iload_n (dt_X_safest 4 _ _ _ rfl) rfl ?_
    refine s_aload_n (dt_X_safest 5 _ _ _ rfl) rfl ?_
    refine s_getR (c := 0) (j := 2) (o := (some 2)) (dt_X_safest 6 _ _ _ rfl) (kf_X_20) (sc_0 hS) rfl rfl ?_
    refine s_getI (c := 12) (j := 13) (dt_X_safest 7 _ _ _ rfl) (kf_X_180) (sc_2 hS) rfl ?_
    refine s_if_icmp_gt (tgt := 41) (dt_X_safest 8 _ _ _ rfl) rfl ?_ ?_
    · refine s_aload_n (dt_X_safest 9 _ _ _ rfl) rfl ?_
      refine s_getR (c := 0) (j := 12) (o := (some 345)) (dt_X_safest 10 _ _ _ rfl) (kf_X_76) (sc_0 hS) rfl rfl ?_
      refine s_getR (c := 9) (j := 0) (o := (some 346)) (dt_X_safest 11 _ _ _ rfl) (kf_X_341) (sc_345 hS) rfl rfl ?_
      refine s_iload_n (dt_X_safest 12 _ _ _ rfl) rfl ?_
      refine s_aload_n (dt_X_safest 13 _ _ _ rfl) rfl ?_
      refine s_iload_n (dt_X_safest 14 _ _ _ rfl) rfl ?_
      refine s_callO (y := y_X_oddsAt) (Y' := Y_X_oddsAt) (as := [VR (some 0), VI s2.1]) (r := fun q => some (VI q.1)) (M' := fun q => q.2) (kInvV (dt_X_safest 15 _ _ _ rfl) kin_X_oddsAt 0 rfl (sc_0 hS) kse_X_oddsAt rfl) kl_X_166 md_X_oddsAt rfl rfl (fun q hq => c_X_oddsAt hS s2.1 s2.2 q hq) (fun q3 => ?_)
      refine s_inv (y := y_X_put) (Y' := Y_X_put) (as := [VR (some 346), VI s2.1, VI q3.1]) (r := none) (M' := (putM q3.2 346 151 s2.1 q3.1)) (kInvS (dt_X_safest 16 _ _ _ rfl) kst_X_put rfl) kl_X_288 md_X_put rfl rfl (c_X_put hS ⟨(sc_346 hS), by decide⟩ s2.1 q3.1 q3.2) ?_
      refine s_letM (fun M4 => ?_)
      refine s_iinc (dt_X_safest 17 _ _ _ rfl) rfl rfl ?_
      refine s_goto (tgt := 8) (dt_X_safest 18 _ _ _ rfl) rfl ?_
      exact s_mask [true, true, false] (s_ret0 rfl)
    · exact s_mask [true, false, false] (s_ret0 rfl)
  intro e5
  refine s_aload_n (dt_X_safest 19 _ _ _ rfl) rfl ?_
  refine s_getR (c := 0) (j := 12) (o := (some 345)) (dt_X_safest 20 _ _ _ rfl) (kf_X_76) (sc_0 hS) rfl rfl ?_
  refine s_aload_n (dt_X_safest 21 _ _ _ rfl) rfl ?_
  refine s_getR (c := 0) (j := 2) (o := (some 2)) (dt_X_safest 22 _ _ _ rfl) (kf_X_20) (sc_0 hS) rfl rfl ?_
  refine s_aload_n (dt_X_safest 23 _ _ _ rfl) rfl ?_
  refine s_getR (c := 0) (j := 4) (o := (some 34)) (dt_X_safest 24 _ _ _ rfl) (kf_X_34) (sc_0 hS) rfl rfl ?_
  refine s_callO (y := y_Safety_spread) (Y' := Y_Safety_spread) (as := [VR (some 345), VR (some 2), VR (some 34)]) (r := fun q => some (VI q.1)) (M' := fun q => q.2) (kInvV (dt_X_safest 25 _ _ _ rfl) kin_Safety_spread 9 rfl (sc_345 hS) kse_Safety_spread rfl) kl_X_344 md_Safety_spread rfl rfl (fun q hq => c_Safety_spread hS e5 q hq) (fun q6 => ?_)
  refine s_istore_n (dt_X_safest 26 _ _ _ rfl) rfl ?_
  refine s_aload_n (dt_X_safest 27 _ _ _ rfl) rfl ?_
  refine s_iconst (dt_X_safest 28 _ _ _ rfl) rfl ?_
  refine s_putI (c := 0) (j := 16) (dt_X_safest 29 _ _ _ rfl) kp_X_97 (sc_0 hS) ⟨rfl, rfl⟩ ?_
  refine s_letM (fun M7 => ?_)
  refine s_iconst (dt_X_safest 30 _ _ _ rfl) rfl ?_
  refine s_istore_n (dt_X_safest 31 _ _ _ rfl) rfl ?_
  refine s_bd (κ := (fun (e12 : KM) => kC 108 [none, some (VI q6.1), none] [] S e12)) (s_mask [true, true, true] (s_while (c := fun s8 => kC 64 [some (VR (some 0)), some (VI q6.1), some (VI s8.1)] [] S s8.2) (fun s8 => ?_) ((0 : Int), M7))) ?_
  · refine s_iload_n (dt_X_safest 32 _ _ _ rfl) rfl ?_
    refine s_aload_n (dt_X_safest 33 _ _ _ rfl) rfl ?_
    refine s_getR (c := 0) (j := 2) (o := (some 2)) (dt_X_safest 34 _ _ _ rfl) (kf_X_20) (sc_0 hS) rfl rfl ?_
    refine s_getI (c := 12) (j := 0) (dt_X_safest 35 _ _ _ rfl) (kf_X_124) (sc_2 hS) rfl ?_
    refine s_if_icmp_ge (tgt := 108) (dt_X_safest 36 _ _ _ rfl) rfl ?_ ?_
    · refine s_aload_n (dt_X_safest 37 _ _ _ rfl) rfl ?_
      refine s_aload_n (dt_X_safest 38 _ _ _ rfl) rfl ?_
      refine s_iload_n (dt_X_safest 39 _ _ _ rfl) rfl ?_
      refine s_callO (y := y_X_isAlive) (Y' := Y_X_isAlive) (as := [VR (some 0), VI s8.1]) (r := fun q => some (VI q)) (M' := fun q => s8.2) (kInvV (dt_X_safest 40 _ _ _ rfl) kin_X_isAlive 0 rfl (sc_0 hS) kse_X_isAlive rfl) kl_X_147 md_X_isAlive rfl rfl (fun q hq => c_X_isAlive hS s8.1 s8.2 q hq) (fun q9 => ?_)
      refine s_bd (κ := fun t10 => kC 99 [some (VR (some 0)), some (VI q6.1), some (VI s8.1)] [VI t10, VR (some 0)] S s8.2) ?_ (fun t10 => ?_)
      · refine s_if_eq (tgt := 98) (dt_X_safest 41 _ _ _ rfl) rfl ?_ ?_
        · refine s_iconst (dt_X_safest 48 _ _ _ rfl) rfl ?_
          exact s_mask [true, true, true] (s_ret0 rfl)
        · refine s_aload_n (dt_X_safest 42 _ _ _ rfl) rfl ?_
          refine s_getR (c := 0) (j := 12) (o := (some 345)) (dt_X_safest 43 _ _ _ rfl) (kf_X_76) (sc_0 hS) rfl rfl ?_
          refine s_getR (c := 9) (j := 1) (o := (some 347)) (dt_X_safest 44 _ _ _ rfl) (kf_X_348) (sc_345 hS) rfl rfl ?_
          refine s_iload_n (dt_X_safest 45 _ _ _ rfl) rfl ?_
          refine s_inv (y := y_X_at) (Y' := Y_X_at) (as := [VR (some 347), VI s8.1]) (r := some (VI (atM s8.2 347 8 s8.1))) (M' := s8.2) (kInvS (dt_X_safest 46 _ _ _ rfl) kst_X_at rfl) kl_X_140 md_X_at rfl rfl (c_X_at hS ⟨(sc_347 hS), by decide⟩ s8.1 s8.2) ?_
          refine s_goto (tgt := 99) (dt_X_safest 47 _ _ _ rfl) rfl ?_
          exact s_mask [true, true, true] (s_ret0 rfl)
      refine s_callO (y := y_X_lay) (Y' := Y_X_lay) (as := [VR (some 0), VI t10]) (r := fun q => none) (M' := fun q => q) (kInvV (dt_X_safest 49 _ _ _ rfl) kin_X_lay 0 rfl (sc_0 hS) kse_X_lay rfl) kl_X_351 md_X_lay rfl rfl (fun q hq => c_X_lay hS t10 s8.2 q hq) (fun q11 => ?_)
      refine s_iinc (dt_X_safest 50 _ _ _ rfl) rfl rfl ?_
      refine s_goto (tgt := 64) (dt_X_safest 51 _ _ _ rfl) rfl ?_
      exact s_mask [true, true, true] (s_ret0 rfl)
    · exact s_mask [false, true, false] (s_ret0 rfl)
  intro e12
  refine s_iload_n (dt_X_safest 52 _ _ _ rfl) rfl ?_
  exact s_iret (dt_X_safest 53 _ _ _ rfl) rfl rfl
theorem c_X_safest {S : KS} (hS : KExt 382 S)   (M : KM) : ∀ q, f_X_safest  M = some q → Ctr y_X_safest Y_X_safest [VR (some 0)] S M (some (VI q.1)) S (q.2) := fun q hq =>
  ctr_of md_X_safest (Nat.le_of_ble_eq_true rfl) ⟨Nat.le_refl _, Nat.le_refl _⟩ 2 hq rfl (fun _ G => sim_X_safest hS   M)
set_option maxRecDepth 100000 in
theorem sim_X_bends {G : Gam} {S : KS} (hS : KExt 382 S)   (M : KM) : Sim G Y_X_bends (f_X_bends  M) (kC 0 [some (VR (some 0)), none] [] S M) (fun (q : Int × KM) => Sum.inr (some (VI q.1), S, q.2)) := by
  unfold f_X_bends
  refine s_aload_n (dt_X_bends 0 _ _ _ rfl) rfl ?_
  refine s_getR (c := 0) (j := 2) (o := (some 2)) (dt_X_bends 1 _ _ _ rfl) (kf_X_20) (sc_0 hS) rfl rfl ?_
  refine s_getI (c := 12) (j := 12) (dt_X_bends 2 _ _ _ rfl) (kf_X_177) (sc_2 hS) rfl ?_
  refine s_iconst (dt_X_bends 3 _ _ _ rfl) rfl ?_
  refine s_iadd (dt_X_bends 4 _ _ _ rfl) ?_
  refine s_letI (fun v1 => ?_)
  refine s_istore_n (dt_X_bends 5 _ _ _ rfl) rfl ?_
  refine s_bd (κ := (Sum.elim (fun (e6 : KM) => kC 46 [none, none] [] S e6) (fun (e7 : KM) => kC 54 [none, none] [] S e7))) (s_mask [true, true] (s_while (c := fun s2 => kC 10 [some (VR (some 0)), some (VI s2.1)] [] S s2.2) (fun s2 => ?_) (v1, M))) ?_
  · refine s_iload_n (dt_X_bends 6 _ _ _ rfl) rfl ?_
    refine s_aload_n (dt_X_bends 7 _ _ _ rfl) rfl ?_
    refine s_getR (c := 0) (j := 2) (o := (some 2)) (dt_X_bends 8 _ _ _ rfl) (kf_X_20) (sc_0 hS) rfl rfl ?_
    refine s_getI (c := 12) (j := 13) (dt_X_bends 9 _ _ _ rfl) (kf_X_180) (sc_2 hS) rfl ?_
    refine s_if_icmp_ge (tgt := 54) (dt_X_bends 10 _ _ _ rfl) rfl ?_ ?_
    · refine s_iconst (dt_X_bends 11 _ _ _ rfl) rfl ?_
      refine s_aload_n (dt_X_bends 12 _ _ _ rfl) rfl ?_
      refine s_iload_n (dt_X_bends 13 _ _ _ rfl) rfl ?_
      refine s_callO (y := y_X_oddsAt) (Y' := Y_X_oddsAt) (as := [VR (some 0), VI s2.1]) (r := fun q => some (VI q.1)) (M' := fun q => q.2) (kInvV (dt_X_bends 14 _ _ _ rfl) kin_X_oddsAt 0 rfl (sc_0 hS) kse_X_oddsAt rfl) kl_X_166 md_X_oddsAt rfl rfl (fun q hq => c_X_oddsAt hS s2.1 s2.2 q hq) (fun q3 => ?_)
      refine s_imul (dt_X_bends 15 _ _ _ rfl) ?_
      refine s_aload_n (dt_X_bends 16 _ _ _ rfl) rfl ?_
      refine s_iload_n (dt_X_bends 17 _ _ _ rfl) rfl ?_
      refine s_iconst (dt_X_bends 18 _ _ _ rfl) rfl ?_
      refine s_isub (dt_X_bends 19 _ _ _ rfl) ?_
      refine s_callO (y := y_X_oddsAt) (Y' := Y_X_oddsAt) (as := [VR (some 0), VI (w32 (s2.1 - (1 : Int)))]) (r := fun q => some (VI q.1)) (M' := fun q => q.2) (kInvV (dt_X_bends 20 _ _ _ rfl) kin_X_oddsAt 0 rfl (sc_0 hS) kse_X_oddsAt rfl) kl_X_166 md_X_oddsAt rfl rfl (fun q hq => c_X_oddsAt hS (w32 (s2.1 - (1 : Int))) q3.2 q hq) (fun q4 => ?_)
      refine s_aload_n (dt_X_bends 21 _ _ _ rfl) rfl ?_
      refine s_iload_n (dt_X_bends 22 _ _ _ rfl) rfl ?_
      refine s_iconst (dt_X_bends 23 _ _ _ rfl) rfl ?_
      refine s_iadd (dt_X_bends 24 _ _ _ rfl) ?_
      refine s_callO (y := y_X_oddsAt) (Y' := Y_X_oddsAt) (as := [VR (some 0), VI (w32 (s2.1 + (1 : Int)))]) (r := fun q => some (VI q.1)) (M' := fun q => q.2) (kInvV (dt_X_bends 25 _ _ _ rfl) kin_X_oddsAt 0 rfl (sc_0 hS) kse_X_oddsAt rfl) kl_X_166 md_X_oddsAt rfl rfl (fun q hq => c_X_oddsAt hS (w32 (s2.1 + (1 : Int))) q4.2 q hq) (fun q5 => ?_)
      refine s_iadd (dt_X_bends 26 _ _ _ rfl) ?_
      refine s_if_icmp_le (tgt := 48) (dt_X_bends 27 _ _ _ rfl) rfl ?_ ?_
      · refine s_iinc (dt_X_bends 30 _ _ _ rfl) rfl rfl ?_
        refine s_goto (tgt := 10) (dt_X_bends 31 _ _ _ rfl) rfl ?_
        exact s_mask [true, true] (s_ret0 rfl)
      · exact s_mask [false, false] (s_ret0 rfl)
    · exact s_mask [false, false] (s_ret0 rfl)
  refine s_elim (fun e6 => ?_) ?_
  · refine s_iconst (dt_X_bends 28 _ _ _ rfl) rfl ?_
    exact s_zret01 (dt_X_bends 29 _ _ _ rfl) rfl rfl rfl
  intro e7
  refine s_iconst (dt_X_bends 32 _ _ _ rfl) rfl ?_
  exact s_zret01 (dt_X_bends 33 _ _ _ rfl) rfl rfl rfl
theorem c_X_bends {S : KS} (hS : KExt 382 S)   (M : KM) : ∀ q, f_X_bends  M = some q → Ctr y_X_bends Y_X_bends [VR (some 0)] S M (some (VI q.1)) S (q.2) := fun q hq =>
  ctr_of md_X_bends (Nat.le_of_ble_eq_true rfl) ⟨Nat.le_refl _, Nat.le_refl _⟩ 1 hq rfl (fun _ G => sim_X_bends hS   M)
set_option maxRecDepth 100000 in
theorem sim_X_fewestToHave {G : Gam} {S : KS} (hS : KExt 382 S)  (a0 : Int) (a1 : Int) (a2 : Int) (M : KM) : Sim G Y_X_fewestToHave (f_X_fewestToHave a0 a1 a2 M) (kC 0 [some (VR (some 0)), some (VI a0), some (VI a1), some (VI a2), none, none] [] S M) (fun (q : Int × KM) => Sum.inr (some (VI q.1), S, q.2)) := by
  unfold f_X_fewestToHave
  refine s_aload_n (dt_X_fewestToHave 0 _ _ _ rfl) rfl ?_
  refine s_iload_n (dt_X_fewestToHave 1 _ _ _ rfl) rfl ?_
  refine s_callO (y := y_X_isAlive) (Y' := Y_X_isAlive) (as := [VR (some 0), VI a0]) (r := fun q => some (VI q)) (M' := fun q => M) (kInvV (dt_X_fewestToHave 2 _ _ _ rfl) kin_X_isAlive 0 rfl (sc_0 hS) kse_X_isAlive rfl) kl_X_147 md_X_isAlive rfl rfl (fun q hq => c_X_isAlive hS a0 M q hq) (fun q1 => ?_)
  refine s_if_eq (tgt := 17) (dt_X_fewestToHave 3 _ _ _ rfl) rfl ?_ ?_
  · refine s_iconst (dt_X_fewestToHave 9 _ _ _ rfl) rfl ?_
    exact s_iret (dt_X_fewestToHave 10 _ _ _ rfl) rfl rfl
  · refine s_aload_n (dt_X_fewestToHave 4 _ _ _ rfl) rfl ?_
    refine s_iload_n (dt_X_fewestToHave 5 _ _ _ rfl) rfl ?_
    refine s_iload_n (dt_X_fewestToHave 6 _ _ _ rfl) rfl ?_
    refine s_callO (y := y_X_hasNow) (Y' := Y_X_hasNow) (as := [VR (some 0), VI a0, VI a1]) (r := fun q => some (VI q.1)) (M' := fun q => q.2) (kInvV (dt_X_fewestToHave 7 _ _ _ rfl) kin_X_hasNow 0 rfl (sc_0 hS) kse_X_hasNow rfl) kl_X_159 md_X_hasNow rfl rfl (fun q hq => c_X_hasNow hS a0 a1 M q hq) (fun q2 => ?_)
    refine s_if_eq (tgt := 19) (dt_X_fewestToHave 8 _ _ _ rfl) rfl ?_ ?_
    · refine s_aload_n (dt_X_fewestToHave 11 _ _ _ rfl) rfl ?_
      refine s_getR (c := 0) (j := 4) (o := (some 34)) (dt_X_fewestToHave 12 _ _ _ rfl) (kf_X_34) (sc_0 hS) rfl rfl ?_
      refine s_getR (c := 10) (j := 0) (o := (some 35)) (dt_X_fewestToHave 13 _ _ _ rfl) (kf_X_137) (sc_34 hS) rfl rfl ?_
      refine s_iload_n (dt_X_fewestToHave 14 _ _ _ rfl) rfl ?_
      refine s_inv (y := y_X_at) (Y' := Y_X_at) (as := [VR (some 35), VI a0]) (r := some (VI (atM q2.2 35 8 a0))) (M' := q2.2) (kInvS (dt_X_fewestToHave 15 _ _ _ rfl) kst_X_at rfl) kl_X_140 md_X_at rfl rfl (c_X_at hS ⟨(sc_35 hS), by decide⟩ a0 q2.2) ?_
      refine s_letI (fun v3 => ?_)
      refine s_istore (dt_X_fewestToHave 16 _ _ _ rfl) rfl ?_
      refine s_iconst (dt_X_fewestToHave 17 _ _ _ rfl) rfl ?_
      refine s_istore (dt_X_fewestToHave 18 _ _ _ rfl) rfl ?_
      refine s_bd (κ := (Sum.elim (fun (e6 : Int × KM) => kC 70 [none, none, none, none, none, some (VI e6.1)] [] S e6.2) (fun (e7 : KM) => kC 79 [none, none, none, none, none, none] [] S e7))) (s_mask [true, true, true, true, true, true] (s_while (c := fun s4 => kC 35 [some (VR (some 0)), some (VI a0), some (VI a1), some (VI a2), some (VI v3), some (VI s4.1)] [] S s4.2) (fun s4 => ?_) ((1 : Int), q2.2))) ?_
      · refine s_iload (dt_X_fewestToHave 19 _ _ _ rfl) rfl ?_
        refine s_iload_n (dt_X_fewestToHave 20 _ _ _ rfl) rfl ?_
        refine s_if_icmp_gt (tgt := 79) (dt_X_fewestToHave 21 _ _ _ rfl) rfl ?_ ?_
        · refine s_iload (dt_X_fewestToHave 22 _ _ _ rfl) rfl ?_
          refine s_iload (dt_X_fewestToHave 23 _ _ _ rfl) rfl ?_
          refine s_iadd (dt_X_fewestToHave 24 _ _ _ rfl) ?_
          refine s_aload_n (dt_X_fewestToHave 25 _ _ _ rfl) rfl ?_
          refine s_getR (c := 0) (j := 2) (o := (some 2)) (dt_X_fewestToHave 26 _ _ _ rfl) (kf_X_20) (sc_0 hS) rfl rfl ?_
          refine s_getI (c := 12) (j := 13) (dt_X_fewestToHave 27 _ _ _ rfl) (kf_X_180) (sc_2 hS) rfl ?_
          refine s_if_icmp_gt (tgt := 79) (dt_X_fewestToHave 28 _ _ _ rfl) rfl ?_ ?_
          · refine s_aload_n (dt_X_fewestToHave 29 _ _ _ rfl) rfl ?_
            refine s_iload_n (dt_X_fewestToHave 30 _ _ _ rfl) rfl ?_
            refine s_iload_n (dt_X_fewestToHave 31 _ _ _ rfl) rfl ?_
            refine s_iload (dt_X_fewestToHave 32 _ _ _ rfl) rfl ?_
            refine s_iload (dt_X_fewestToHave 33 _ _ _ rfl) rfl ?_
            refine s_iadd (dt_X_fewestToHave 34 _ _ _ rfl) ?_
            refine s_callO (y := y_X_wouldHave) (Y' := Y_X_wouldHave) (as := [VR (some 0), VI a0, VI a1, VI (w32 (v3 + s4.1))]) (r := fun q => some (VI q.1)) (M' := fun q => q.2) (kInvV (dt_X_fewestToHave 35 _ _ _ rfl) kin_X_wouldHave 0 rfl (sc_0 hS) kse_X_wouldHave rfl) kl_X_189 md_X_wouldHave rfl rfl (fun q hq => c_X_wouldHave hS a0 a1 (w32 (v3 + s4.1)) s4.2 q hq) (fun q5 => ?_)
            refine s_if_eq (tgt := 73) (dt_X_fewestToHave 36 _ _ _ rfl) rfl ?_ ?_
            · refine s_iinc (dt_X_fewestToHave 39 _ _ _ rfl) rfl rfl ?_
              refine s_goto (tgt := 35) (dt_X_fewestToHave 40 _ _ _ rfl) rfl ?_
              exact s_mask [true, true, true, true, true, true] (s_ret0 rfl)
            · exact s_mask [false, false, false, false, false, true] (s_ret0 rfl)
          · exact s_mask [false, false, false, false, false, false] (s_ret0 rfl)
        · exact s_mask [false, false, false, false, false, false] (s_ret0 rfl)
      refine s_elim (fun e6 => ?_) ?_
      · refine s_iload (dt_X_fewestToHave 37 _ _ _ rfl) rfl ?_
        exact s_iret (dt_X_fewestToHave 38 _ _ _ rfl) rfl rfl
      intro e7
      refine s_iconst (dt_X_fewestToHave 41 _ _ _ rfl) rfl ?_
      exact s_iret (dt_X_fewestToHave 42 _ _ _ rfl) rfl rfl
    · refine s_iconst (dt_X_fewestToHave 9 _ _ _ rfl) rfl ?_
      exact s_iret (dt_X_fewestToHave 10 _ _ _ rfl) rfl rfl
theorem c_X_fewestToHave {S : KS} (hS : KExt 382 S)  (a0 : Int) (a1 : Int) (a2 : Int) (M : KM) : ∀ q, f_X_fewestToHave a0 a1 a2 M = some q → Ctr y_X_fewestToHave Y_X_fewestToHave [VR (some 0), VI a0, VI a1, VI a2] S M (some (VI q.1)) S (q.2) := fun q hq =>
  ctr_of md_X_fewestToHave (Nat.le_of_ble_eq_true rfl) ⟨Nat.le_refl _, Nat.le_refl _⟩ 2 hq rfl (fun _ G => sim_X_fewestToHave hS  a0 a1 a2 M)
set_option maxRecDepth 100000 in
theorem sim_X_twice {G : Gam} {S : KS} (hS : KExt 382 S)  (a0 : Int) (M : KM) : Sim G Y_X_twice (f_X_twice a0 M) (kC 0 [some (VR (some 0)), some (VI a0), none, none, none, none, none, none] [] S M) (fun (q : Int × KM) => Sum.inr (some (VI q.1), S, q.2)) := by
  unfold f_X_twice
  refine s_aload_n (dt_X_twice 0 _ _ _ rfl) rfl ?_
  refine s_iconst (dt_X_twice 1 _ _ _ rfl) rfl ?_
  refine s_putI (c := 0) (j := 16) (dt_X_twice 2 _ _ _ rfl) kp_X_97 (sc_0 hS) ⟨rfl, rfl⟩ ?_
  refine s_letM (fun M1 => ?_)
  refine s_aload_n (dt_X_twice 3 _ _ _ rfl) rfl ?_
  refine s_iload_n (dt_X_twice 4 _ _ _ rfl) rfl ?_
  refine s_callO (y := y_X_isRight) (Y' := Y_X_isRight) (as := [VR (some 0), VI a0]) (r := fun q => some (VI q)) (M' := fun q => M1) (kInvV (dt_X_twice 5 _ _ _ rfl) kin_X_isRight 0 rfl (sc_0 hS) kse_X_isRight rfl) kl_X_156 md_X_isRight rfl rfl (fun q hq => c_X_isRight hS a0 M1 q hq) (fun q2 => ?_)
  refine s_if_ne (tgt := 15) (dt_X_twice 6 _ _ _ rfl) rfl ?_ ?_
  · refine s_iconst (dt_X_twice 7 _ _ _ rfl) rfl ?_
    exact s_iret (dt_X_twice 8 _ _ _ rfl) rfl rfl
  · refine s_iconst (dt_X_twice 9 _ _ _ rfl) rfl ?_
    refine s_istore_n (dt_X_twice 10 _ _ _ rfl) rfl ?_
    refine s_iconst (dt_X_twice 11 _ _ _ rfl) rfl ?_
    refine s_istore_n (dt_X_twice 12 _ _ _ rfl) rfl ?_
    refine s_bd (κ := (fun (e15 : Int × KM) => kC 144 [none, none, some (VI e15.1), none, none, none, none, none] [] S e15.2)) (s_mask [true, true, true, true, false, false, false, false] (s_while (c := fun s3 => kC 19 [some (VR (some 0)), some (VI a0), some (VI s3.1), some (VI s3.2.1), none, none, none, none] [] S s3.2.2) (fun s3 => ?_) ((0 : Int), (0 : Int), M1))) ?_
    · refine s_iload_n (dt_X_twice 13 _ _ _ rfl) rfl ?_
      refine s_aload_n (dt_X_twice 14 _ _ _ rfl) rfl ?_
      refine s_getR (c := 0) (j := 2) (o := (some 2)) (dt_X_twice 15 _ _ _ rfl) (kf_X_20) (sc_0 hS) rfl rfl ?_
      refine s_getI (c := 12) (j := 5) (dt_X_twice 16 _ _ _ rfl) (kf_X_354) (sc_2 hS) rfl ?_
      refine s_if_icmp_ge (tgt := 144) (dt_X_twice 17 _ _ _ rfl) rfl ?_ ?_
      · refine s_aload_n (dt_X_twice 18 _ _ _ rfl) rfl ?_
        refine s_getR (c := 0) (j := 2) (o := (some 2)) (dt_X_twice 19 _ _ _ rfl) (kf_X_20) (sc_0 hS) rfl rfl ?_
        refine s_getR (c := 12) (j := 6) (o := (some 7)) (dt_X_twice 20 _ _ _ rfl) (kf_X_357) (sc_2 hS) rfl rfl ?_
        refine s_iload_n (dt_X_twice 21 _ _ _ rfl) rfl ?_
        refine s_inv (y := y_X_at) (Y' := Y_X_at) (as := [VR (some 7), VI s3.2.1]) (r := some (VI (atM s3.2.2 7 20 s3.2.1))) (M' := s3.2.2) (kInvS (dt_X_twice 22 _ _ _ rfl) kst_X_at rfl) kl_X_140 md_X_at rfl rfl (c_X_at hS ⟨(sc_7 hS), by decide⟩ s3.2.1 s3.2.2) ?_
        refine s_letI (fun v4 => ?_)
        refine s_istore (dt_X_twice 23 _ _ _ rfl) rfl ?_
        refine s_aload_n (dt_X_twice 24 _ _ _ rfl) rfl ?_
        refine s_getR (c := 0) (j := 2) (o := (some 2)) (dt_X_twice 25 _ _ _ rfl) (kf_X_20) (sc_0 hS) rfl rfl ?_
        refine s_getR (c := 12) (j := 7) (o := (some 8)) (dt_X_twice 26 _ _ _ rfl) (kf_X_360) (sc_2 hS) rfl rfl ?_
        refine s_iload_n (dt_X_twice 27 _ _ _ rfl) rfl ?_
        refine s_inv (y := y_X_at) (Y' := Y_X_at) (as := [VR (some 8), VI s3.2.1]) (r := some (VI (atM s3.2.2 8 20 s3.2.1))) (M' := s3.2.2) (kInvS (dt_X_twice 28 _ _ _ rfl) kst_X_at rfl) kl_X_140 md_X_at rfl rfl (c_X_at hS ⟨(sc_8 hS), by decide⟩ s3.2.1 s3.2.2) ?_
        refine s_letI (fun v5 => ?_)
        refine s_istore (dt_X_twice 29 _ _ _ rfl) rfl ?_
        refine s_bipush (dt_X_twice 30 _ _ _ rfl) rfl ?_
        refine s_aload_n (dt_X_twice 31 _ _ _ rfl) rfl ?_
        refine s_getR (c := 0) (j := 4) (o := (some 34)) (dt_X_twice 32 _ _ _ rfl) (kf_X_34) (sc_0 hS) rfl rfl ?_
        refine s_getR (c := 10) (j := 0) (o := (some 35)) (dt_X_twice 33 _ _ _ rfl) (kf_X_137) (sc_34 hS) rfl rfl ?_
        refine s_iload (dt_X_twice 34 _ _ _ rfl) rfl ?_
        refine s_inv (y := y_X_at) (Y' := Y_X_at) (as := [VR (some 35), VI v4]) (r := some (VI (atM s3.2.2 35 8 v4))) (M' := s3.2.2) (kInvS (dt_X_twice 35 _ _ _ rfl) kst_X_at rfl) kl_X_140 md_X_at rfl rfl (c_X_at hS ⟨(sc_35 hS), by decide⟩ v4 s3.2.2) ?_
        refine s_aload_n (dt_X_twice 36 _ _ _ rfl) rfl ?_
        refine s_getR (c := 0) (j := 2) (o := (some 2)) (dt_X_twice 37 _ _ _ rfl) (kf_X_20) (sc_0 hS) rfl rfl ?_
        refine s_getI (c := 12) (j := 12) (dt_X_twice 38 _ _ _ rfl) (kf_X_177) (sc_2 hS) rfl ?_
        refine s_isub (dt_X_twice 39 _ _ _ rfl) ?_
        refine s_mmin (dt_X_twice 40 _ _ _ rfl) kj_X_212 rfl ?_
        refine s_letI (fun v6 => ?_)
        refine s_istore (dt_X_twice 41 _ _ _ rfl) rfl ?_
        refine s_aload_n (dt_X_twice 42 _ _ _ rfl) rfl ?_
        refine s_iload (dt_X_twice 43 _ _ _ rfl) rfl ?_
        refine s_iload_n (dt_X_twice 44 _ _ _ rfl) rfl ?_
        refine s_callO (y := y_X_hasNow) (Y' := Y_X_hasNow) (as := [VR (some 0), VI v4, VI a0]) (r := fun q => some (VI q.1)) (M' := fun q => q.2) (kInvV (dt_X_twice 45 _ _ _ rfl) kin_X_hasNow 0 rfl (sc_0 hS) kse_X_hasNow rfl) kl_X_159 md_X_hasNow rfl rfl (fun q hq => c_X_hasNow hS v4 a0 s3.2.2 q hq) (fun q7 => ?_)
        refine s_bd (κ := fun t9 => kC 106 [some (VR (some 0)), some (VI a0), some (VI s3.1), some (VI s3.2.1), some (VI v4), some (VI v5), none, none] [VI t9.1] S t9.2) ?_ (fun t9 => ?_)
        · refine s_if_eq (tgt := 105) (dt_X_twice 46 _ _ _ rfl) rfl ?_ ?_
          · refine s_iconst (dt_X_twice 53 _ _ _ rfl) rfl ?_
            exact s_mask [true, true, true, true, true, true, false, false] (s_ret0 rfl)
          · refine s_aload_n (dt_X_twice 47 _ _ _ rfl) rfl ?_
            refine s_iload (dt_X_twice 48 _ _ _ rfl) rfl ?_
            refine s_iload_n (dt_X_twice 49 _ _ _ rfl) rfl ?_
            refine s_iload (dt_X_twice 50 _ _ _ rfl) rfl ?_
            refine s_callO (y := y_X_fewestToHave) (Y' := Y_X_fewestToHave) (as := [VR (some 0), VI v5, VI a0, VI v6]) (r := fun q => some (VI q.1)) (M' := fun q => q.2) (kInvV (dt_X_twice 51 _ _ _ rfl) kin_X_fewestToHave 0 rfl (sc_0 hS) kse_X_fewestToHave rfl) kl_X_363 md_X_fewestToHave rfl rfl (fun q hq => c_X_fewestToHave hS v5 a0 v6 q7.2 q hq) (fun q8 => ?_)
            refine s_goto (tgt := 106) (dt_X_twice 52 _ _ _ rfl) rfl ?_
            exact s_mask [true, true, true, true, true, true, false, false] (s_ret0 rfl)
        refine s_istore (dt_X_twice 54 _ _ _ rfl) rfl ?_
        refine s_iload (dt_X_twice 55 _ _ _ rfl) rfl ?_
        refine s_bd (κ := fun t14 => kC 138 [some (VR (some 0)), some (VI a0), some (VI t14.1), some (VI s3.2.1), none, none, none, none] [] S t14.2) ?_ (fun t14 => ?_)
        · refine s_if_le (tgt := 138) (dt_X_twice 56 _ _ _ rfl) rfl ?_ ?_
          · exact s_mask [true, true, true, true, false, false, false, false] (s_ret0 rfl)
          · refine s_iload_n (dt_X_twice 57 _ _ _ rfl) rfl ?_
            refine s_bd (κ := fun t13 => kC 135 [some (VR (some 0)), some (VI a0), some (VI s3.1), some (VI s3.2.1), none, none, none, none] [] S t13) ?_ (fun t13 => ?_)
            · refine s_if_ne (tgt := 135) (dt_X_twice 58 _ _ _ rfl) rfl ?_ ?_
              · refine s_aload_n (dt_X_twice 59 _ _ _ rfl) rfl ?_
                refine s_iload (dt_X_twice 60 _ _ _ rfl) rfl ?_
                refine s_callO (y := y_X_lay) (Y' := Y_X_lay) (as := [VR (some 0), VI v4]) (r := fun q => none) (M' := fun q => q) (kInvV (dt_X_twice 61 _ _ _ rfl) kin_X_lay 0 rfl (sc_0 hS) kse_X_lay rfl) kl_X_351 md_X_lay rfl rfl (fun q hq => c_X_lay hS v4 t9.2 q hq) (fun q10 => ?_)
                refine s_aload_n (dt_X_twice 62 _ _ _ rfl) rfl ?_
                refine s_iload (dt_X_twice 63 _ _ _ rfl) rfl ?_
                refine s_callO (y := y_X_lay) (Y' := Y_X_lay) (as := [VR (some 0), VI v5]) (r := fun q => none) (M' := fun q => q) (kInvV (dt_X_twice 64 _ _ _ rfl) kin_X_lay 0 rfl (sc_0 hS) kse_X_lay rfl) kl_X_351 md_X_lay rfl rfl (fun q hq => c_X_lay hS v5 q10 q hq) (fun q11 => ?_)
                refine s_aload_n (dt_X_twice 65 _ _ _ rfl) rfl ?_
                refine s_iload (dt_X_twice 66 _ _ _ rfl) rfl ?_
                refine s_callO (y := y_X_lay) (Y' := Y_X_lay) (as := [VR (some 0), VI t9.1]) (r := fun q => none) (M' := fun q => q) (kInvV (dt_X_twice 67 _ _ _ rfl) kin_X_lay 0 rfl (sc_0 hS) kse_X_lay rfl) kl_X_351 md_X_lay rfl rfl (fun q hq => c_X_lay hS t9.1 q11 q hq) (fun q12 => ?_)
                exact s_mask [true, true, true, true, false, false, false, false] (s_ret0 rfl)
              · exact s_mask [true, true, true, true, false, false, false, false] (s_ret0 rfl)
            refine s_iinc (dt_X_twice 68 _ _ _ rfl) rfl rfl ?_
            exact s_mask [true, true, true, true, false, false, false, false] (s_ret0 rfl)
        refine s_iinc (dt_X_twice 69 _ _ _ rfl) rfl rfl ?_
        refine s_goto (tgt := 19) (dt_X_twice 70 _ _ _ rfl) rfl ?_
        exact s_mask [true, true, true, true, false, false, false, false] (s_ret0 rfl)
      · exact s_mask [false, false, true, false, false, false, false, false] (s_ret0 rfl)
    intro e15
    refine s_iload_n (dt_X_twice 71 _ _ _ rfl) rfl ?_
    exact s_iret (dt_X_twice 72 _ _ _ rfl) rfl rfl
theorem c_X_twice {S : KS} (hS : KExt 382 S)  (a0 : Int) (M : KM) : ∀ q, f_X_twice a0 M = some q → Ctr y_X_twice Y_X_twice [VR (some 0), VI a0] S M (some (VI q.1)) S (q.2) := fun q hq =>
  ctr_of md_X_twice (Nat.le_of_ble_eq_true rfl) ⟨Nat.le_refl _, Nat.le_refl _⟩ 6 hq rfl (fun _ G => sim_X_twice hS  a0 M)
set_option maxRecDepth 100000 in
theorem sim_X_familyAlive {G : Gam} {S : KS} (hS : KExt 382 S)  (a0 : Int) (M : KM) : Sim G Y_X_familyAlive (f_X_familyAlive a0 M) (kC 0 [some (VR (some 0)), some (VI a0), none, none] [] S M) (fun (q : Int) => Sum.inr (some (VI q), S, M)) := by
  unfold f_X_familyAlive
  refine s_iconst (dt_X_familyAlive 0 _ _ _ rfl) rfl ?_
  refine s_istore_n (dt_X_familyAlive 1 _ _ _ rfl) rfl ?_
  refine s_iconst (dt_X_familyAlive 2 _ _ _ rfl) rfl ?_
  refine s_istore_n (dt_X_familyAlive 3 _ _ _ rfl) rfl ?_
  refine s_bd (κ := (fun (e5 : Int) => kC 50 [none, none, some (VI e5), none] [] S M)) (s_mask [true, true, true, true] (s_while (c := fun s1 => kC 4 [some (VR (some 0)), some (VI a0), some (VI s1.1), some (VI s1.2)] [] S M) (fun s1 => ?_) ((0 : Int), (0 : Int)))) ?_
  · refine s_iload_n (dt_X_familyAlive 4 _ _ _ rfl) rfl ?_
    refine s_aload_n (dt_X_familyAlive 5 _ _ _ rfl) rfl ?_
    refine s_getR (c := 0) (j := 2) (o := (some 2)) (dt_X_familyAlive 6 _ _ _ rfl) (kf_X_20) (sc_0 hS) rfl rfl ?_
    refine s_getI (c := 12) (j := 0) (dt_X_familyAlive 7 _ _ _ rfl) (kf_X_124) (sc_2 hS) rfl ?_
    refine s_if_icmp_ge (tgt := 50) (dt_X_familyAlive 8 _ _ _ rfl) rfl ?_ ?_
    · refine s_aload_n (dt_X_familyAlive 9 _ _ _ rfl) rfl ?_
      refine s_iload_n (dt_X_familyAlive 10 _ _ _ rfl) rfl ?_
      refine s_callO (y := y_X_isAlive) (Y' := Y_X_isAlive) (as := [VR (some 0), VI s1.2]) (r := fun q => some (VI q)) (M' := fun q => M) (kInvV (dt_X_familyAlive 11 _ _ _ rfl) kin_X_isAlive 0 rfl (sc_0 hS) kse_X_isAlive rfl) kl_X_147 md_X_isAlive rfl rfl (fun q hq => c_X_isAlive hS s1.2 M q hq) (fun q2 => ?_)
      refine s_bd (κ := fun t4 => kC 44 [some (VR (some 0)), some (VI a0), some (VI t4), some (VI s1.2)] [] S M) ?_ (fun t4 => ?_)
      · refine s_if_eq (tgt := 44) (dt_X_familyAlive 12 _ _ _ rfl) rfl ?_ ?_
        · exact s_mask [true, true, true, true] (s_ret0 rfl)
        · refine s_aload_n (dt_X_familyAlive 13 _ _ _ rfl) rfl ?_
          refine s_getR (c := 0) (j := 2) (o := (some 2)) (dt_X_familyAlive 14 _ _ _ rfl) (kf_X_20) (sc_0 hS) rfl rfl ?_
          refine s_getR (c := 12) (j := 4) (o := (some 6)) (dt_X_familyAlive 15 _ _ _ rfl) (kf_X_153) (sc_2 hS) rfl rfl ?_
          refine s_iload_n (dt_X_familyAlive 16 _ _ _ rfl) rfl ?_
          refine s_inv (y := y_X_at) (Y' := Y_X_at) (as := [VR (some 6), VI s1.2]) (r := some (VI (atM M 6 8 s1.2))) (M' := M) (kInvS (dt_X_familyAlive 17 _ _ _ rfl) kst_X_at rfl) kl_X_140 md_X_at rfl rfl (c_X_at hS ⟨(sc_6 hS), by decide⟩ s1.2 M) ?_
          refine s_iload_n (dt_X_familyAlive 18 _ _ _ rfl) rfl ?_
          refine s_if_icmp_ne (tgt := 44) (dt_X_familyAlive 19 _ _ _ rfl) rfl ?_ ?_
          · refine s_iload_n (dt_X_familyAlive 20 _ _ _ rfl) rfl ?_
            refine s_iconst (dt_X_familyAlive 21 _ _ _ rfl) rfl ?_
            refine s_iload_n (dt_X_familyAlive 22 _ _ _ rfl) rfl ?_
            refine s_ishl (dt_X_familyAlive 23 _ _ _ rfl) ?_
            refine s_ior (dt_X_familyAlive 24 _ _ _ rfl) ?_
            refine s_letI (fun v3 => ?_)
            refine s_istore_n (dt_X_familyAlive 25 _ _ _ rfl) rfl ?_
            exact s_mask [true, true, true, true] (s_ret0 rfl)
          · exact s_mask [true, true, true, true] (s_ret0 rfl)
      refine s_iinc (dt_X_familyAlive 26 _ _ _ rfl) rfl rfl ?_
      refine s_goto (tgt := 4) (dt_X_familyAlive 27 _ _ _ rfl) rfl ?_
      exact s_mask [true, true, true, true] (s_ret0 rfl)
    · exact s_mask [false, false, true, false] (s_ret0 rfl)
  intro e5
  refine s_iload_n (dt_X_familyAlive 28 _ _ _ rfl) rfl ?_
  exact s_iret (dt_X_familyAlive 29 _ _ _ rfl) rfl rfl
theorem c_X_familyAlive {S : KS} (hS : KExt 382 S)  (a0 : Int) (M : KM) : ∀ q, f_X_familyAlive a0 M = some q → Ctr y_X_familyAlive Y_X_familyAlive [VR (some 0), VI a0] S M (some (VI q)) S (M) := fun q hq =>
  ctr_of md_X_familyAlive (Nat.le_of_ble_eq_true rfl) ⟨Nat.le_refl _, Nat.le_refl _⟩ 2 hq rfl (fun _ G => sim_X_familyAlive hS  a0 M)
set_option maxRecDepth 100000 in
theorem sim_X_olderThan {G : Gam} {S : KS} (hS : KExt 382 S)  (a0 : Int) (a1 : Int) (M : KM) : Sim G Y_X_olderThan (f_X_olderThan a0 a1 M) (kC 0 [some (VR (some 0)), some (VI a0), some (VI a1), none, none, none] [] S M) (fun (q : Int) => Sum.inr (some (VI q), S, M)) := by
  unfold f_X_olderThan
  refine s_iconst (dt_X_olderThan 0 _ _ _ rfl) rfl ?_
  refine s_istore_n (dt_X_olderThan 1 _ _ _ rfl) rfl ?_
  refine s_iconst (dt_X_olderThan 2 _ _ _ rfl) rfl ?_
  refine s_istore (dt_X_olderThan 3 _ _ _ rfl) rfl ?_
  refine s_bd (κ := (fun (e4 : Int) => kC 77 [none, none, none, some (VI e4), none, none] [] S M)) (s_mask [true, true, true, true, true, false] (s_while (c := fun s1 => kC 5 [some (VR (some 0)), some (VI a0), some (VI a1), some (VI s1.1), some (VI s1.2), none] [] S M) (fun s1 => ?_) ((0 : Int), (0 : Int)))) ?_
  · refine s_iload (dt_X_olderThan 4 _ _ _ rfl) rfl ?_
    refine s_aload_n (dt_X_olderThan 5 _ _ _ rfl) rfl ?_
    refine s_getR (c := 0) (j := 2) (o := (some 2)) (dt_X_olderThan 6 _ _ _ rfl) (kf_X_20) (sc_0 hS) rfl rfl ?_
    refine s_getI (c := 12) (j := 0) (dt_X_olderThan 7 _ _ _ rfl) (kf_X_124) (sc_2 hS) rfl ?_
    refine s_if_icmp_ge (tgt := 77) (dt_X_olderThan 8 _ _ _ rfl) rfl ?_ ?_
    · refine s_aload_n (dt_X_olderThan 9 _ _ _ rfl) rfl ?_
      refine s_getR (c := 0) (j := 4) (o := (some 34)) (dt_X_olderThan 10 _ _ _ rfl) (kf_X_34) (sc_0 hS) rfl rfl ?_
      refine s_getR (c := 10) (j := 0) (o := (some 35)) (dt_X_olderThan 11 _ _ _ rfl) (kf_X_137) (sc_34 hS) rfl rfl ?_
      refine s_iload (dt_X_olderThan 12 _ _ _ rfl) rfl ?_
      refine s_inv (y := y_X_at) (Y' := Y_X_at) (as := [VR (some 35), VI s1.2]) (r := some (VI (atM M 35 8 s1.2))) (M' := M) (kInvS (dt_X_olderThan 13 _ _ _ rfl) kst_X_at rfl) kl_X_140 md_X_at rfl rfl (c_X_at hS ⟨(sc_35 hS), by decide⟩ s1.2 M) ?_
      refine s_aload_n (dt_X_olderThan 14 _ _ _ rfl) rfl ?_
      refine s_getR (c := 0) (j := 4) (o := (some 34)) (dt_X_olderThan 15 _ _ _ rfl) (kf_X_34) (sc_0 hS) rfl rfl ?_
      refine s_getR (c := 10) (j := 0) (o := (some 35)) (dt_X_olderThan 16 _ _ _ rfl) (kf_X_137) (sc_34 hS) rfl rfl ?_
      refine s_iload_n (dt_X_olderThan 17 _ _ _ rfl) rfl ?_
      refine s_inv (y := y_X_at) (Y' := Y_X_at) (as := [VR (some 35), VI a0]) (r := some (VI (atM M 35 8 a0))) (M' := M) (kInvS (dt_X_olderThan 18 _ _ _ rfl) kst_X_at rfl) kl_X_140 md_X_at rfl rfl (c_X_at hS ⟨(sc_35 hS), by decide⟩ a0 M) ?_
      refine s_isub (dt_X_olderThan 19 _ _ _ rfl) ?_
      refine s_letI (fun v2 => ?_)
      refine s_istore (dt_X_olderThan 20 _ _ _ rfl) rfl ?_
      refine s_iload_n (dt_X_olderThan 21 _ _ _ rfl) rfl ?_
      refine s_iload (dt_X_olderThan 22 _ _ _ rfl) rfl ?_
      refine s_inv (y := y_X_isIn) (Y' := Y_X_isIn) (as := [VI a1, VI s1.2]) (r := some (VI (isInV a1 s1.2))) (M' := M) (kInvS (dt_X_olderThan 23 _ _ _ rfl) kst_X_isIn rfl) kl_X_186 md_X_isIn rfl rfl (c_X_isIn hS a1 s1.2 M) ?_
      refine s_bd (κ := fun t3 => kC 71 [some (VR (some 0)), some (VI a0), some (VI a1), some (VI t3), some (VI s1.2), none] [] S M) ?_ (fun t3 => ?_)
      · refine s_if_eq (tgt := 71) (dt_X_olderThan 24 _ _ _ rfl) rfl ?_ ?_
        · exact s_mask [true, true, true, true, true, false] (s_ret0 rfl)
        · refine s_iload (dt_X_olderThan 25 _ _ _ rfl) rfl ?_
          refine s_if_gt (tgt := 68) (dt_X_olderThan 26 _ _ _ rfl) rfl ?_ ?_
          · refine s_iload (dt_X_olderThan 27 _ _ _ rfl) rfl ?_
            refine s_if_ne (tgt := 71) (dt_X_olderThan 28 _ _ _ rfl) rfl ?_ ?_
            · refine s_iload (dt_X_olderThan 29 _ _ _ rfl) rfl ?_
              refine s_iload_n (dt_X_olderThan 30 _ _ _ rfl) rfl ?_
              refine s_if_icmp_ge (tgt := 71) (dt_X_olderThan 31 _ _ _ rfl) rfl ?_ ?_
              · refine s_iinc (dt_X_olderThan 32 _ _ _ rfl) rfl rfl ?_
                exact s_mask [true, true, true, true, true, false] (s_ret0 rfl)
              · exact s_mask [true, true, true, true, true, false] (s_ret0 rfl)
            · exact s_mask [true, true, true, true, true, false] (s_ret0 rfl)
          · refine s_iinc (dt_X_olderThan 32 _ _ _ rfl) rfl rfl ?_
            exact s_mask [true, true, true, true, true, false] (s_ret0 rfl)
      refine s_iinc (dt_X_olderThan 33 _ _ _ rfl) rfl rfl ?_
      refine s_goto (tgt := 5) (dt_X_olderThan 34 _ _ _ rfl) rfl ?_
      exact s_mask [true, true, true, true, true, false] (s_ret0 rfl)
    · exact s_mask [false, false, false, true, false, false] (s_ret0 rfl)
  intro e4
  refine s_iload_n (dt_X_olderThan 35 _ _ _ rfl) rfl ?_
  exact s_iret (dt_X_olderThan 36 _ _ _ rfl) rfl rfl
theorem c_X_olderThan {S : KS} (hS : KExt 382 S)  (a0 : Int) (a1 : Int) (M : KM) : ∀ q, f_X_olderThan a0 a1 M = some q → Ctr y_X_olderThan Y_X_olderThan [VR (some 0), VI a0, VI a1] S M (some (VI q)) S (M) := fun q hq =>
  ctr_of md_X_olderThan (Nat.le_of_ble_eq_true rfl) ⟨Nat.le_refl _, Nat.le_refl _⟩ 3 hq rfl (fun _ G => sim_X_olderThan hS  a0 a1 M)
