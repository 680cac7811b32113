set_option maxRecDepth 100000 in
theorem sim_M_canLeave {G : Gam} {S : KS} (hS : KExt 435 S)  (a0 : Int) (M : KM) : Sim G Y_M_canLeave (f_M_canLeave a0 M) (kC 0 [some (VR (some 382)), some (VI a0), none, none] [] S M) (fun (q : Int) => Sum.inr (some (VI q), S, M)) := by
  unfold f_M_canLeave
  refine s_iconst (dt_M_canLeave 0 _ _ _ rfl) rfl ?_
  refine s_istore_n (dt_M_canLeave 1 _ _ _ rfl) rfl ?_
  refine s_iconst (dt_M_canLeave 2 _ _ _ rfl) rfl ?_
  refine s_istore_n (dt_M_canLeave 3 _ _ _ rfl) rfl ?_
  refine s_bd (κ := (fun (e6 : Int) => kC 69 [none, none, some (VI e6), none] [] S M)) (s_mask [true, true, true, true] (s_while (c := fun s1 => kC 4 [some (VR (some 382)), some (VI a0), some (VI s1.1), some (VI s1.2)] [] S M) (fun s1 => ?_) ((0 : Int), (0 : Int)))) ?_
  · refine s_iload_n (dt_M_canLeave 4 _ _ _ rfl) rfl ?_
    refine s_aload_n (dt_M_canLeave 5 _ _ _ rfl) rfl ?_
    refine s_callO (y := y_M_many) (Y' := Y_M_many) (as := [VR (some 382)]) (r := fun q => some (VI q)) (M' := fun q => M) (kInvV (dt_M_canLeave 6 _ _ _ rfl) kin_M_many 1 rfl (sc_382 hS) kse_M_many rfl) kl_M_385 md_M_many rfl rfl (fun q hq => c_M_many hS M q hq) (fun q2 => ?_)
    refine s_if_icmp_ge (tgt := 69) (dt_M_canLeave 7 _ _ _ rfl) rfl ?_ ?_
    · refine s_iload_n (dt_M_canLeave 8 _ _ _ rfl) rfl ?_
      refine s_iload_n (dt_M_canLeave 9 _ _ _ rfl) rfl ?_
      refine s_bd (κ := fun t5 => kC 63 [some (VR (some 382)), some (VI a0), some (VI t5), some (VI s1.2)] [] S M) ?_ (fun t5 => ?_)
      · refine s_if_icmp_eq (tgt := 63) (dt_M_canLeave 10 _ _ _ rfl) rfl ?_ ?_
        · exact s_mask [true, true, true, true] (s_ret0 rfl)
        · refine s_aload_n (dt_M_canLeave 11 _ _ _ rfl) rfl ?_
          refine s_iload_n (dt_M_canLeave 12 _ _ _ rfl) rfl ?_
          refine s_callO (y := y_M_isAlive) (Y' := Y_M_isAlive) (as := [VR (some 382), VI s1.2]) (r := fun q => some (VI q)) (M' := fun q => M) (kInvV (dt_M_canLeave 13 _ _ _ rfl) kin_M_isAlive 1 rfl (sc_382 hS) kse_M_isAlive rfl) kl_M_404 md_M_isAlive rfl rfl (fun q hq => c_M_isAlive hS s1.2 M q hq) (fun q3 => ?_)
          refine s_if_eq (tgt := 63) (dt_M_canLeave 14 _ _ _ rfl) rfl ?_ ?_
          · exact s_mask [true, true, true, true] (s_ret0 rfl)
          · refine s_aload_n (dt_M_canLeave 15 _ _ _ rfl) rfl ?_
            refine s_getR (c := 1) (j := 50) (o := (some 413)) (dt_M_canLeave 16 _ _ _ rfl) (kf_M_107) (sc_382 hS) rfl rfl ?_
            refine s_bipush (dt_M_canLeave 17 _ _ _ rfl) rfl ?_
            refine s_iload_n (dt_M_canLeave 18 _ _ _ rfl) rfl ?_
            refine s_imul (dt_M_canLeave 19 _ _ _ rfl) ?_
            refine s_iload_n (dt_M_canLeave 20 _ _ _ rfl) rfl ?_
            refine s_iadd (dt_M_canLeave 21 _ _ _ rfl) ?_
            refine s_iald (N := 64) (dt_M_canLeave 22 _ _ _ rfl) (sc_413 hS) rfl ?_
            refine s_ldcw (n := (100000000 : Int)) (kc_M_451) (dt_M_canLeave 23 _ _ _ rfl) rfl ?_
            refine s_if_icmp_ge (tgt := 63) (dt_M_canLeave 24 _ _ _ rfl) rfl ?_ ?_
            · refine s_iload_n (dt_M_canLeave 25 _ _ _ rfl) rfl ?_
              refine s_aload_n (dt_M_canLeave 26 _ _ _ rfl) rfl ?_
              refine s_getR (c := 1) (j := 17) (o := (some 391)) (dt_M_canLeave 27 _ _ _ rfl) (kf_M_39) (sc_382 hS) rfl rfl ?_
              refine s_aload_n (dt_M_canLeave 28 _ _ _ rfl) rfl ?_
              refine s_getI (c := 1) (j := 37) (dt_M_canLeave 29 _ _ _ rfl) (kf_M_288) (sc_382 hS) rfl ?_
              refine s_iald (N := 2) (dt_M_canLeave 30 _ _ _ rfl) (sc_391 hS) rfl ?_
              refine s_aload_n (dt_M_canLeave 31 _ _ _ rfl) rfl ?_
              refine s_getR (c := 1) (j := 46) (o := (some 411)) (dt_M_canLeave 32 _ _ _ rfl) (kf_M_101) (sc_382 hS) rfl rfl ?_
              refine s_iconst (dt_M_canLeave 33 _ _ _ rfl) rfl ?_
              refine s_iload_n (dt_M_canLeave 34 _ _ _ rfl) rfl ?_
              refine s_iadd (dt_M_canLeave 35 _ _ _ rfl) ?_
              refine s_iald (N := 171) (dt_M_canLeave 36 _ _ _ rfl) (sc_411 hS) rfl ?_
              refine s_isub (dt_M_canLeave 37 _ _ _ rfl) ?_
              refine s_iadd (dt_M_canLeave 38 _ _ _ rfl) ?_
              refine s_letI (fun v4 => ?_)
              refine s_istore_n (dt_M_canLeave 39 _ _ _ rfl) rfl ?_
              exact s_mask [true, true, true, true] (s_ret0 rfl)
            · exact s_mask [true, true, true, true] (s_ret0 rfl)
      refine s_iinc (dt_M_canLeave 40 _ _ _ rfl) rfl rfl ?_
      refine s_goto (tgt := 4) (dt_M_canLeave 41 _ _ _ rfl) rfl ?_
      exact s_mask [true, true, true, true] (s_ret0 rfl)
    · exact s_mask [false, false, true, false] (s_ret0 rfl)
  intro e6
  refine s_iload_n (dt_M_canLeave 42 _ _ _ rfl) rfl ?_
  exact s_iret (dt_M_canLeave 43 _ _ _ rfl) rfl rfl
theorem c_M_canLeave {S : KS} (hS : KExt 435 S)  (a0 : Int) (M : KM) : ∀ q, f_M_canLeave a0 M = some q → Ctr y_M_canLeave Y_M_canLeave [VR (some 382), VI a0] S M (some (VI q)) S (M) := fun q hq =>
  ctr_of md_M_canLeave (Nat.le_of_ble_eq_true rfl) ⟨Nat.le_refl _, Nat.le_refl _⟩ 2 hq rfl (fun _ G => sim_M_canLeave hS  a0 M)
set_option maxRecDepth 100000 in
theorem sim_M_barred {G : Gam} {S : KS} (hS : KExt 435 S)   (M : KM) : Sim G Y_M_barred (f_M_barred  M) (kC 0 [some (VR (some 382)), none, none, none] [] S M) (fun (q : Int × KM) => Sum.inr (some (VI q.1), S, q.2)) := by
  unfold f_M_barred
  refine s_aload_n (dt_M_barred 0 _ _ _ rfl) rfl ?_
  refine s_callO (y := y_M_layRoads) (Y' := Y_M_layRoads) (as := [VR (some 382)]) (r := fun q => none) (M' := fun q => q) (kInvV (dt_M_barred 1 _ _ _ rfl) kin_M_layRoads 1 rfl (sc_382 hS) kse_M_layRoads rfl) kl_M_458 md_M_layRoads rfl rfl (fun q hq => c_M_layRoads hS M q hq) (fun q1 => ?_)
  refine s_iconst (dt_M_barred 2 _ _ _ rfl) rfl ?_
  refine s_istore_n (dt_M_barred 3 _ _ _ rfl) rfl ?_
  refine s_iconst (dt_M_barred 4 _ _ _ rfl) rfl ?_
  refine s_istore_n (dt_M_barred 5 _ _ _ rfl) rfl ?_
  refine s_bd (κ := (fun (e12 : Int) => kC 61 [none, some (VI e12), none, none] [] S q1)) (s_mask [true, true, true, false] (s_while (c := fun s2 => kC 8 [some (VR (some 382)), some (VI s2.1), some (VI s2.2), none] [] S q1) (fun s2 => ?_) ((0 : Int), (0 : Int)))) ?_
  · refine s_iload_n (dt_M_barred 6 _ _ _ rfl) rfl ?_
    refine s_aload_n (dt_M_barred 7 _ _ _ rfl) rfl ?_
    refine s_callO (y := y_M_many) (Y' := Y_M_many) (as := [VR (some 382)]) (r := fun q => some (VI q)) (M' := fun q => q1) (kInvV (dt_M_barred 8 _ _ _ rfl) kin_M_many 1 rfl (sc_382 hS) kse_M_many rfl) kl_M_385 md_M_many rfl rfl (fun q hq => c_M_many hS q1 q hq) (fun q3 => ?_)
    refine s_if_icmp_ge (tgt := 61) (dt_M_barred 9 _ _ _ rfl) rfl ?_ ?_
    · refine s_aload_n (dt_M_barred 10 _ _ _ rfl) rfl ?_
      refine s_iload_n (dt_M_barred 11 _ _ _ rfl) rfl ?_
      refine s_callO (y := y_M_missing) (Y' := Y_M_missing) (as := [VR (some 382), VI s2.2]) (r := fun q => some (VI q)) (M' := fun q => q1) (kInvV (dt_M_barred 12 _ _ _ rfl) kin_M_missing 1 rfl (sc_382 hS) kse_M_missing rfl) kl_M_455 md_M_missing rfl rfl (fun q hq => c_M_missing hS s2.2 q1 q hq) (fun q4 => ?_)
      refine s_istore_n (dt_M_barred 13 _ _ _ rfl) rfl ?_
      refine s_iload_n (dt_M_barred 14 _ _ _ rfl) rfl ?_
      refine s_bd (κ := fun t11 => kC 55 [some (VR (some 382)), some (VI t11), some (VI s2.2), none] [] S q1) ?_ (fun t11 => ?_)
      · refine s_if_le (tgt := 35) (dt_M_barred 15 _ _ _ rfl) rfl ?_ ?_
        · refine s_iload_n (dt_M_barred 21 _ _ _ rfl) rfl ?_
          refine s_if_ge (tgt := 55) (dt_M_barred 22 _ _ _ rfl) rfl ?_ ?_
          · refine s_aload_n (dt_M_barred 23 _ _ _ rfl) rfl ?_
            refine s_iload_n (dt_M_barred 24 _ _ _ rfl) rfl ?_
            refine s_callO (y := y_M_canLeave) (Y' := Y_M_canLeave) (as := [VR (some 382), VI s2.2]) (r := fun q => some (VI q)) (M' := fun q => q1) (kInvV (dt_M_barred 25 _ _ _ rfl) kin_M_canLeave 1 rfl (sc_382 hS) kse_M_canLeave rfl) kl_M_470 md_M_canLeave rfl rfl (fun q hq => c_M_canLeave hS s2.2 q1 q hq) (fun q5 => ?_)
            refine s_iload_n (dt_M_barred 26 _ _ _ rfl) rfl ?_
            refine s_ineg (dt_M_barred 27 _ _ _ rfl) ?_
            refine s_if_icmp_ge (tgt := 55) (dt_M_barred 28 _ _ _ rfl) rfl ?_ ?_
            · refine s_iload_n (dt_M_barred 29 _ _ _ rfl) rfl ?_
              refine s_iconst (dt_M_barred 30 _ _ _ rfl) rfl ?_
              refine s_iload_n (dt_M_barred 31 _ _ _ rfl) rfl ?_
              refine s_ishl (dt_M_barred 32 _ _ _ rfl) ?_
              refine s_ior (dt_M_barred 33 _ _ _ rfl) ?_
              refine s_letI (fun v6 => ?_)
              refine s_istore_n (dt_M_barred 34 _ _ _ rfl) rfl ?_
              exact s_mask [true, true, true, false] (s_ret0 rfl)
            · exact s_mask [true, true, true, false] (s_ret0 rfl)
          · exact s_mask [true, true, true, false] (s_ret0 rfl)
        · refine s_aload_n (dt_M_barred 16 _ _ _ rfl) rfl ?_
          refine s_iload_n (dt_M_barred 17 _ _ _ rfl) rfl ?_
          refine s_callO (y := y_M_canCome) (Y' := Y_M_canCome) (as := [VR (some 382), VI s2.2]) (r := fun q => some (VI q)) (M' := fun q => q1) (kInvV (dt_M_barred 18 _ _ _ rfl) kin_M_canCome 1 rfl (sc_382 hS) kse_M_canCome rfl) kl_M_467 md_M_canCome rfl rfl (fun q hq => c_M_canCome hS s2.2 q1 q hq) (fun q7 => ?_)
          refine s_iload_n (dt_M_barred 19 _ _ _ rfl) rfl ?_
          refine s_if_icmp_lt (tgt := 49) (dt_M_barred 20 _ _ _ rfl) rfl ?_ ?_
          · refine s_iload_n (dt_M_barred 29 _ _ _ rfl) rfl ?_
            refine s_iconst (dt_M_barred 30 _ _ _ rfl) rfl ?_
            refine s_iload_n (dt_M_barred 31 _ _ _ rfl) rfl ?_
            refine s_ishl (dt_M_barred 32 _ _ _ rfl) ?_
            refine s_ior (dt_M_barred 33 _ _ _ rfl) ?_
            refine s_letI (fun v8 => ?_)
            refine s_istore_n (dt_M_barred 34 _ _ _ rfl) rfl ?_
            exact s_mask [true, true, true, false] (s_ret0 rfl)
          · refine s_iload_n (dt_M_barred 21 _ _ _ rfl) rfl ?_
            refine s_if_ge (tgt := 55) (dt_M_barred 22 _ _ _ rfl) rfl ?_ ?_
            · refine s_aload_n (dt_M_barred 23 _ _ _ rfl) rfl ?_
              refine s_iload_n (dt_M_barred 24 _ _ _ rfl) rfl ?_
              refine s_callO (y := y_M_canLeave) (Y' := Y_M_canLeave) (as := [VR (some 382), VI s2.2]) (r := fun q => some (VI q)) (M' := fun q => q1) (kInvV (dt_M_barred 25 _ _ _ rfl) kin_M_canLeave 1 rfl (sc_382 hS) kse_M_canLeave rfl) kl_M_470 md_M_canLeave rfl rfl (fun q hq => c_M_canLeave hS s2.2 q1 q hq) (fun q9 => ?_)
              refine s_iload_n (dt_M_barred 26 _ _ _ rfl) rfl ?_
              refine s_ineg (dt_M_barred 27 _ _ _ rfl) ?_
              refine s_if_icmp_ge (tgt := 55) (dt_M_barred 28 _ _ _ rfl) rfl ?_ ?_
              · refine s_iload_n (dt_M_barred 29 _ _ _ rfl) rfl ?_
                refine s_iconst (dt_M_barred 30 _ _ _ rfl) rfl ?_
                refine s_iload_n (dt_M_barred 31 _ _ _ rfl) rfl ?_
                refine s_ishl (dt_M_barred 32 _ _ _ rfl) ?_
                refine s_ior (dt_M_barred 33 _ _ _ rfl) ?_
                refine s_letI (fun v10 => ?_)
                refine s_istore_n (dt_M_barred 34 _ _ _ rfl) rfl ?_
                exact s_mask [true, true, true, false] (s_ret0 rfl)
              · exact s_mask [true, true, true, false] (s_ret0 rfl)
            · exact s_mask [true, true, true, false] (s_ret0 rfl)
      refine s_iinc (dt_M_barred 35 _ _ _ rfl) rfl rfl ?_
      refine s_goto (tgt := 8) (dt_M_barred 36 _ _ _ rfl) rfl ?_
      exact s_mask [true, true, true, false] (s_ret0 rfl)
    · exact s_mask [false, true, false, false] (s_ret0 rfl)
  intro e12
  refine s_iload_n (dt_M_barred 37 _ _ _ rfl) rfl ?_
  exact s_iret (dt_M_barred 38 _ _ _ rfl) rfl rfl
theorem c_M_barred {S : KS} (hS : KExt 435 S)   (M : KM) : ∀ q, f_M_barred  M = some q → Ctr y_M_barred Y_M_barred [VR (some 382)] S M (some (VI q.1)) S (q.2) := fun q hq =>
  ctr_of md_M_barred (Nat.le_of_ble_eq_true rfl) ⟨Nat.le_refl _, Nat.le_refl _⟩ 3 hq rfl (fun _ G => sim_M_barred hS   M)
set_option maxRecDepth 100000 in
theorem sim_M_fare {G : Gam} {S : KS} (hS : KExt 435 S)  (a0 : Int) (a1 : Int) (a2 : Int) (M : KM) : Sim G Y_M_fare (f_M_fare a0 a1 a2 M) (kC 0 [some (VR (some 382)), some (VI a0), some (VI a1), some (VI a2)] [] S M) (fun (q : Int) => Sum.inr (some (VI q), S, M)) := by
  unfold f_M_fare
  refine s_iload_n (dt_M_fare 0 _ _ _ rfl) rfl ?_
  refine s_bd (κ := fun t1 => kC 29 [none, none, none, none] [VI t1] S M) ?_ (fun t1 => ?_)
  · refine s_if_le (tgt := 18) (dt_M_fare 1 _ _ _ rfl) rfl ?_ ?_
    · refine s_aload_n (dt_M_fare 11 _ _ _ rfl) rfl ?_
      refine s_getR (c := 1) (j := 50) (o := (some 413)) (dt_M_fare 12 _ _ _ rfl) (kf_M_107) (sc_382 hS) rfl rfl ?_
      refine s_bipush (dt_M_fare 13 _ _ _ rfl) rfl ?_
      refine s_iload_n (dt_M_fare 14 _ _ _ rfl) rfl ?_
      refine s_imul (dt_M_fare 15 _ _ _ rfl) ?_
      refine s_iload_n (dt_M_fare 16 _ _ _ rfl) rfl ?_
      refine s_iadd (dt_M_fare 17 _ _ _ rfl) ?_
      refine s_iald (N := 64) (dt_M_fare 18 _ _ _ rfl) (sc_413 hS) rfl ?_
      exact s_mask [false, false, false, false] (s_ret0 rfl)
    · refine s_aload_n (dt_M_fare 2 _ _ _ rfl) rfl ?_
      refine s_getR (c := 1) (j := 50) (o := (some 413)) (dt_M_fare 3 _ _ _ rfl) (kf_M_107) (sc_382 hS) rfl rfl ?_
      refine s_bipush (dt_M_fare 4 _ _ _ rfl) rfl ?_
      refine s_iload_n (dt_M_fare 5 _ _ _ rfl) rfl ?_
      refine s_imul (dt_M_fare 6 _ _ _ rfl) ?_
      refine s_iload_n (dt_M_fare 7 _ _ _ rfl) rfl ?_
      refine s_iadd (dt_M_fare 8 _ _ _ rfl) ?_
      refine s_iald (N := 64) (dt_M_fare 9 _ _ _ rfl) (sc_413 hS) rfl ?_
      refine s_goto (tgt := 29) (dt_M_fare 10 _ _ _ rfl) rfl ?_
      exact s_mask [false, false, false, false] (s_ret0 rfl)
  exact s_iret (dt_M_fare 19 _ _ _ rfl) rfl rfl
theorem c_M_fare {S : KS} (hS : KExt 435 S)  (a0 : Int) (a1 : Int) (a2 : Int) (M : KM) : ∀ q, f_M_fare a0 a1 a2 M = some q → Ctr y_M_fare Y_M_fare [VR (some 382), VI a0, VI a1, VI a2] S M (some (VI q)) S (M) := fun q hq =>
  ctr_of md_M_fare (Nat.le_of_ble_eq_true rfl) ⟨Nat.le_refl _, Nat.le_refl _⟩ 0 hq rfl (fun _ G => sim_M_fare hS  a0 a1 a2 M)
set_option maxRecDepth 100000 in
theorem sim_M_costOf {G : Gam} {S : KS} (hS : KExt 435 S)  (a0 : Int) (a1 : Int) (M : KM) : Sim G Y_M_costOf (f_M_costOf a0 a1 M) (kC 0 [some (VR (some 382)), some (VI a0), some (VI a1), none, none, none, none, none] [] S M) (fun (q : Int × KM) => Sum.inr (some (VI q.1), S, q.2)) := by
  unfold f_M_costOf
  refine s_iconst (dt_M_costOf 0 _ _ _ rfl) rfl ?_
  refine s_istore_n (dt_M_costOf 1 _ _ _ rfl) rfl ?_
  refine s_bd (κ := (fun (e6 : KM) => kC 46 [some (VR (some 382)), some (VI a0), some (VI a1), none, none, none, none, none] [] S e6)) (s_mask [true, true, true, true, false, false, false, false] (s_while (c := fun s1 => kC 2 [some (VR (some 382)), some (VI a0), some (VI a1), some (VI s1.1), none, none, none, none] [] S s1.2) (fun s1 => ?_) ((0 : Int), M))) ?_
  · refine s_iload_n (dt_M_costOf 2 _ _ _ rfl) rfl ?_
    refine s_bipush (dt_M_costOf 3 _ _ _ rfl) rfl ?_
    refine s_if_icmp_ge (tgt := 46) (dt_M_costOf 4 _ _ _ rfl) rfl ?_ ?_
    · refine s_aload_n (dt_M_costOf 5 _ _ _ rfl) rfl ?_
      refine s_getR (c := 1) (j := 56) (o := (some 419)) (dt_M_costOf 6 _ _ _ rfl) (kf_M_125) (sc_382 hS) rfl rfl ?_
      refine s_iload_n (dt_M_costOf 7 _ _ _ rfl) rfl ?_
      refine s_iload_n (dt_M_costOf 8 _ _ _ rfl) rfl ?_
      refine s_iload_n (dt_M_costOf 9 _ _ _ rfl) rfl ?_
      refine s_bd (κ := fun t4 => kC 39 [some (VR (some 382)), some (VI a0), some (VI a1), some (VI s1.1), none, none, none, none] [VI t4, VI s1.1, VR (some 419)] S s1.2) ?_ (fun t4 => ?_)
      · refine s_if_icmp_eq (tgt := 34) (dt_M_costOf 10 _ _ _ rfl) rfl ?_ ?_
        · refine s_iconst (dt_M_costOf 19 _ _ _ rfl) rfl ?_
          refine s_goto (tgt := 39) (dt_M_costOf 20 _ _ _ rfl) rfl ?_
          exact s_mask [true, true, true, true, false, false, false, false] (s_ret0 rfl)
        · refine s_aload_n (dt_M_costOf 11 _ _ _ rfl) rfl ?_
          refine s_iload_n (dt_M_costOf 12 _ _ _ rfl) rfl ?_
          refine s_callO (y := y_M_isPerson) (Y' := Y_M_isPerson) (as := [VR (some 382), VI s1.1]) (r := fun q => some (VI q)) (M' := fun q => s1.2) (kInvV (dt_M_costOf 13 _ _ _ rfl) kin_M_isPerson 1 rfl (sc_382 hS) kse_M_isPerson rfl) kl_M_413 md_M_isPerson rfl rfl (fun q hq => c_M_isPerson hS s1.1 s1.2 q hq) (fun q2 => ?_)
          refine s_if_eq (tgt := 34) (dt_M_costOf 14 _ _ _ rfl) rfl ?_ ?_
          · refine s_iconst (dt_M_costOf 19 _ _ _ rfl) rfl ?_
            refine s_goto (tgt := 39) (dt_M_costOf 20 _ _ _ rfl) rfl ?_
            exact s_mask [true, true, true, true, false, false, false, false] (s_ret0 rfl)
          · refine s_aload_n (dt_M_costOf 15 _ _ _ rfl) rfl ?_
            refine s_iload_n (dt_M_costOf 16 _ _ _ rfl) rfl ?_
            refine s_callO (y := y_M_isAlive) (Y' := Y_M_isAlive) (as := [VR (some 382), VI s1.1]) (r := fun q => some (VI q)) (M' := fun q => s1.2) (kInvV (dt_M_costOf 17 _ _ _ rfl) kin_M_isAlive 1 rfl (sc_382 hS) kse_M_isAlive rfl) kl_M_404 md_M_isAlive rfl rfl (fun q hq => c_M_isAlive hS s1.1 s1.2 q hq) (fun q3 => ?_)
            refine s_if_ne (tgt := 38) (dt_M_costOf 18 _ _ _ rfl) rfl ?_ ?_
            · refine s_iconst (dt_M_costOf 19 _ _ _ rfl) rfl ?_
              refine s_goto (tgt := 39) (dt_M_costOf 20 _ _ _ rfl) rfl ?_
              exact s_mask [true, true, true, true, false, false, false, false] (s_ret0 rfl)
            · refine s_iconst (dt_M_costOf 21 _ _ _ rfl) rfl ?_
              exact s_mask [true, true, true, true, false, false, false, false] (s_ret0 rfl)
      refine s_zast (N := 8) (dt_M_costOf 22 _ _ _ rfl) (sc_419 hS) rfl ?_
      refine s_letM (fun M5 => ?_)
      refine s_iinc (dt_M_costOf 23 _ _ _ rfl) rfl rfl ?_
      refine s_goto (tgt := 2) (dt_M_costOf 24 _ _ _ rfl) rfl ?_
      exact s_mask [true, true, true, true, false, false, false, false] (s_ret0 rfl)
    · exact s_mask [true, true, true, false, false, false, false, false] (s_ret0 rfl)
  intro e6
  refine s_iload_n (dt_M_costOf 25 _ _ _ rfl) rfl ?_
  refine s_bd (κ := fun t7 => kC 56 [some (VR (some 382)), some (VI a0), some (VI a1), none, none, none, none, none] [VI t7] S e6) ?_ (fun t7 => ?_)
  · refine s_if_ge (tgt := 55) (dt_M_costOf 26 _ _ _ rfl) rfl ?_ ?_
    · refine s_iload_n (dt_M_costOf 27 _ _ _ rfl) rfl ?_
      refine s_ineg (dt_M_costOf 28 _ _ _ rfl) ?_
      refine s_goto (tgt := 56) (dt_M_costOf 29 _ _ _ rfl) rfl ?_
      exact s_mask [true, true, true, false, false, false, false, false] (s_ret0 rfl)
    · refine s_iload_n (dt_M_costOf 30 _ _ _ rfl) rfl ?_
      exact s_mask [true, true, true, false, false, false, false, false] (s_ret0 rfl)
  refine s_istore_n (dt_M_costOf 31 _ _ _ rfl) rfl ?_
  refine s_iconst (dt_M_costOf 32 _ _ _ rfl) rfl ?_
  refine s_istore (dt_M_costOf 33 _ _ _ rfl) rfl ?_
  refine s_bd (κ := (Sum.elim (fun (e21 : Int × KM) => kC 237 [none, none, none, none, some (VI e21.1), none, none, none] [] S e21.2) (fun (e22 : KM) => kC 140 [none, none, none, none, none, none, none, none] [] S e22))) (s_mask [true, true, true, true, true, false, false, false] (s_while (c := fun s8 => kC 60 [some (VR (some 382)), some (VI a0), some (VI a1), some (VI s8.1), some (VI s8.2.1), none, none, none] [] S s8.2.2) (fun s8 => ?_) (t7, (0 : Int), e6))) ?_
  · refine s_iload_n (dt_M_costOf 34 _ _ _ rfl) rfl ?_
    refine s_if_le (tgt := 237) (dt_M_costOf 35 _ _ _ rfl) rfl ?_ ?_
    · exact s_mask [false, false, false, false, true, false, false, false] (s_ret0 rfl)
    · refine s_iconst (dt_M_costOf 36 _ _ _ rfl) rfl ?_
      refine s_istore (dt_M_costOf 37 _ _ _ rfl) rfl ?_
      refine s_iconst (dt_M_costOf 38 _ _ _ rfl) rfl ?_
      refine s_istore (dt_M_costOf 39 _ _ _ rfl) rfl ?_
      refine s_bd (κ := (fun (e14 : Int) => kC 135 [some (VR (some 382)), some (VI a0), some (VI a1), some (VI s8.1), some (VI s8.2.1), some (VI e14), none, none] [] S s8.2.2)) (s_mask [true, true, true, true, true, true, true, false] (s_while (c := fun s9 => kC 70 [some (VR (some 382)), some (VI a0), some (VI a1), some (VI s8.1), some (VI s8.2.1), some (VI s9.1), some (VI s9.2), none] [] S s8.2.2) (fun s9 => ?_) ((-1 : Int), (0 : Int)))) ?_
      · refine s_iload (dt_M_costOf 40 _ _ _ rfl) rfl ?_
        refine s_bipush (dt_M_costOf 41 _ _ _ rfl) rfl ?_
        refine s_if_icmp_ge (tgt := 135) (dt_M_costOf 42 _ _ _ rfl) rfl ?_ ?_
        · refine s_aload_n (dt_M_costOf 43 _ _ _ rfl) rfl ?_
          refine s_getR (c := 1) (j := 56) (o := (some 419)) (dt_M_costOf 44 _ _ _ rfl) (kf_M_125) (sc_382 hS) rfl rfl ?_
          refine s_iload (dt_M_costOf 45 _ _ _ rfl) rfl ?_
          refine s_zald (N := 8) (dt_M_costOf 46 _ _ _ rfl) (sc_419 hS) rfl ?_
          refine s_bd (κ := fun t13 => kC 129 [some (VR (some 382)), some (VI a0), some (VI a1), some (VI s8.1), some (VI s8.2.1), some (VI t13), some (VI s9.2), none] [] S s8.2.2) ?_ (fun t13 => ?_)
          · refine s_if_ne (tgt := 129) (dt_M_costOf 47 _ _ _ rfl) rfl ?_ ?_
            · refine s_aload_n (dt_M_costOf 48 _ _ _ rfl) rfl ?_
              refine s_iload_n (dt_M_costOf 49 _ _ _ rfl) rfl ?_
              refine s_iload (dt_M_costOf 50 _ _ _ rfl) rfl ?_
              refine s_iload_n (dt_M_costOf 51 _ _ _ rfl) rfl ?_
              refine s_callO (y := y_M_fare) (Y' := Y_M_fare) (as := [VR (some 382), VI a0, VI s9.2, VI a1]) (r := fun q => some (VI q)) (M' := fun q => s8.2.2) (kInvV (dt_M_costOf 52 _ _ _ rfl) kin_M_fare 1 rfl (sc_382 hS) kse_M_fare rfl) kl_M_473 md_M_fare rfl rfl (fun q hq => c_M_fare hS a0 s9.2 a1 s8.2.2 q hq) (fun q10 => ?_)
              refine s_ldcw (n := (100000000 : Int)) (kc_M_451) (dt_M_costOf 53 _ _ _ rfl) rfl ?_
              refine s_if_icmp_ge (tgt := 129) (dt_M_costOf 54 _ _ _ rfl) rfl ?_ ?_
              · refine s_iload (dt_M_costOf 55 _ _ _ rfl) rfl ?_
                refine s_if_lt (tgt := 125) (dt_M_costOf 56 _ _ _ rfl) rfl ?_ ?_
                · refine s_iload (dt_M_costOf 68 _ _ _ rfl) rfl ?_
                  refine s_istore (dt_M_costOf 69 _ _ _ rfl) rfl ?_
                  exact s_mask [true, true, true, true, true, true, true, false] (s_ret0 rfl)
                · refine s_aload_n (dt_M_costOf 57 _ _ _ rfl) rfl ?_
                  refine s_iload_n (dt_M_costOf 58 _ _ _ rfl) rfl ?_
                  refine s_iload (dt_M_costOf 59 _ _ _ rfl) rfl ?_
                  refine s_iload_n (dt_M_costOf 60 _ _ _ rfl) rfl ?_
                  refine s_callO (y := y_M_fare) (Y' := Y_M_fare) (as := [VR (some 382), VI a0, VI s9.2, VI a1]) (r := fun q => some (VI q)) (M' := fun q => s8.2.2) (kInvV (dt_M_costOf 61 _ _ _ rfl) kin_M_fare 1 rfl (sc_382 hS) kse_M_fare rfl) kl_M_473 md_M_fare rfl rfl (fun q hq => c_M_fare hS a0 s9.2 a1 s8.2.2 q hq) (fun q11 => ?_)
                  refine s_aload_n (dt_M_costOf 62 _ _ _ rfl) rfl ?_
                  refine s_iload_n (dt_M_costOf 63 _ _ _ rfl) rfl ?_
                  refine s_iload (dt_M_costOf 64 _ _ _ rfl) rfl ?_
                  refine s_iload_n (dt_M_costOf 65 _ _ _ rfl) rfl ?_
                  refine s_callO (y := y_M_fare) (Y' := Y_M_fare) (as := [VR (some 382), VI a0, VI s9.1, VI a1]) (r := fun q => some (VI q)) (M' := fun q => s8.2.2) (kInvV (dt_M_costOf 66 _ _ _ rfl) kin_M_fare 1 rfl (sc_382 hS) kse_M_fare rfl) kl_M_473 md_M_fare rfl rfl (fun q hq => c_M_fare hS a0 s9.1 a1 s8.2.2 q hq) (fun q12 => ?_)
                  refine s_if_icmp_ge (tgt := 129) (dt_M_costOf 67 _ _ _ rfl) rfl ?_ ?_
                  · refine s_iload (dt_M_costOf 68 _ _ _ rfl) rfl ?_
                    refine s_istore (dt_M_costOf 69 _ _ _ rfl) rfl ?_
                    exact s_mask [true, true, true, true, true, true, true, false] (s_ret0 rfl)
                  · exact s_mask [true, true, true, true, true, true, true, false] (s_ret0 rfl)
              · exact s_mask [true, true, true, true, true, true, true, false] (s_ret0 rfl)
            · exact s_mask [true, true, true, true, true, true, true, false] (s_ret0 rfl)
          refine s_iinc (dt_M_costOf 70 _ _ _ rfl) rfl rfl ?_
          refine s_goto (tgt := 70) (dt_M_costOf 71 _ _ _ rfl) rfl ?_
          exact s_mask [true, true, true, true, true, true, true, false] (s_ret0 rfl)
        · exact s_mask [true, true, true, true, true, true, false, false] (s_ret0 rfl)
      intro e14
      refine s_iload (dt_M_costOf 72 _ _ _ rfl) rfl ?_
      refine s_if_ge (tgt := 144) (dt_M_costOf 73 _ _ _ rfl) rfl ?_ ?_
      · exact s_mask [false, false, false, false, false, false, false, false] (s_ret0 rfl)
      · refine s_aload_n (dt_M_costOf 76 _ _ _ rfl) rfl ?_
        refine s_getR (c := 1) (j := 56) (o := (some 419)) (dt_M_costOf 77 _ _ _ rfl) (kf_M_125) (sc_382 hS) rfl rfl ?_
        refine s_iload (dt_M_costOf 78 _ _ _ rfl) rfl ?_
        refine s_iconst (dt_M_costOf 79 _ _ _ rfl) rfl ?_
        refine s_zast (N := 8) (dt_M_costOf 80 _ _ _ rfl) (sc_419 hS) rfl ?_
        refine s_letM (fun M15 => ?_)
        refine s_iload_n (dt_M_costOf 81 _ _ _ rfl) rfl ?_
        refine s_bd (κ := fun t16 => kC 197 [some (VR (some 382)), some (VI a0), some (VI a1), some (VI s8.1), some (VI s8.2.1), some (VI e14), none, none] [VI t16] S M15) ?_ (fun t16 => ?_)
        · refine s_if_le (tgt := 178) (dt_M_costOf 82 _ _ _ rfl) rfl ?_ ?_
          · refine s_aload_n (dt_M_costOf 96 _ _ _ rfl) rfl ?_
            refine s_getR (c := 1) (j := 17) (o := (some 391)) (dt_M_costOf 97 _ _ _ rfl) (kf_M_39) (sc_382 hS) rfl rfl ?_
            refine s_aload_n (dt_M_costOf 98 _ _ _ rfl) rfl ?_
            refine s_getI (c := 1) (j := 37) (dt_M_costOf 99 _ _ _ rfl) (kf_M_288) (sc_382 hS) rfl ?_
            refine s_iald (N := 2) (dt_M_costOf 100 _ _ _ rfl) (sc_391 hS) rfl ?_
            refine s_aload_n (dt_M_costOf 101 _ _ _ rfl) rfl ?_
            refine s_getR (c := 1) (j := 46) (o := (some 411)) (dt_M_costOf 102 _ _ _ rfl) (kf_M_101) (sc_382 hS) rfl rfl ?_
            refine s_iconst (dt_M_costOf 103 _ _ _ rfl) rfl ?_
            refine s_iload (dt_M_costOf 104 _ _ _ rfl) rfl ?_
            refine s_iadd (dt_M_costOf 105 _ _ _ rfl) ?_
            refine s_iald (N := 171) (dt_M_costOf 106 _ _ _ rfl) (sc_411 hS) rfl ?_
            refine s_isub (dt_M_costOf 107 _ _ _ rfl) ?_
            exact s_mask [true, true, true, true, true, true, false, false] (s_ret0 rfl)
          · refine s_aload_n (dt_M_costOf 83 _ _ _ rfl) rfl ?_
            refine s_getR (c := 1) (j := 46) (o := (some 411)) (dt_M_costOf 84 _ _ _ rfl) (kf_M_101) (sc_382 hS) rfl rfl ?_
            refine s_iconst (dt_M_costOf 85 _ _ _ rfl) rfl ?_
            refine s_iload (dt_M_costOf 86 _ _ _ rfl) rfl ?_
            refine s_iadd (dt_M_costOf 87 _ _ _ rfl) ?_
            refine s_iald (N := 171) (dt_M_costOf 88 _ _ _ rfl) (sc_411 hS) rfl ?_
            refine s_aload_n (dt_M_costOf 89 _ _ _ rfl) rfl ?_
            refine s_getR (c := 1) (j := 16) (o := (some 390)) (dt_M_costOf 90 _ _ _ rfl) (kf_M_36) (sc_382 hS) rfl rfl ?_
            refine s_aload_n (dt_M_costOf 91 _ _ _ rfl) rfl ?_
            refine s_getI (c := 1) (j := 37) (dt_M_costOf 92 _ _ _ rfl) (kf_M_288) (sc_382 hS) rfl ?_
            refine s_iald (N := 2) (dt_M_costOf 93 _ _ _ rfl) (sc_390 hS) rfl ?_
            refine s_isub (dt_M_costOf 94 _ _ _ rfl) ?_
            refine s_goto (tgt := 197) (dt_M_costOf 95 _ _ _ rfl) rfl ?_
            exact s_mask [true, true, true, true, true, true, false, false] (s_ret0 rfl)
        refine s_istore (dt_M_costOf 108 _ _ _ rfl) rfl ?_
        refine s_iload (dt_M_costOf 109 _ _ _ rfl) rfl ?_
        refine s_iload_n (dt_M_costOf 110 _ _ _ rfl) rfl ?_
        refine s_bd (κ := fun t17 => kC 211 [some (VR (some 382)), some (VI a0), some (VI a1), some (VI s8.1), some (VI s8.2.1), some (VI e14), none, none] [VI t17] S M15) ?_ (fun t17 => ?_)
        · refine s_if_icmp_ge (tgt := 210) (dt_M_costOf 111 _ _ _ rfl) rfl ?_ ?_
          · refine s_iload (dt_M_costOf 112 _ _ _ rfl) rfl ?_
            refine s_goto (tgt := 211) (dt_M_costOf 113 _ _ _ rfl) rfl ?_
            exact s_mask [true, true, true, true, true, true, false, false] (s_ret0 rfl)
          · refine s_iload_n (dt_M_costOf 114 _ _ _ rfl) rfl ?_
            exact s_mask [true, true, true, true, true, true, false, false] (s_ret0 rfl)
        refine s_istore (dt_M_costOf 115 _ _ _ rfl) rfl ?_
        refine s_iload (dt_M_costOf 116 _ _ _ rfl) rfl ?_
        refine s_iload (dt_M_costOf 117 _ _ _ rfl) rfl ?_
        refine s_aload_n (dt_M_costOf 118 _ _ _ rfl) rfl ?_
        refine s_iload_n (dt_M_costOf 119 _ _ _ rfl) rfl ?_
        refine s_iload (dt_M_costOf 120 _ _ _ rfl) rfl ?_
        refine s_iload_n (dt_M_costOf 121 _ _ _ rfl) rfl ?_
        refine s_callO (y := y_M_fare) (Y' := Y_M_fare) (as := [VR (some 382), VI a0, VI e14, VI a1]) (r := fun q => some (VI q)) (M' := fun q => M15) (kInvV (dt_M_costOf 122 _ _ _ rfl) kin_M_fare 1 rfl (sc_382 hS) kse_M_fare rfl) kl_M_473 md_M_fare rfl rfl (fun q hq => c_M_fare hS a0 e14 a1 M15 q hq) (fun q18 => ?_)
        refine s_imul (dt_M_costOf 123 _ _ _ rfl) ?_
        refine s_iadd (dt_M_costOf 124 _ _ _ rfl) ?_
        refine s_letI (fun v19 => ?_)
        refine s_istore (dt_M_costOf 125 _ _ _ rfl) rfl ?_
        refine s_iload_n (dt_M_costOf 126 _ _ _ rfl) rfl ?_
        refine s_iload (dt_M_costOf 127 _ _ _ rfl) rfl ?_
        refine s_isub (dt_M_costOf 128 _ _ _ rfl) ?_
        refine s_letI (fun v20 => ?_)
        refine s_istore_n (dt_M_costOf 129 _ _ _ rfl) rfl ?_
        refine s_goto (tgt := 60) (dt_M_costOf 130 _ _ _ rfl) rfl ?_
        exact s_mask [true, true, true, true, true, false, false, false] (s_ret0 rfl)
  refine s_elim (fun e21 => ?_) ?_
  · refine s_iload (dt_M_costOf 131 _ _ _ rfl) rfl ?_
    exact s_iret (dt_M_costOf 132 _ _ _ rfl) rfl rfl
  intro e22
  refine s_ldcw (n := (100000000 : Int)) (kc_M_451) (dt_M_costOf 74 _ _ _ rfl) rfl ?_
  exact s_iret (dt_M_costOf 75 _ _ _ rfl) rfl rfl
theorem c_M_costOf {S : KS} (hS : KExt 435 S)  (a0 : Int) (a1 : Int) (M : KM) : ∀ q, f_M_costOf a0 a1 M = some q → Ctr y_M_costOf Y_M_costOf [VR (some 382), VI a0, VI a1] S M (some (VI q.1)) S (q.2) := fun q hq =>
  ctr_of md_M_costOf (Nat.le_of_ble_eq_true rfl) ⟨Nat.le_refl _, Nat.le_refl _⟩ 5 hq rfl (fun _ G => sim_M_costOf hS  a0 a1 M)
set_option maxRecDepth 100000 in
theorem sim_M_reach {G : Gam} {S : KS} (hS : KExt 435 S)  (a0 : Int) (a1 : Int) (a2 : Int) (M : KM) : Sim G Y_M_reach (f_M_reach a0 a1 a2 M) (kC 0 [some (VR (some 382)), some (VI a0), some (VI a1), some (VI a2), none, none, none, none] [] S M) (fun (q : Int × KM) => Sum.inr (some (VI q.1), S, q.2)) := by
  unfold f_M_reach
  refine s_aload_n (dt_M_reach 0 _ _ _ rfl) rfl ?_
  refine s_iload_n (dt_M_reach 1 _ _ _ rfl) rfl ?_
  refine s_callO (y := y_M_isPerson) (Y' := Y_M_isPerson) (as := [VR (some 382), VI a0]) (r := fun q => some (VI q)) (M' := fun q => M) (kInvV (dt_M_reach 2 _ _ _ rfl) kin_M_isPerson 1 rfl (sc_382 hS) kse_M_isPerson rfl) kl_M_413 md_M_isPerson rfl rfl (fun q hq => c_M_isPerson hS a0 M q hq) (fun q1 => ?_)
  refine s_if_eq (tgt := 33) (dt_M_reach 3 _ _ _ rfl) rfl ?_ ?_
  · refine s_iconst (dt_M_reach 17 _ _ _ rfl) rfl ?_
    exact s_iret (dt_M_reach 18 _ _ _ rfl) rfl rfl
  · refine s_aload_n (dt_M_reach 4 _ _ _ rfl) rfl ?_
    refine s_iload_n (dt_M_reach 5 _ _ _ rfl) rfl ?_
    refine s_callO (y := y_M_isAlive) (Y' := Y_M_isAlive) (as := [VR (some 382), VI a0]) (r := fun q => some (VI q)) (M' := fun q => M) (kInvV (dt_M_reach 6 _ _ _ rfl) kin_M_isAlive 1 rfl (sc_382 hS) kse_M_isAlive rfl) kl_M_404 md_M_isAlive rfl rfl (fun q hq => c_M_isAlive hS a0 M q hq) (fun q2 => ?_)
    refine s_if_eq (tgt := 33) (dt_M_reach 7 _ _ _ rfl) rfl ?_ ?_
    · refine s_iconst (dt_M_reach 17 _ _ _ rfl) rfl ?_
      exact s_iret (dt_M_reach 18 _ _ _ rfl) rfl rfl
    · refine s_aload_n (dt_M_reach 8 _ _ _ rfl) rfl ?_
      refine s_iload_n (dt_M_reach 9 _ _ _ rfl) rfl ?_
      refine s_callO (y := y_M_isRight) (Y' := Y_M_isRight) (as := [VR (some 382), VI a1]) (r := fun q => some (VI q)) (M' := fun q => M) (kInvV (dt_M_reach 10 _ _ _ rfl) kin_M_isRight 1 rfl (sc_382 hS) kse_M_isRight rfl) kl_M_416 md_M_isRight rfl rfl (fun q hq => c_M_isRight hS a1 M q hq) (fun q3 => ?_)
      refine s_if_eq (tgt := 33) (dt_M_reach 11 _ _ _ rfl) rfl ?_ ?_
      · refine s_iconst (dt_M_reach 17 _ _ _ rfl) rfl ?_
        exact s_iret (dt_M_reach 18 _ _ _ rfl) rfl rfl
      · refine s_iload_n (dt_M_reach 12 _ _ _ rfl) rfl ?_
        refine s_iconst (dt_M_reach 13 _ _ _ rfl) rfl ?_
        refine s_iconst (dt_M_reach 14 _ _ _ rfl) rfl ?_
        refine s_callO (y := y_M_isIn) (Y' := Y_M_isIn) (as := [VI a2, VI (0 : Int), VI (1 : Int)]) (r := fun q => some (VI q)) (M' := fun q => M) (kInvS (dt_M_reach 15 _ _ _ rfl) kst_M_isIn rfl) kl_M_388 md_M_isIn rfl rfl (fun q hq => c_M_isIn hS a2 (0 : Int) (1 : Int) M q hq) (fun q4 => ?_)
        refine s_if_ne (tgt := 35) (dt_M_reach 16 _ _ _ rfl) rfl ?_ ?_
        · refine s_iconst (dt_M_reach 17 _ _ _ rfl) rfl ?_
          exact s_iret (dt_M_reach 18 _ _ _ rfl) rfl rfl
        · refine s_aload_n (dt_M_reach 19 _ _ _ rfl) rfl ?_
          refine s_callO (y := y_M_layRoads) (Y' := Y_M_layRoads) (as := [VR (some 382)]) (r := fun q => none) (M' := fun q => q) (kInvV (dt_M_reach 20 _ _ _ rfl) kin_M_layRoads 1 rfl (sc_382 hS) kse_M_layRoads rfl) kl_M_458 md_M_layRoads rfl rfl (fun q hq => c_M_layRoads hS M q hq) (fun q5 => ?_)
          refine s_iconst (dt_M_reach 21 _ _ _ rfl) rfl ?_
          refine s_istore (dt_M_reach 22 _ _ _ rfl) rfl ?_
          refine s_ldcw (n := (100000000 : Int)) (kc_M_451) (dt_M_reach 23 _ _ _ rfl) rfl ?_
          refine s_istore (dt_M_reach 24 _ _ _ rfl) rfl ?_
          refine s_aload_n (dt_M_reach 25 _ _ _ rfl) rfl ?_
          refine s_getR (c := 1) (j := 16) (o := (some 390)) (dt_M_reach 26 _ _ _ rfl) (kf_M_36) (sc_382 hS) rfl rfl ?_
          refine s_aload_n (dt_M_reach 27 _ _ _ rfl) rfl ?_
          refine s_getI (c := 1) (j := 37) (dt_M_reach 28 _ _ _ rfl) (kf_M_288) (sc_382 hS) rfl ?_
          refine s_iald (N := 2) (dt_M_reach 29 _ _ _ rfl) (sc_390 hS) rfl ?_
          refine s_letI (fun v6 => ?_)
          refine s_istore (dt_M_reach 30 _ _ _ rfl) rfl ?_
          refine s_bd (κ := (fun (e11 : Int × Int × KM) => kC 128 [none, none, none, some (VI a2), some (VI e11.1), some (VI e11.2.1), none, none] [] S e11.2.2)) (s_mask [true, true, true, true, true, true, true, false] (s_while (c := fun s7 => kC 58 [some (VR (some 382)), some (VI a0), some (VI a1), some (VI a2), some (VI s7.1), some (VI s7.2.1), some (VI s7.2.2.1), none] [] S s7.2.2.2) (fun s7 => ?_) ((-1 : Int), (100000000 : Int), v6, q5))) ?_
          · refine s_iload (dt_M_reach 31 _ _ _ rfl) rfl ?_
            refine s_aload_n (dt_M_reach 32 _ _ _ rfl) rfl ?_
            refine s_getR (c := 1) (j := 17) (o := (some 391)) (dt_M_reach 33 _ _ _ rfl) (kf_M_39) (sc_382 hS) rfl rfl ?_
            refine s_aload_n (dt_M_reach 34 _ _ _ rfl) rfl ?_
            refine s_getI (c := 1) (j := 37) (dt_M_reach 35 _ _ _ rfl) (kf_M_288) (sc_382 hS) rfl ?_
            refine s_iald (N := 2) (dt_M_reach 36 _ _ _ rfl) (sc_391 hS) rfl ?_
            refine s_if_icmp_gt (tgt := 128) (dt_M_reach 37 _ _ _ rfl) rfl ?_ ?_
            · refine s_aload_n (dt_M_reach 38 _ _ _ rfl) rfl ?_
              refine s_iload_n (dt_M_reach 39 _ _ _ rfl) rfl ?_
              refine s_iload_n (dt_M_reach 40 _ _ _ rfl) rfl ?_
              refine s_iload (dt_M_reach 41 _ _ _ rfl) rfl ?_
              refine s_callO (y := y_M_wouldHave) (Y' := Y_M_wouldHave) (as := [VR (some 382), VI a0, VI a1, VI s7.2.2.1]) (r := fun q => some (VI q.1)) (M' := fun q => q.2) (kInvV (dt_M_reach 42 _ _ _ rfl) kin_M_wouldHave 1 rfl (sc_382 hS) kse_M_wouldHave rfl) kl_M_410 md_M_wouldHave rfl rfl (fun q hq => c_M_wouldHave hS a0 a1 s7.2.2.1 s7.2.2.2 q hq) (fun q8 => ?_)
              refine s_bd (κ := fun t10 => kC 122 [some (VR (some 382)), some (VI a0), some (VI a1), some (VI a2), some (VI t10.1), some (VI t10.2.1), some (VI s7.2.2.1), none] [] S t10.2.2) ?_ (fun t10 => ?_)
              · refine s_if_ne (tgt := 86) (dt_M_reach 43 _ _ _ rfl) rfl ?_ ?_
                · refine s_goto (tgt := 122) (dt_M_reach 44 _ _ _ rfl) rfl ?_
                  exact s_mask [true, true, true, true, true, true, true, false] (s_ret0 rfl)
                · refine s_aload_n (dt_M_reach 45 _ _ _ rfl) rfl ?_
                  refine s_iload_n (dt_M_reach 46 _ _ _ rfl) rfl ?_
                  refine s_iload (dt_M_reach 47 _ _ _ rfl) rfl ?_
                  refine s_aload_n (dt_M_reach 48 _ _ _ rfl) rfl ?_
                  refine s_getR (c := 1) (j := 46) (o := (some 411)) (dt_M_reach 49 _ _ _ rfl) (kf_M_101) (sc_382 hS) rfl rfl ?_
                  refine s_iconst (dt_M_reach 50 _ _ _ rfl) rfl ?_
                  refine s_iload_n (dt_M_reach 51 _ _ _ rfl) rfl ?_
                  refine s_iadd (dt_M_reach 52 _ _ _ rfl) ?_
                  refine s_iald (N := 171) (dt_M_reach 53 _ _ _ rfl) (sc_411 hS) rfl ?_
                  refine s_isub (dt_M_reach 54 _ _ _ rfl) ?_
                  refine s_callO (y := y_M_costOf) (Y' := Y_M_costOf) (as := [VR (some 382), VI a0, VI (w32 (s7.2.2.1 - (q8.2 411 (w32 ((0 : Int) + a0)).toNat)))]) (r := fun q => some (VI q.1)) (M' := fun q => q.2) (kInvV (dt_M_reach 55 _ _ _ rfl) kin_M_costOf 1 rfl (sc_382 hS) kse_M_costOf rfl) kl_M_476 md_M_costOf rfl rfl (fun q hq => c_M_costOf hS a0 (w32 (s7.2.2.1 - (q8.2 411 (w32 ((0 : Int) + a0)).toNat))) q8.2 q hq) (fun q9 => ?_)
                  refine s_istore (dt_M_reach 56 _ _ _ rfl) rfl ?_
                  refine s_iload (dt_M_reach 57 _ _ _ rfl) rfl ?_
                  refine s_iload (dt_M_reach 58 _ _ _ rfl) rfl ?_
                  refine s_if_icmp_lt (tgt := 114) (dt_M_reach 59 _ _ _ rfl) rfl ?_ ?_
                  · refine s_iload (dt_M_reach 61 _ _ _ rfl) rfl ?_
                    refine s_istore (dt_M_reach 62 _ _ _ rfl) rfl ?_
                    refine s_iload (dt_M_reach 63 _ _ _ rfl) rfl ?_
                    refine s_istore (dt_M_reach 64 _ _ _ rfl) rfl ?_
                    exact s_mask [true, true, true, true, true, true, true, false] (s_ret0 rfl)
                  · refine s_goto (tgt := 122) (dt_M_reach 60 _ _ _ rfl) rfl ?_
                    exact s_mask [true, true, true, true, true, true, true, false] (s_ret0 rfl)
              refine s_iinc (dt_M_reach 65 _ _ _ rfl) rfl rfl ?_
              refine s_goto (tgt := 58) (dt_M_reach 66 _ _ _ rfl) rfl ?_
              exact s_mask [true, true, true, true, true, true, true, false] (s_ret0 rfl)
            · exact s_mask [false, false, false, true, true, true, false, false] (s_ret0 rfl)
          intro e11
          refine s_iload (dt_M_reach 67 _ _ _ rfl) rfl ?_
          refine s_bd (κ := fun t12 => kC 148 [none, none, none, none, none, none, none, none] [VI t12] S e11.2.2) ?_ (fun t12 => ?_)
          · refine s_if_ge (tgt := 137) (dt_M_reach 68 _ _ _ rfl) rfl ?_ ?_
            · refine s_iconst (dt_M_reach 69 _ _ _ rfl) rfl ?_
              refine s_goto (tgt := 148) (dt_M_reach 70 _ _ _ rfl) rfl ?_
              exact s_mask [false, false, false, false, false, false, false, false] (s_ret0 rfl)
            · refine s_iload_n (dt_M_reach 71 _ _ _ rfl) rfl ?_
              refine s_if_ne (tgt := 146) (dt_M_reach 72 _ _ _ rfl) rfl ?_ ?_
              · refine s_iload (dt_M_reach 73 _ _ _ rfl) rfl ?_
                refine s_goto (tgt := 148) (dt_M_reach 74 _ _ _ rfl) rfl ?_
                exact s_mask [false, false, false, false, false, false, false, false] (s_ret0 rfl)
              · refine s_iload (dt_M_reach 75 _ _ _ rfl) rfl ?_
                exact s_mask [false, false, false, false, false, false, false, false] (s_ret0 rfl)
          exact s_iret (dt_M_reach 76 _ _ _ rfl) rfl rfl
theorem c_M_reach {S : KS} (hS : KExt 435 S)  (a0 : Int) (a1 : Int) (a2 : Int) (M : KM) : ∀ q, f_M_reach a0 a1 a2 M = some q → Ctr y_M_reach Y_M_reach [VR (some 382), VI a0, VI a1, VI a2] S M (some (VI q.1)) S (q.2) := fun q hq =>
  ctr_of md_M_reach (Nat.le_of_ble_eq_true rfl) ⟨Nat.le_refl _, Nat.le_refl _⟩ 4 hq rfl (fun _ G => sim_M_reach hS  a0 a1 a2 M)
set_option maxRecDepth 100000 in
theorem sim_M_layNets {G : Gam} {S : KS} (hS : KExt 435 S)   (M : KM) : Sim G Y_M_layNets (f_M_layNets  M) (kC 0 [some (VR (some 382)), none, none] [] S M) (fun (q : KM) => Sum.inr (none, S, q)) := by
  unfold f_M_layNets
  refine s_iconst (dt_M_layNets 0 _ _ _ rfl) rfl ?_
  refine s_istore_n (dt_M_layNets 1 _ _ _ rfl) rfl ?_
  refine s_bd (κ := (fun (e3 : KM) => kC 21 [some (VR (some 382)), none, none] [] S e3)) (s_mask [true, true, false] (s_while (c := fun s1 => kC 2 [some (VR (some 382)), some (VI s1.1), none] [] S s1.2) (fun s1 => ?_) ((0 : Int), M))) ?_
  · refine s_iload_n (dt_M_layNets 2 _ _ _ rfl) rfl ?_
    refine s_bipush (dt_M_layNets 3 _ _ _ rfl) rfl ?_
    refine s_if_icmp_ge (tgt := 21) (dt_M_layNets 4 _ _ _ rfl) rfl ?_ ?_
    · refine s_aload_n (dt_M_layNets 5 _ _ _ rfl) rfl ?_
      refine s_getR (c := 1) (j := 57) (o := (some 420)) (dt_M_layNets 6 _ _ _ rfl) (kf_M_128) (sc_382 hS) rfl rfl ?_
      refine s_iload_n (dt_M_layNets 7 _ _ _ rfl) rfl ?_
      refine s_iconst (dt_M_layNets 8 _ _ _ rfl) rfl ?_
      refine s_iast (N := 8) (dt_M_layNets 9 _ _ _ rfl) (sc_420 hS) rfl ?_
      refine s_letM (fun M2 => ?_)
      refine s_iinc (dt_M_layNets 10 _ _ _ rfl) rfl rfl ?_
      refine s_goto (tgt := 2) (dt_M_layNets 11 _ _ _ rfl) rfl ?_
      exact s_mask [true, true, false] (s_ret0 rfl)
    · exact s_mask [true, false, false] (s_ret0 rfl)
  intro e3
  refine s_iconst (dt_M_layNets 12 _ _ _ rfl) rfl ?_
  refine s_istore_n (dt_M_layNets 13 _ _ _ rfl) rfl ?_
  refine s_bd (κ := (fun (e9 : KM) => kC 108 [none, none, none] [] S e9)) (s_mask [true, true, false] (s_while (c := fun s4 => kC 23 [some (VR (some 382)), some (VI s4.1), none] [] S s4.2) (fun s4 => ?_) ((0 : Int), e3))) ?_
  · refine s_iload_n (dt_M_layNets 14 _ _ _ rfl) rfl ?_
    refine s_aload_n (dt_M_layNets 15 _ _ _ rfl) rfl ?_
    refine s_getR (c := 1) (j := 46) (o := (some 411)) (dt_M_layNets 16 _ _ _ rfl) (kf_M_101) (sc_382 hS) rfl rfl ?_
    refine s_bipush (dt_M_layNets 17 _ _ _ rfl) rfl ?_
    refine s_iald (N := 171) (dt_M_layNets 18 _ _ _ rfl) (sc_411 hS) rfl ?_
    refine s_if_icmp_ge (tgt := 108) (dt_M_layNets 19 _ _ _ rfl) rfl ?_ ?_
    · refine s_bipush (dt_M_layNets 20 _ _ _ rfl) rfl ?_
      refine s_iconst (dt_M_layNets 21 _ _ _ rfl) rfl ?_
      refine s_iload_n (dt_M_layNets 22 _ _ _ rfl) rfl ?_
      refine s_imul (dt_M_layNets 23 _ _ _ rfl) ?_
      refine s_iadd (dt_M_layNets 24 _ _ _ rfl) ?_
      refine s_letI (fun v5 => ?_)
      refine s_istore_n (dt_M_layNets 25 _ _ _ rfl) rfl ?_
      refine s_aload_n (dt_M_layNets 26 _ _ _ rfl) rfl ?_
      refine s_getR (c := 1) (j := 46) (o := (some 411)) (dt_M_layNets 27 _ _ _ rfl) (kf_M_101) (sc_382 hS) rfl rfl ?_
      refine s_iload_n (dt_M_layNets 28 _ _ _ rfl) rfl ?_
      refine s_iconst (dt_M_layNets 29 _ _ _ rfl) rfl ?_
      refine s_iadd (dt_M_layNets 30 _ _ _ rfl) ?_
      refine s_iald (N := 171) (dt_M_layNets 31 _ _ _ rfl) (sc_411 hS) rfl ?_
      refine s_iconst (dt_M_layNets 32 _ _ _ rfl) rfl ?_
      refine s_bd (κ := fun t8 => kC 102 [some (VR (some 382)), some (VI s4.1), none] [] S t8) ?_ (fun t8 => ?_)
      · refine s_if_icmp_ne (tgt := 56) (dt_M_layNets 33 _ _ _ rfl) rfl ?_ ?_
        · refine s_goto (tgt := 102) (dt_M_layNets 34 _ _ _ rfl) rfl ?_
          exact s_mask [true, true, false] (s_ret0 rfl)
        · refine s_aload_n (dt_M_layNets 35 _ _ _ rfl) rfl ?_
          refine s_getR (c := 1) (j := 57) (o := (some 420)) (dt_M_layNets 36 _ _ _ rfl) (kf_M_128) (sc_382 hS) rfl rfl ?_
          refine s_aload_n (dt_M_layNets 37 _ _ _ rfl) rfl ?_
          refine s_getR (c := 1) (j := 46) (o := (some 411)) (dt_M_layNets 38 _ _ _ rfl) (kf_M_101) (sc_382 hS) rfl rfl ?_
          refine s_iload_n (dt_M_layNets 39 _ _ _ rfl) rfl ?_
          refine s_iald (N := 171) (dt_M_layNets 40 _ _ _ rfl) (sc_411 hS) rfl ?_
          refine s_dup2 (dt_M_layNets 41 _ _ _ rfl) rfl rfl ?_
          refine s_iald (N := 8) (dt_M_layNets 42 _ _ _ rfl) (sc_420 hS) rfl ?_
          refine s_aload_n (dt_M_layNets 43 _ _ _ rfl) rfl ?_
          refine s_getR (c := 1) (j := 46) (o := (some 411)) (dt_M_layNets 44 _ _ _ rfl) (kf_M_101) (sc_382 hS) rfl rfl ?_
          refine s_iload_n (dt_M_layNets 45 _ _ _ rfl) rfl ?_
          refine s_iconst (dt_M_layNets 46 _ _ _ rfl) rfl ?_
          refine s_iadd (dt_M_layNets 47 _ _ _ rfl) ?_
          refine s_iald (N := 171) (dt_M_layNets 48 _ _ _ rfl) (sc_411 hS) rfl ?_
          refine s_iadd (dt_M_layNets 49 _ _ _ rfl) ?_
          refine s_iast (N := 8) (dt_M_layNets 50 _ _ _ rfl) (sc_420 hS) rfl ?_
          refine s_letM (fun M6 => ?_)
          refine s_aload_n (dt_M_layNets 51 _ _ _ rfl) rfl ?_
          refine s_getR (c := 1) (j := 57) (o := (some 420)) (dt_M_layNets 52 _ _ _ rfl) (kf_M_128) (sc_382 hS) rfl rfl ?_
          refine s_aload_n (dt_M_layNets 53 _ _ _ rfl) rfl ?_
          refine s_getR (c := 1) (j := 46) (o := (some 411)) (dt_M_layNets 54 _ _ _ rfl) (kf_M_101) (sc_382 hS) rfl rfl ?_
          refine s_iload_n (dt_M_layNets 55 _ _ _ rfl) rfl ?_
          refine s_iconst (dt_M_layNets 56 _ _ _ rfl) rfl ?_
          refine s_iadd (dt_M_layNets 57 _ _ _ rfl) ?_
          refine s_iald (N := 171) (dt_M_layNets 58 _ _ _ rfl) (sc_411 hS) rfl ?_
          refine s_dup2 (dt_M_layNets 59 _ _ _ rfl) rfl rfl ?_
          refine s_iald (N := 8) (dt_M_layNets 60 _ _ _ rfl) (sc_420 hS) rfl ?_
          refine s_aload_n (dt_M_layNets 61 _ _ _ rfl) rfl ?_
          refine s_getR (c := 1) (j := 46) (o := (some 411)) (dt_M_layNets 62 _ _ _ rfl) (kf_M_101) (sc_382 hS) rfl rfl ?_
          refine s_iload_n (dt_M_layNets 63 _ _ _ rfl) rfl ?_
          refine s_iconst (dt_M_layNets 64 _ _ _ rfl) rfl ?_
          refine s_iadd (dt_M_layNets 65 _ _ _ rfl) ?_
          refine s_iald (N := 171) (dt_M_layNets 66 _ _ _ rfl) (sc_411 hS) rfl ?_
          refine s_isub (dt_M_layNets 67 _ _ _ rfl) ?_
          refine s_iast (N := 8) (dt_M_layNets 68 _ _ _ rfl) (sc_420 hS) rfl ?_
          refine s_letM (fun M7 => ?_)
          exact s_mask [true, true, false] (s_ret0 rfl)
      refine s_iinc (dt_M_layNets 69 _ _ _ rfl) rfl rfl ?_
      refine s_goto (tgt := 23) (dt_M_layNets 70 _ _ _ rfl) rfl ?_
      exact s_mask [true, true, false] (s_ret0 rfl)
    · exact s_mask [false, false, false] (s_ret0 rfl)
  intro e9
  exact s_vret (dt_M_layNets 71 _ _ _ rfl) rfl rfl
theorem c_M_layNets {S : KS} (hS : KExt 435 S)   (M : KM) : ∀ q, f_M_layNets  M = some q → Ctr y_M_layNets Y_M_layNets [VR (some 382)] S M (none) S (q) := fun q hq =>
  ctr_of md_M_layNets (Nat.le_of_ble_eq_true rfl) ⟨Nat.le_refl _, Nat.le_refl _⟩ 2 hq rfl (fun _ G => sim_M_layNets hS   M)
set_option maxRecDepth 100000 in
theorem sim_M_net {G : Gam} {S : KS} (hS : KExt 435 S)  (a0 : Int) (M : KM) : Sim G Y_M_net (f_M_net a0 M) (kC 0 [some (VR (some 382)), some (VI a0)] [] S M) (fun (q : Int × KM) => Sum.inr (some (VI q.1), S, q.2)) := by
  unfold f_M_net
  refine s_aload_n (dt_M_net 0 _ _ _ rfl) rfl ?_
  refine s_iload_n (dt_M_net 1 _ _ _ rfl) rfl ?_
  refine s_callO (y := y_M_isPerson) (Y' := Y_M_isPerson) (as := [VR (some 382), VI a0]) (r := fun q => some (VI q)) (M' := fun q => M) (kInvV (dt_M_net 2 _ _ _ rfl) kin_M_isPerson 1 rfl (sc_382 hS) kse_M_isPerson rfl) kl_M_413 md_M_isPerson rfl rfl (fun q hq => c_M_isPerson hS a0 M q hq) (fun q1 => ?_)
  refine s_if_ne (tgt := 12) (dt_M_net 3 _ _ _ rfl) rfl ?_ ?_
  · refine s_ldcw (n := (-1000000 : Int)) (kc_M_428) (dt_M_net 4 _ _ _ rfl) rfl ?_
    exact s_iret (dt_M_net 5 _ _ _ rfl) rfl rfl
  · refine s_aload_n (dt_M_net 6 _ _ _ rfl) rfl ?_
    refine s_callO (y := y_M_layNets) (Y' := Y_M_layNets) (as := [VR (some 382)]) (r := fun q => none) (M' := fun q => q) (kInvV (dt_M_net 7 _ _ _ rfl) kin_M_layNets 1 rfl (sc_382 hS) kse_M_layNets rfl) kl_M_479 md_M_layNets rfl rfl (fun q hq => c_M_layNets hS M q hq) (fun q2 => ?_)
    refine s_aload_n (dt_M_net 8 _ _ _ rfl) rfl ?_
    refine s_getR (c := 1) (j := 57) (o := (some 420)) (dt_M_net 9 _ _ _ rfl) (kf_M_128) (sc_382 hS) rfl rfl ?_
    refine s_iload_n (dt_M_net 10 _ _ _ rfl) rfl ?_
    refine s_iald (N := 8) (dt_M_net 11 _ _ _ rfl) (sc_420 hS) rfl ?_
    exact s_iret (dt_M_net 12 _ _ _ rfl) rfl rfl
theorem c_M_net {S : KS} (hS : KExt 435 S)  (a0 : Int) (M : KM) : ∀ q, f_M_net a0 M = some q → Ctr y_M_net Y_M_net [VR (some 382), VI a0] S M (some (VI q.1)) S (q.2) := fun q hq =>
  ctr_of md_M_net (Nat.le_of_ble_eq_true rfl) ⟨Nat.le_refl _, Nat.le_refl _⟩ 0 hq rfl (fun _ G => sim_M_net hS  a0 M)
