set_option maxRecDepth 100000 in
theorem sim_M_bestAge {G : Gam} {S : KS} (hS : KExt 435 S)  (a0 : Int) (a1 : Int) (M : KM) : Sim G Y_M_bestAge (f_M_bestAge a0 a1 M) (kC 0 [some (VR (some 382)), some (VI a0), some (VI a1), none, none, none] [] S M) (fun (q : Int) => Sum.inr (some (VI q), S, M)) := by
  unfold f_M_bestAge
  refine s_iconst (dt_M_bestAge 0 _ _ _ rfl) rfl ?_
  refine s_istore_n (dt_M_bestAge 1 _ _ _ rfl) rfl ?_
  refine s_iconst (dt_M_bestAge 2 _ _ _ rfl) rfl ?_
  refine s_istore (dt_M_bestAge 3 _ _ _ rfl) rfl ?_
  refine s_bd (κ := (fun (e4 : Int) => kC 111 [none, none, none, some (VI e4), none, none] [] S M)) (s_mask [true, true, true, true, true, false] (s_while (c := fun s1 => kC 5 [some (VR (some 382)), some (VI a0), some (VI a1), some (VI s1.1), some (VI s1.2), none] [] S M) (fun s1 => ?_) ((-1 : Int), (0 : Int)))) ?_
  · refine s_iload (dt_M_bestAge 4 _ _ _ rfl) rfl ?_
    refine s_aload_n (dt_M_bestAge 5 _ _ _ rfl) rfl ?_
    refine s_getR (c := 1) (j := 17) (o := (some 391)) (dt_M_bestAge 6 _ _ _ rfl) (kf_M_39) (sc_382 hS) rfl rfl ?_
    refine s_aload_n (dt_M_bestAge 7 _ _ _ rfl) rfl ?_
    refine s_getI (c := 1) (j := 37) (dt_M_bestAge 8 _ _ _ rfl) (kf_M_288) (sc_382 hS) rfl ?_
    refine s_iald (N := 2) (dt_M_bestAge 9 _ _ _ rfl) (sc_391 hS) rfl ?_
    refine s_aload_n (dt_M_bestAge 10 _ _ _ rfl) rfl ?_
    refine s_getR (c := 1) (j := 16) (o := (some 390)) (dt_M_bestAge 11 _ _ _ rfl) (kf_M_36) (sc_382 hS) rfl rfl ?_
    refine s_aload_n (dt_M_bestAge 12 _ _ _ rfl) rfl ?_
    refine s_getI (c := 1) (j := 37) (dt_M_bestAge 13 _ _ _ rfl) (kf_M_288) (sc_382 hS) rfl ?_
    refine s_iald (N := 2) (dt_M_bestAge 14 _ _ _ rfl) (sc_390 hS) rfl ?_
    refine s_isub (dt_M_bestAge 15 _ _ _ rfl) ?_
    refine s_if_icmp_gt (tgt := 111) (dt_M_bestAge 16 _ _ _ rfl) rfl ?_ ?_
    · refine s_iload (dt_M_bestAge 17 _ _ _ rfl) rfl ?_
      refine s_iload_n (dt_M_bestAge 18 _ _ _ rfl) rfl ?_
      refine s_if_icmp_gt (tgt := 111) (dt_M_bestAge 19 _ _ _ rfl) rfl ?_ ?_
      · refine s_aload_n (dt_M_bestAge 20 _ _ _ rfl) rfl ?_
        refine s_getR (c := 1) (j := 60) (o := (some 422)) (dt_M_bestAge 21 _ _ _ rfl) (kf_M_137) (sc_382 hS) rfl rfl ?_
        refine s_sipush (dt_M_bestAge 22 _ _ _ rfl) rfl ?_
        refine s_iload_n (dt_M_bestAge 23 _ _ _ rfl) rfl ?_
        refine s_iconst (dt_M_bestAge 24 _ _ _ rfl) rfl ?_
        refine s_iadd (dt_M_bestAge 25 _ _ _ rfl) ?_
        refine s_imul (dt_M_bestAge 26 _ _ _ rfl) ?_
        refine s_iload_n (dt_M_bestAge 27 _ _ _ rfl) rfl ?_
        refine s_iadd (dt_M_bestAge 28 _ _ _ rfl) ?_
        refine s_iload (dt_M_bestAge 29 _ _ _ rfl) rfl ?_
        refine s_isub (dt_M_bestAge 30 _ _ _ rfl) ?_
        refine s_iald (N := 10809) (dt_M_bestAge 31 _ _ _ rfl) (sc_422 hS) rfl ?_
        refine s_letI (fun v2 => ?_)
        refine s_istore (dt_M_bestAge 32 _ _ _ rfl) rfl ?_
        refine s_iload (dt_M_bestAge 33 _ _ _ rfl) rfl ?_
        refine s_ldcw (n := (100000000 : Int)) (kc_M_451) (dt_M_bestAge 34 _ _ _ rfl) rfl ?_
        refine s_bd (κ := fun t3 => kC 105 [some (VR (some 382)), some (VI a0), some (VI a1), some (VI t3), some (VI s1.2), none] [] S M) ?_ (fun t3 => ?_)
        · refine s_if_icmp_ge (tgt := 105) (dt_M_bestAge 35 _ _ _ rfl) rfl ?_ ?_
          · refine s_iload_n (dt_M_bestAge 36 _ _ _ rfl) rfl ?_
            refine s_if_lt (tgt := 102) (dt_M_bestAge 37 _ _ _ rfl) rfl ?_ ?_
            · refine s_iload (dt_M_bestAge 62 _ _ _ rfl) rfl ?_
              refine s_istore_n (dt_M_bestAge 63 _ _ _ rfl) rfl ?_
              exact s_mask [true, true, true, true, true, false] (s_ret0 rfl)
            · refine s_aload_n (dt_M_bestAge 38 _ _ _ rfl) rfl ?_
              refine s_getR (c := 1) (j := 61) (o := (some 423)) (dt_M_bestAge 39 _ _ _ rfl) (kf_M_140) (sc_382 hS) rfl rfl ?_
              refine s_iload (dt_M_bestAge 40 _ _ _ rfl) rfl ?_
              refine s_iald (N := 151) (dt_M_bestAge 41 _ _ _ rfl) (sc_423 hS) rfl ?_
              refine s_iload (dt_M_bestAge 42 _ _ _ rfl) rfl ?_
              refine s_iadd (dt_M_bestAge 43 _ _ _ rfl) ?_
              refine s_aload_n (dt_M_bestAge 44 _ _ _ rfl) rfl ?_
              refine s_getR (c := 1) (j := 61) (o := (some 423)) (dt_M_bestAge 45 _ _ _ rfl) (kf_M_140) (sc_382 hS) rfl rfl ?_
              refine s_iload_n (dt_M_bestAge 46 _ _ _ rfl) rfl ?_
              refine s_iald (N := 151) (dt_M_bestAge 47 _ _ _ rfl) (sc_423 hS) rfl ?_
              refine s_aload_n (dt_M_bestAge 48 _ _ _ rfl) rfl ?_
              refine s_getR (c := 1) (j := 60) (o := (some 422)) (dt_M_bestAge 49 _ _ _ rfl) (kf_M_137) (sc_382 hS) rfl rfl ?_
              refine s_sipush (dt_M_bestAge 50 _ _ _ rfl) rfl ?_
              refine s_iload_n (dt_M_bestAge 51 _ _ _ rfl) rfl ?_
              refine s_iconst (dt_M_bestAge 52 _ _ _ rfl) rfl ?_
              refine s_iadd (dt_M_bestAge 53 _ _ _ rfl) ?_
              refine s_imul (dt_M_bestAge 54 _ _ _ rfl) ?_
              refine s_iload_n (dt_M_bestAge 55 _ _ _ rfl) rfl ?_
              refine s_iadd (dt_M_bestAge 56 _ _ _ rfl) ?_
              refine s_iload_n (dt_M_bestAge 57 _ _ _ rfl) rfl ?_
              refine s_isub (dt_M_bestAge 58 _ _ _ rfl) ?_
              refine s_iald (N := 10809) (dt_M_bestAge 59 _ _ _ rfl) (sc_422 hS) rfl ?_
              refine s_iadd (dt_M_bestAge 60 _ _ _ rfl) ?_
              refine s_if_icmp_ge (tgt := 105) (dt_M_bestAge 61 _ _ _ rfl) rfl ?_ ?_
              · refine s_iload (dt_M_bestAge 62 _ _ _ rfl) rfl ?_
                refine s_istore_n (dt_M_bestAge 63 _ _ _ rfl) rfl ?_
                exact s_mask [true, true, true, true, true, false] (s_ret0 rfl)
              · exact s_mask [true, true, true, true, true, false] (s_ret0 rfl)
          · exact s_mask [true, true, true, true, true, false] (s_ret0 rfl)
        refine s_iinc (dt_M_bestAge 64 _ _ _ rfl) rfl rfl ?_
        refine s_goto (tgt := 5) (dt_M_bestAge 65 _ _ _ rfl) rfl ?_
        exact s_mask [true, true, true, true, true, false] (s_ret0 rfl)
      · exact s_mask [false, false, false, true, false, false] (s_ret0 rfl)
    · exact s_mask [false, false, false, true, false, false] (s_ret0 rfl)
  intro e4
  refine s_iload_n (dt_M_bestAge 66 _ _ _ rfl) rfl ?_
  exact s_iret (dt_M_bestAge 67 _ _ _ rfl) rfl rfl
theorem c_M_bestAge {S : KS} (hS : KExt 435 S)  (a0 : Int) (a1 : Int) (M : KM) : ∀ q, f_M_bestAge a0 a1 M = some q → Ctr y_M_bestAge Y_M_bestAge [VR (some 382), VI a0, VI a1] S M (some (VI q)) S (M) := fun q hq =>
  ctr_of md_M_bestAge (Nat.le_of_ble_eq_true rfl) ⟨Nat.le_refl _, Nat.le_refl _⟩ 3 hq rfl (fun _ G => sim_M_bestAge hS  a0 a1 M)
set_option maxRecDepth 100000 in
theorem sim_M_layPerson {G : Gam} {S : KS} (hS : KExt 435 S)  (a0 : Int) (a1 : Int) (M : KM) : Sim G Y_M_layPerson (f_M_layPerson a0 a1 M) (kC 0 [some (VR (some 382)), some (VI a0), some (VI a1), none] [] S M) (fun (q : Int) => Sum.inr (some (VI q), S, M)) := by
  unfold f_M_layPerson
  refine s_aload_n (dt_M_layPerson 0 _ _ _ rfl) rfl ?_
  refine s_iload_n (dt_M_layPerson 1 _ _ _ rfl) rfl ?_
  refine s_callO (y := y_M_isAlive) (Y' := Y_M_isAlive) (as := [VR (some 382), VI a0]) (r := fun q => some (VI q)) (M' := fun q => M) (kInvV (dt_M_layPerson 2 _ _ _ rfl) kin_M_isAlive 1 rfl (sc_382 hS) kse_M_isAlive rfl) kl_M_404 md_M_isAlive rfl rfl (fun q hq => c_M_isAlive hS a0 M q hq) (fun q1 => ?_)
  refine s_if_ne (tgt := 23) (dt_M_layPerson 3 _ _ _ rfl) rfl ?_ ?_
  · refine s_aload_n (dt_M_layPerson 4 _ _ _ rfl) rfl ?_
    refine s_getR (c := 1) (j := 60) (o := (some 422)) (dt_M_layPerson 5 _ _ _ rfl) (kf_M_137) (sc_382 hS) rfl rfl ?_
    refine s_sipush (dt_M_layPerson 6 _ _ _ rfl) rfl ?_
    refine s_iload_n (dt_M_layPerson 7 _ _ _ rfl) rfl ?_
    refine s_iconst (dt_M_layPerson 8 _ _ _ rfl) rfl ?_
    refine s_iadd (dt_M_layPerson 9 _ _ _ rfl) ?_
    refine s_imul (dt_M_layPerson 10 _ _ _ rfl) ?_
    refine s_iload_n (dt_M_layPerson 11 _ _ _ rfl) rfl ?_
    refine s_iadd (dt_M_layPerson 12 _ _ _ rfl) ?_
    refine s_iald (N := 10809) (dt_M_layPerson 13 _ _ _ rfl) (sc_422 hS) rfl ?_
    exact s_iret (dt_M_layPerson 14 _ _ _ rfl) rfl rfl
  · refine s_aload_n (dt_M_layPerson 15 _ _ _ rfl) rfl ?_
    refine s_iload_n (dt_M_layPerson 16 _ _ _ rfl) rfl ?_
    refine s_iload_n (dt_M_layPerson 17 _ _ _ rfl) rfl ?_
    refine s_callO (y := y_M_bestAge) (Y' := Y_M_bestAge) (as := [VR (some 382), VI a0, VI a1]) (r := fun q => some (VI q)) (M' := fun q => M) (kInvV (dt_M_layPerson 18 _ _ _ rfl) kin_M_bestAge 1 rfl (sc_382 hS) kse_M_bestAge rfl) kl_M_494 md_M_bestAge rfl rfl (fun q hq => c_M_bestAge hS a0 a1 M q hq) (fun q2 => ?_)
    refine s_istore_n (dt_M_layPerson 19 _ _ _ rfl) rfl ?_
    refine s_iload_n (dt_M_layPerson 20 _ _ _ rfl) rfl ?_
    refine s_bd (κ := fun t3 => kC 63 [none, none, none, none] [VI t3] S M) ?_ (fun t3 => ?_)
    · refine s_if_ge (tgt := 40) (dt_M_layPerson 21 _ _ _ rfl) rfl ?_ ?_
      · refine s_ldcw (n := (100000000 : Int)) (kc_M_451) (dt_M_layPerson 22 _ _ _ rfl) rfl ?_
        refine s_goto (tgt := 63) (dt_M_layPerson 23 _ _ _ rfl) rfl ?_
        exact s_mask [false, false, false, false] (s_ret0 rfl)
      · refine s_aload_n (dt_M_layPerson 24 _ _ _ rfl) rfl ?_
        refine s_getR (c := 1) (j := 61) (o := (some 423)) (dt_M_layPerson 25 _ _ _ rfl) (kf_M_140) (sc_382 hS) rfl rfl ?_
        refine s_iload_n (dt_M_layPerson 26 _ _ _ rfl) rfl ?_
        refine s_iald (N := 151) (dt_M_layPerson 27 _ _ _ rfl) (sc_423 hS) rfl ?_
        refine s_aload_n (dt_M_layPerson 28 _ _ _ rfl) rfl ?_
        refine s_getR (c := 1) (j := 60) (o := (some 422)) (dt_M_layPerson 29 _ _ _ rfl) (kf_M_137) (sc_382 hS) rfl rfl ?_
        refine s_sipush (dt_M_layPerson 30 _ _ _ rfl) rfl ?_
        refine s_iload_n (dt_M_layPerson 31 _ _ _ rfl) rfl ?_
        refine s_iconst (dt_M_layPerson 32 _ _ _ rfl) rfl ?_
        refine s_iadd (dt_M_layPerson 33 _ _ _ rfl) ?_
        refine s_imul (dt_M_layPerson 34 _ _ _ rfl) ?_
        refine s_iload_n (dt_M_layPerson 35 _ _ _ rfl) rfl ?_
        refine s_iadd (dt_M_layPerson 36 _ _ _ rfl) ?_
        refine s_iload_n (dt_M_layPerson 37 _ _ _ rfl) rfl ?_
        refine s_isub (dt_M_layPerson 38 _ _ _ rfl) ?_
        refine s_iald (N := 10809) (dt_M_layPerson 39 _ _ _ rfl) (sc_422 hS) rfl ?_
        refine s_iadd (dt_M_layPerson 40 _ _ _ rfl) ?_
        exact s_mask [false, false, false, false] (s_ret0 rfl)
    exact s_iret (dt_M_layPerson 41 _ _ _ rfl) rfl rfl
theorem c_M_layPerson {S : KS} (hS : KExt 435 S)  (a0 : Int) (a1 : Int) (M : KM) : ∀ q, f_M_layPerson a0 a1 M = some q → Ctr y_M_layPerson Y_M_layPerson [VR (some 382), VI a0, VI a1] S M (some (VI q)) S (M) := fun q hq =>
  ctr_of md_M_layPerson (Nat.le_of_ble_eq_true rfl) ⟨Nat.le_refl _, Nat.le_refl _⟩ 1 hq rfl (fun _ G => sim_M_layPerson hS  a0 a1 M)
set_option maxRecDepth 100000 in
theorem sim_M_safest {G : Gam} {S : KS} (hS : KExt 435 S)   (M : KM) : Sim G Y_M_safest (f_M_safest  M) (kC 0 [some (VR (some 382)), none, none, none, none] [] S M) (fun (q : Int × KM) => Sum.inr (some (VI q.1), S, q.2)) := by
  unfold f_M_safest
  refine s_iconst (dt_M_safest 0 _ _ _ rfl) rfl ?_
  refine s_istore_n (dt_M_safest 1 _ _ _ rfl) rfl ?_
  refine s_iconst (dt_M_safest 2 _ _ _ rfl) rfl ?_
  refine s_istore_n (dt_M_safest 3 _ _ _ rfl) rfl ?_
  refine s_bd (κ := (fun (e6 : Int) => kC 51 [some (VR (some 382)), some (VI e6), none, none, none] [] S M)) (s_mask [true, true, true, false, false] (s_while (c := fun s1 => kC 4 [some (VR (some 382)), some (VI s1.1), some (VI s1.2), none, none] [] S M) (fun s1 => ?_) ((0 : Int), (0 : Int)))) ?_
  · refine s_iload_n (dt_M_safest 4 _ _ _ rfl) rfl ?_
    refine s_aload_n (dt_M_safest 5 _ _ _ rfl) rfl ?_
    refine s_callO (y := y_M_many) (Y' := Y_M_many) (as := [VR (some 382)]) (r := fun q => some (VI q)) (M' := fun q => M) (kInvV (dt_M_safest 6 _ _ _ rfl) kin_M_many 1 rfl (sc_382 hS) kse_M_many rfl) kl_M_385 md_M_many rfl rfl (fun q hq => c_M_many hS M q hq) (fun q2 => ?_)
    refine s_if_icmp_ge (tgt := 51) (dt_M_safest 7 _ _ _ rfl) rfl ?_ ?_
    · refine s_iload_n (dt_M_safest 8 _ _ _ rfl) rfl ?_
      refine s_aload_n (dt_M_safest 9 _ _ _ rfl) rfl ?_
      refine s_iload_n (dt_M_safest 10 _ _ _ rfl) rfl ?_
      refine s_callO (y := y_M_isAlive) (Y' := Y_M_isAlive) (as := [VR (some 382), VI s1.2]) (r := fun q => some (VI q)) (M' := fun q => M) (kInvV (dt_M_safest 11 _ _ _ rfl) kin_M_isAlive 1 rfl (sc_382 hS) kse_M_isAlive rfl) kl_M_404 md_M_isAlive rfl rfl (fun q hq => c_M_isAlive hS s1.2 M q hq) (fun q3 => ?_)
      refine s_bd (κ := fun t4 => kC 43 [some (VR (some 382)), none, some (VI s1.2), none, none] [VI t4, VI s1.1] S M) ?_ (fun t4 => ?_)
      · refine s_if_eq (tgt := 42) (dt_M_safest 12 _ _ _ rfl) rfl ?_ ?_
        · refine s_iconst (dt_M_safest 26 _ _ _ rfl) rfl ?_
          exact s_mask [true, false, true, false, false] (s_ret0 rfl)
        · refine s_aload_n (dt_M_safest 13 _ _ _ rfl) rfl ?_
          refine s_getR (c := 1) (j := 46) (o := (some 411)) (dt_M_safest 14 _ _ _ rfl) (kf_M_101) (sc_382 hS) rfl rfl ?_
          refine s_iconst (dt_M_safest 15 _ _ _ rfl) rfl ?_
          refine s_iload_n (dt_M_safest 16 _ _ _ rfl) rfl ?_
          refine s_iadd (dt_M_safest 17 _ _ _ rfl) ?_
          refine s_iald (N := 171) (dt_M_safest 18 _ _ _ rfl) (sc_411 hS) rfl ?_
          refine s_aload_n (dt_M_safest 19 _ _ _ rfl) rfl ?_
          refine s_getR (c := 1) (j := 16) (o := (some 390)) (dt_M_safest 20 _ _ _ rfl) (kf_M_36) (sc_382 hS) rfl rfl ?_
          refine s_aload_n (dt_M_safest 21 _ _ _ rfl) rfl ?_
          refine s_getI (c := 1) (j := 37) (dt_M_safest 22 _ _ _ rfl) (kf_M_288) (sc_382 hS) rfl ?_
          refine s_iald (N := 2) (dt_M_safest 23 _ _ _ rfl) (sc_390 hS) rfl ?_
          refine s_isub (dt_M_safest 24 _ _ _ rfl) ?_
          refine s_goto (tgt := 43) (dt_M_safest 25 _ _ _ rfl) rfl ?_
          exact s_mask [true, false, true, false, false] (s_ret0 rfl)
      refine s_iadd (dt_M_safest 27 _ _ _ rfl) ?_
      refine s_letI (fun v5 => ?_)
      refine s_istore_n (dt_M_safest 28 _ _ _ rfl) rfl ?_
      refine s_iinc (dt_M_safest 29 _ _ _ rfl) rfl rfl ?_
      refine s_goto (tgt := 4) (dt_M_safest 30 _ _ _ rfl) rfl ?_
      exact s_mask [true, true, true, false, false] (s_ret0 rfl)
    · exact s_mask [true, true, false, false, false] (s_ret0 rfl)
  intro e6
  refine s_aload_n (dt_M_safest 31 _ _ _ rfl) rfl ?_
  refine s_getR (c := 1) (j := 16) (o := (some 390)) (dt_M_safest 32 _ _ _ rfl) (kf_M_36) (sc_382 hS) rfl rfl ?_
  refine s_aload_n (dt_M_safest 33 _ _ _ rfl) rfl ?_
  refine s_getI (c := 1) (j := 37) (dt_M_safest 34 _ _ _ rfl) (kf_M_288) (sc_382 hS) rfl ?_
  refine s_iald (N := 2) (dt_M_safest 35 _ _ _ rfl) (sc_390 hS) rfl ?_
  refine s_letI (fun v7 => ?_)
  refine s_istore_n (dt_M_safest 36 _ _ _ rfl) rfl ?_
  refine s_bd (κ := (fun (e11 : KM) => kC 101 [some (VR (some 382)), some (VI e6), none, none, none] [] S e11)) (s_mask [true, true, true, false, false] (s_while (c := fun s8 => kC 61 [some (VR (some 382)), some (VI e6), some (VI s8.1), none, none] [] S s8.2) (fun s8 => ?_) (v7, M))) ?_
  · refine s_iload_n (dt_M_safest 37 _ _ _ rfl) rfl ?_
    refine s_aload_n (dt_M_safest 38 _ _ _ rfl) rfl ?_
    refine s_getR (c := 1) (j := 17) (o := (some 391)) (dt_M_safest 39 _ _ _ rfl) (kf_M_39) (sc_382 hS) rfl rfl ?_
    refine s_aload_n (dt_M_safest 40 _ _ _ rfl) rfl ?_
    refine s_getI (c := 1) (j := 37) (dt_M_safest 41 _ _ _ rfl) (kf_M_288) (sc_382 hS) rfl ?_
    refine s_iald (N := 2) (dt_M_safest 42 _ _ _ rfl) (sc_391 hS) rfl ?_
    refine s_if_icmp_gt (tgt := 101) (dt_M_safest 43 _ _ _ rfl) rfl ?_ ?_
    · refine s_aload_n (dt_M_safest 44 _ _ _ rfl) rfl ?_
      refine s_getR (c := 1) (j := 61) (o := (some 423)) (dt_M_safest 45 _ _ _ rfl) (kf_M_140) (sc_382 hS) rfl rfl ?_
      refine s_iload_n (dt_M_safest 46 _ _ _ rfl) rfl ?_
      refine s_aload_n (dt_M_safest 47 _ _ _ rfl) rfl ?_
      refine s_getR (c := 1) (j := 16) (o := (some 390)) (dt_M_safest 48 _ _ _ rfl) (kf_M_36) (sc_382 hS) rfl rfl ?_
      refine s_aload_n (dt_M_safest 49 _ _ _ rfl) rfl ?_
      refine s_getI (c := 1) (j := 37) (dt_M_safest 50 _ _ _ rfl) (kf_M_288) (sc_382 hS) rfl ?_
      refine s_iald (N := 2) (dt_M_safest 51 _ _ _ rfl) (sc_390 hS) rfl ?_
      refine s_isub (dt_M_safest 52 _ _ _ rfl) ?_
      refine s_aload_n (dt_M_safest 53 _ _ _ rfl) rfl ?_
      refine s_iload_n (dt_M_safest 54 _ _ _ rfl) rfl ?_
      refine s_callO (y := y_M_oddsOf) (Y' := Y_M_oddsOf) (as := [VR (some 382), VI s8.1]) (r := fun q => some (VI q.1)) (M' := fun q => q.2) (kInvV (dt_M_safest 55 _ _ _ rfl) kin_M_oddsOf 1 rfl (sc_382 hS) kse_M_oddsOf rfl) kl_M_425 md_M_oddsOf rfl rfl (fun q hq => c_M_oddsOf hS s8.1 s8.2 q hq) (fun q9 => ?_)
      refine s_iast (N := 151) (dt_M_safest 56 _ _ _ rfl) (sc_423 hS) rfl ?_
      refine s_letM (fun M10 => ?_)
      refine s_iinc (dt_M_safest 57 _ _ _ rfl) rfl rfl ?_
      refine s_goto (tgt := 61) (dt_M_safest 58 _ _ _ rfl) rfl ?_
      exact s_mask [true, true, true, false, false] (s_ret0 rfl)
    · exact s_mask [true, true, false, false, false] (s_ret0 rfl)
  intro e11
  refine s_iconst (dt_M_safest 59 _ _ _ rfl) rfl ?_
  refine s_istore_n (dt_M_safest 60 _ _ _ rfl) rfl ?_
  refine s_bd (κ := (fun (e16 : KM) => kC 140 [some (VR (some 382)), some (VI e6), none, none, none] [] S e16)) (s_mask [true, true, true, false, false] (s_while (c := fun s12 => kC 103 [some (VR (some 382)), some (VI e6), some (VI s12.1), none, none] [] S s12.2) (fun s12 => ?_) ((0 : Int), e11))) ?_
  · refine s_iload_n (dt_M_safest 61 _ _ _ rfl) rfl ?_
    refine s_iload_n (dt_M_safest 62 _ _ _ rfl) rfl ?_
    refine s_if_icmp_gt (tgt := 140) (dt_M_safest 63 _ _ _ rfl) rfl ?_ ?_
    · refine s_aload_n (dt_M_safest 64 _ _ _ rfl) rfl ?_
      refine s_getR (c := 1) (j := 60) (o := (some 422)) (dt_M_safest 65 _ _ _ rfl) (kf_M_137) (sc_382 hS) rfl rfl ?_
      refine s_sipush (dt_M_safest 66 _ _ _ rfl) rfl ?_
      refine s_aload_n (dt_M_safest 67 _ _ _ rfl) rfl ?_
      refine s_callO (y := y_M_many) (Y' := Y_M_many) (as := [VR (some 382)]) (r := fun q => some (VI q)) (M' := fun q => s12.2) (kInvV (dt_M_safest 68 _ _ _ rfl) kin_M_many 1 rfl (sc_382 hS) kse_M_many rfl) kl_M_385 md_M_many rfl rfl (fun q hq => c_M_many hS s12.2 q hq) (fun q13 => ?_)
      refine s_imul (dt_M_safest 69 _ _ _ rfl) ?_
      refine s_iload_n (dt_M_safest 70 _ _ _ rfl) rfl ?_
      refine s_iadd (dt_M_safest 71 _ _ _ rfl) ?_
      refine s_iload_n (dt_M_safest 72 _ _ _ rfl) rfl ?_
      refine s_bd (κ := fun t14 => kC 133 [some (VR (some 382)), some (VI e6), some (VI s12.1), none, none] [VI t14, VI (w32 ((w32 ((1201 : Int) * q13)) + s12.1)), VR (some 422)] S s12.2) ?_ (fun t14 => ?_)
      · refine s_if_ne (tgt := 130) (dt_M_safest 73 _ _ _ rfl) rfl ?_ ?_
        · refine s_iconst (dt_M_safest 74 _ _ _ rfl) rfl ?_
          refine s_goto (tgt := 133) (dt_M_safest 75 _ _ _ rfl) rfl ?_
          exact s_mask [true, true, true, false, false] (s_ret0 rfl)
        · refine s_ldcw (n := (100000000 : Int)) (kc_M_451) (dt_M_safest 76 _ _ _ rfl) rfl ?_
          exact s_mask [true, true, true, false, false] (s_ret0 rfl)
      refine s_iast (N := 10809) (dt_M_safest 77 _ _ _ rfl) (sc_422 hS) rfl ?_
      refine s_letM (fun M15 => ?_)
      refine s_iinc (dt_M_safest 78 _ _ _ rfl) rfl rfl ?_
      refine s_goto (tgt := 103) (dt_M_safest 79 _ _ _ rfl) rfl ?_
      exact s_mask [true, true, true, false, false] (s_ret0 rfl)
    · exact s_mask [true, true, false, false, false] (s_ret0 rfl)
  intro e16
  refine s_aload_n (dt_M_safest 80 _ _ _ rfl) rfl ?_
  refine s_callO (y := y_M_many) (Y' := Y_M_many) (as := [VR (some 382)]) (r := fun q => some (VI q)) (M' := fun q => e16) (kInvV (dt_M_safest 81 _ _ _ rfl) kin_M_many 1 rfl (sc_382 hS) kse_M_many rfl) kl_M_385 md_M_many rfl rfl (fun q hq => c_M_many hS e16 q hq) (fun q17 => ?_)
  refine s_iconst (dt_M_safest 82 _ _ _ rfl) rfl ?_
  refine s_isub (dt_M_safest 83 _ _ _ rfl) ?_
  refine s_letI (fun v18 => ?_)
  refine s_istore_n (dt_M_safest 84 _ _ _ rfl) rfl ?_
  refine s_bd (κ := (fun (e24 : KM) => kC 188 [some (VR (some 382)), some (VI e6), none, none, none] [] S e24)) (s_mask [true, true, true, false, false] (s_while (c := fun s19 => kC 147 [some (VR (some 382)), some (VI e6), some (VI s19.1), none, none] [] S s19.2) (fun s19 => ?_) (v18, e16))) ?_
  · refine s_iload_n (dt_M_safest 85 _ _ _ rfl) rfl ?_
    refine s_if_lt (tgt := 188) (dt_M_safest 86 _ _ _ rfl) rfl ?_ ?_
    · exact s_mask [true, true, false, false, false] (s_ret0 rfl)
    · refine s_iconst (dt_M_safest 87 _ _ _ rfl) rfl ?_
      refine s_istore_n (dt_M_safest 88 _ _ _ rfl) rfl ?_
      refine s_bd (κ := (fun (e23 : KM) => kC 182 [some (VR (some 382)), some (VI e6), some (VI s19.1), none, none] [] S e23)) (s_mask [true, true, true, true, false] (s_while (c := fun s20 => kC 153 [some (VR (some 382)), some (VI e6), some (VI s19.1), some (VI s20.1), none] [] S s20.2) (fun s20 => ?_) ((0 : Int), s19.2))) ?_
      · refine s_iload_n (dt_M_safest 89 _ _ _ rfl) rfl ?_
        refine s_iload_n (dt_M_safest 90 _ _ _ rfl) rfl ?_
        refine s_if_icmp_gt (tgt := 182) (dt_M_safest 91 _ _ _ rfl) rfl ?_ ?_
        · refine s_aload_n (dt_M_safest 92 _ _ _ rfl) rfl ?_
          refine s_getR (c := 1) (j := 60) (o := (some 422)) (dt_M_safest 93 _ _ _ rfl) (kf_M_137) (sc_382 hS) rfl rfl ?_
          refine s_sipush (dt_M_safest 94 _ _ _ rfl) rfl ?_
          refine s_iload_n (dt_M_safest 95 _ _ _ rfl) rfl ?_
          refine s_imul (dt_M_safest 96 _ _ _ rfl) ?_
          refine s_iload_n (dt_M_safest 97 _ _ _ rfl) rfl ?_
          refine s_iadd (dt_M_safest 98 _ _ _ rfl) ?_
          refine s_aload_n (dt_M_safest 99 _ _ _ rfl) rfl ?_
          refine s_iload_n (dt_M_safest 100 _ _ _ rfl) rfl ?_
          refine s_iload_n (dt_M_safest 101 _ _ _ rfl) rfl ?_
          refine s_callO (y := y_M_layPerson) (Y' := Y_M_layPerson) (as := [VR (some 382), VI s19.1, VI s20.1]) (r := fun q => some (VI q)) (M' := fun q => s20.2) (kInvV (dt_M_safest 102 _ _ _ rfl) kin_M_layPerson 1 rfl (sc_382 hS) kse_M_layPerson rfl) kl_M_497 md_M_layPerson rfl rfl (fun q hq => c_M_layPerson hS s19.1 s20.1 s20.2 q hq) (fun q21 => ?_)
          refine s_iast (N := 10809) (dt_M_safest 103 _ _ _ rfl) (sc_422 hS) rfl ?_
          refine s_letM (fun M22 => ?_)
          refine s_iinc (dt_M_safest 104 _ _ _ rfl) rfl rfl ?_
          refine s_goto (tgt := 153) (dt_M_safest 105 _ _ _ rfl) rfl ?_
          exact s_mask [true, true, true, true, false] (s_ret0 rfl)
        · exact s_mask [true, true, true, false, false] (s_ret0 rfl)
      intro e23
      refine s_iinc (dt_M_safest 106 _ _ _ rfl) rfl rfl ?_
      refine s_goto (tgt := 147) (dt_M_safest 107 _ _ _ rfl) rfl ?_
      exact s_mask [true, true, true, false, false] (s_ret0 rfl)
  intro e24
  refine s_aload_n (dt_M_safest 108 _ _ _ rfl) rfl ?_
  refine s_getR (c := 1) (j := 60) (o := (some 422)) (dt_M_safest 109 _ _ _ rfl) (kf_M_137) (sc_382 hS) rfl rfl ?_
  refine s_iload_n (dt_M_safest 110 _ _ _ rfl) rfl ?_
  refine s_iald (N := 10809) (dt_M_safest 111 _ _ _ rfl) (sc_422 hS) rfl ?_
  refine s_letI (fun v25 => ?_)
  refine s_istore_n (dt_M_safest 112 _ _ _ rfl) rfl ?_
  refine s_iconst (dt_M_safest 113 _ _ _ rfl) rfl ?_
  refine s_istore_n (dt_M_safest 114 _ _ _ rfl) rfl ?_
  refine s_bd (κ := (fun (e34 : KM) => kC 260 [some (VR (some 382)), none, some (VI v25), none, none] [] S e34)) (s_mask [true, true, true, true, false] (s_while (c := fun s26 => kC 197 [some (VR (some 382)), some (VI s26.1), some (VI v25), some (VI s26.2.1), none] [] S s26.2.2) (fun s26 => ?_) (e6, (0 : Int), e24))) ?_
  · refine s_iload_n (dt_M_safest 115 _ _ _ rfl) rfl ?_
    refine s_aload_n (dt_M_safest 116 _ _ _ rfl) rfl ?_
    refine s_callO (y := y_M_many) (Y' := Y_M_many) (as := [VR (some 382)]) (r := fun q => some (VI q)) (M' := fun q => s26.2.2) (kInvV (dt_M_safest 117 _ _ _ rfl) kin_M_many 1 rfl (sc_382 hS) kse_M_many rfl) kl_M_385 md_M_many rfl rfl (fun q hq => c_M_many hS s26.2.2 q hq) (fun q27 => ?_)
    refine s_if_icmp_ge (tgt := 260) (dt_M_safest 118 _ _ _ rfl) rfl ?_ ?_
    · refine s_aload_n (dt_M_safest 119 _ _ _ rfl) rfl ?_
      refine s_getR (c := 1) (j := 62) (o := (some 424)) (dt_M_safest 120 _ _ _ rfl) (kf_M_143) (sc_382 hS) rfl rfl ?_
      refine s_iload_n (dt_M_safest 121 _ _ _ rfl) rfl ?_
      refine s_iconst (dt_M_safest 122 _ _ _ rfl) rfl ?_
      refine s_iast (N := 8) (dt_M_safest 123 _ _ _ rfl) (sc_424 hS) rfl ?_
      refine s_letM (fun M28 => ?_)
      refine s_aload_n (dt_M_safest 124 _ _ _ rfl) rfl ?_
      refine s_iload_n (dt_M_safest 125 _ _ _ rfl) rfl ?_
      refine s_callO (y := y_M_isAlive) (Y' := Y_M_isAlive) (as := [VR (some 382), VI s26.2.1]) (r := fun q => some (VI q)) (M' := fun q => M28) (kInvV (dt_M_safest 126 _ _ _ rfl) kin_M_isAlive 1 rfl (sc_382 hS) kse_M_isAlive rfl) kl_M_404 md_M_isAlive rfl rfl (fun q hq => c_M_isAlive hS s26.2.1 M28 q hq) (fun q29 => ?_)
      refine s_bd (κ := fun t33 => kC 254 [some (VR (some 382)), some (VI t33.1), some (VI v25), some (VI s26.2.1), none] [] S t33.2) ?_ (fun t33 => ?_)
      · refine s_if_ne (tgt := 223) (dt_M_safest 127 _ _ _ rfl) rfl ?_ ?_
        · refine s_goto (tgt := 254) (dt_M_safest 128 _ _ _ rfl) rfl ?_
          exact s_mask [true, true, true, true, false] (s_ret0 rfl)
        · refine s_aload_n (dt_M_safest 129 _ _ _ rfl) rfl ?_
          refine s_iload_n (dt_M_safest 130 _ _ _ rfl) rfl ?_
          refine s_iload_n (dt_M_safest 131 _ _ _ rfl) rfl ?_
          refine s_callO (y := y_M_bestAge) (Y' := Y_M_bestAge) (as := [VR (some 382), VI s26.2.1, VI s26.1]) (r := fun q => some (VI q)) (M' := fun q => M28) (kInvV (dt_M_safest 132 _ _ _ rfl) kin_M_bestAge 1 rfl (sc_382 hS) kse_M_bestAge rfl) kl_M_494 md_M_bestAge rfl rfl (fun q hq => c_M_bestAge hS s26.2.1 s26.1 M28 q hq) (fun q30 => ?_)
          refine s_istore (dt_M_safest 133 _ _ _ rfl) rfl ?_
          refine s_aload_n (dt_M_safest 134 _ _ _ rfl) rfl ?_
          refine s_getR (c := 1) (j := 62) (o := (some 424)) (dt_M_safest 135 _ _ _ rfl) (kf_M_143) (sc_382 hS) rfl rfl ?_
          refine s_iload_n (dt_M_safest 136 _ _ _ rfl) rfl ?_
          refine s_aload_n (dt_M_safest 137 _ _ _ rfl) rfl ?_
          refine s_getR (c := 1) (j := 16) (o := (some 390)) (dt_M_safest 138 _ _ _ rfl) (kf_M_36) (sc_382 hS) rfl rfl ?_
          refine s_aload_n (dt_M_safest 139 _ _ _ rfl) rfl ?_
          refine s_getI (c := 1) (j := 37) (dt_M_safest 140 _ _ _ rfl) (kf_M_288) (sc_382 hS) rfl ?_
          refine s_iald (N := 2) (dt_M_safest 141 _ _ _ rfl) (sc_390 hS) rfl ?_
          refine s_iload (dt_M_safest 142 _ _ _ rfl) rfl ?_
          refine s_iadd (dt_M_safest 143 _ _ _ rfl) ?_
          refine s_iast (N := 8) (dt_M_safest 144 _ _ _ rfl) (sc_424 hS) rfl ?_
          refine s_letM (fun M31 => ?_)
          refine s_iload_n (dt_M_safest 145 _ _ _ rfl) rfl ?_
          refine s_iload (dt_M_safest 146 _ _ _ rfl) rfl ?_
          refine s_isub (dt_M_safest 147 _ _ _ rfl) ?_
          refine s_letI (fun v32 => ?_)
          refine s_istore_n (dt_M_safest 148 _ _ _ rfl) rfl ?_
          exact s_mask [true, true, true, true, false] (s_ret0 rfl)
      refine s_iinc (dt_M_safest 149 _ _ _ rfl) rfl rfl ?_
      refine s_goto (tgt := 197) (dt_M_safest 150 _ _ _ rfl) rfl ?_
      exact s_mask [true, true, true, true, false] (s_ret0 rfl)
    · exact s_mask [true, false, true, false, false] (s_ret0 rfl)
  intro e34
  refine s_aload_n (dt_M_safest 151 _ _ _ rfl) rfl ?_
  refine s_aload_n (dt_M_safest 152 _ _ _ rfl) rfl ?_
  refine s_callO (y := y_M_many) (Y' := Y_M_many) (as := [VR (some 382)]) (r := fun q => some (VI q)) (M' := fun q => e34) (kInvV (dt_M_safest 153 _ _ _ rfl) kin_M_many 1 rfl (sc_382 hS) kse_M_many rfl) kl_M_385 md_M_many rfl rfl (fun q hq => c_M_many hS e34 q hq) (fun q35 => ?_)
  refine s_putI (c := 1) (j := 63) (dt_M_safest 154 _ _ _ rfl) kp_M_401 (sc_382 hS) ⟨rfl, rfl⟩ ?_
  refine s_letM (fun M36 => ?_)
  refine s_iload_n (dt_M_safest 155 _ _ _ rfl) rfl ?_
  exact s_iret (dt_M_safest 156 _ _ _ rfl) rfl rfl
theorem c_M_safest {S : KS} (hS : KExt 435 S)   (M : KM) : ∀ q, f_M_safest  M = some q → Ctr y_M_safest Y_M_safest [VR (some 382)] S M (some (VI q.1)) S (q.2) := fun q hq =>
  ctr_of md_M_safest (Nat.le_of_ble_eq_true rfl) ⟨Nat.le_refl _, Nat.le_refl _⟩ 4 hq rfl (fun _ G => sim_M_safest hS   M)
set_option maxRecDepth 100000 in
theorem sim_M_bends {G : Gam} {S : KS} (hS : KExt 435 S)   (M : KM) : Sim G Y_M_bends (f_M_bends  M) (kC 0 [some (VR (some 382)), none] [] S M) (fun (q : Int × KM) => Sum.inr (some (VI q.1), S, q.2)) := by
  unfold f_M_bends
  refine s_aload_n (dt_M_bends 0 _ _ _ rfl) rfl ?_
  refine s_getR (c := 1) (j := 16) (o := (some 390)) (dt_M_bends 1 _ _ _ rfl) (kf_M_36) (sc_382 hS) rfl rfl ?_
  refine s_aload_n (dt_M_bends 2 _ _ _ rfl) rfl ?_
  refine s_getI (c := 1) (j := 37) (dt_M_bends 3 _ _ _ rfl) (kf_M_288) (sc_382 hS) rfl ?_
  refine s_iald (N := 2) (dt_M_bends 4 _ _ _ rfl) (sc_390 hS) rfl ?_
  refine s_iconst (dt_M_bends 5 _ _ _ rfl) rfl ?_
  refine s_iadd (dt_M_bends 6 _ _ _ rfl) ?_
  refine s_letI (fun v1 => ?_)
  refine s_istore_n (dt_M_bends 7 _ _ _ rfl) rfl ?_
  refine s_bd (κ := (Sum.elim (fun (e6 : KM) => kC 50 [none, none] [] S e6) (fun (e7 : KM) => kC 58 [none, none] [] S e7))) (s_mask [true, true] (s_while (c := fun s2 => kC 12 [some (VR (some 382)), some (VI s2.1)] [] S s2.2) (fun s2 => ?_) (v1, M))) ?_
  · refine s_iload_n (dt_M_bends 8 _ _ _ rfl) rfl ?_
    refine s_aload_n (dt_M_bends 9 _ _ _ rfl) rfl ?_
    refine s_getR (c := 1) (j := 17) (o := (some 391)) (dt_M_bends 10 _ _ _ rfl) (kf_M_39) (sc_382 hS) rfl rfl ?_
    refine s_aload_n (dt_M_bends 11 _ _ _ rfl) rfl ?_
    refine s_getI (c := 1) (j := 37) (dt_M_bends 12 _ _ _ rfl) (kf_M_288) (sc_382 hS) rfl ?_
    refine s_iald (N := 2) (dt_M_bends 13 _ _ _ rfl) (sc_391 hS) rfl ?_
    refine s_if_icmp_ge (tgt := 58) (dt_M_bends 14 _ _ _ rfl) rfl ?_ ?_
    · refine s_iconst (dt_M_bends 15 _ _ _ rfl) rfl ?_
      refine s_aload_n (dt_M_bends 16 _ _ _ rfl) rfl ?_
      refine s_iload_n (dt_M_bends 17 _ _ _ rfl) rfl ?_
      refine s_callO (y := y_M_oddsOf) (Y' := Y_M_oddsOf) (as := [VR (some 382), VI s2.1]) (r := fun q => some (VI q.1)) (M' := fun q => q.2) (kInvV (dt_M_bends 18 _ _ _ rfl) kin_M_oddsOf 1 rfl (sc_382 hS) kse_M_oddsOf rfl) kl_M_425 md_M_oddsOf rfl rfl (fun q hq => c_M_oddsOf hS s2.1 s2.2 q hq) (fun q3 => ?_)
      refine s_imul (dt_M_bends 19 _ _ _ rfl) ?_
      refine s_aload_n (dt_M_bends 20 _ _ _ rfl) rfl ?_
      refine s_iload_n (dt_M_bends 21 _ _ _ rfl) rfl ?_
      refine s_iconst (dt_M_bends 22 _ _ _ rfl) rfl ?_
      refine s_isub (dt_M_bends 23 _ _ _ rfl) ?_
      refine s_callO (y := y_M_oddsOf) (Y' := Y_M_oddsOf) (as := [VR (some 382), VI (w32 (s2.1 - (1 : Int)))]) (r := fun q => some (VI q.1)) (M' := fun q => q.2) (kInvV (dt_M_bends 24 _ _ _ rfl) kin_M_oddsOf 1 rfl (sc_382 hS) kse_M_oddsOf rfl) kl_M_425 md_M_oddsOf rfl rfl (fun q hq => c_M_oddsOf hS (w32 (s2.1 - (1 : Int))) q3.2 q hq) (fun q4 => ?_)
      refine s_aload_n (dt_M_bends 25 _ _ _ rfl) rfl ?_
      refine s_iload_n (dt_M_bends 26 _ _ _ rfl) rfl ?_
      refine s_iconst (dt_M_bends 27 _ _ _ rfl) rfl ?_
      refine s_iadd (dt_M_bends 28 _ _ _ rfl) ?_
      refine s_callO (y := y_M_oddsOf) (Y' := Y_M_oddsOf) (as := [VR (some 382), VI (w32 (s2.1 + (1 : Int)))]) (r := fun q => some (VI q.1)) (M' := fun q => q.2) (kInvV (dt_M_bends 29 _ _ _ rfl) kin_M_oddsOf 1 rfl (sc_382 hS) kse_M_oddsOf rfl) kl_M_425 md_M_oddsOf rfl rfl (fun q hq => c_M_oddsOf hS (w32 (s2.1 + (1 : Int))) q4.2 q hq) (fun q5 => ?_)
      refine s_iadd (dt_M_bends 30 _ _ _ rfl) ?_
      refine s_if_icmp_le (tgt := 52) (dt_M_bends 31 _ _ _ rfl) rfl ?_ ?_
      · refine s_iinc (dt_M_bends 34 _ _ _ rfl) rfl rfl ?_
        refine s_goto (tgt := 12) (dt_M_bends 35 _ _ _ rfl) rfl ?_
        exact s_mask [true, true] (s_ret0 rfl)
      · exact s_mask [false, false] (s_ret0 rfl)
    · exact s_mask [false, false] (s_ret0 rfl)
  refine s_elim (fun e6 => ?_) ?_
  · refine s_iconst (dt_M_bends 32 _ _ _ rfl) rfl ?_
    exact s_zret01 (dt_M_bends 33 _ _ _ rfl) rfl rfl rfl
  intro e7
  refine s_iconst (dt_M_bends 36 _ _ _ rfl) rfl ?_
  exact s_zret01 (dt_M_bends 37 _ _ _ rfl) rfl rfl rfl
theorem c_M_bends {S : KS} (hS : KExt 435 S)   (M : KM) : ∀ q, f_M_bends  M = some q → Ctr y_M_bends Y_M_bends [VR (some 382)] S M (some (VI q.1)) S (q.2) := fun q hq =>
  ctr_of md_M_bends (Nat.le_of_ble_eq_true rfl) ⟨Nat.le_refl _, Nat.le_refl _⟩ 1 hq rfl (fun _ G => sim_M_bends hS   M)
set_option maxRecDepth 100000 in
theorem sim_M_fewest {G : Gam} {S : KS} (hS : KExt 435 S)  (a0 : Int) (a1 : Int) (a2 : Int) (M : KM) : Sim G Y_M_fewest (f_M_fewest a0 a1 a2 M) (kC 0 [some (VR (some 382)), some (VI a0), some (VI a1), some (VI a2), none] [] S M) (fun (q : Int × KM) => Sum.inr (some (VI q.1), S, q.2)) := by
  unfold f_M_fewest
  refine s_iconst (dt_M_fewest 0 _ _ _ rfl) rfl ?_
  refine s_istore (dt_M_fewest 1 _ _ _ rfl) rfl ?_
  refine s_bd (κ := (Sum.elim (fun (e3 : Int × KM) => kC 52 [none, none, none, none, some (VI e3.1)] [] S e3.2) (fun (e4 : KM) => kC 61 [none, none, none, none, none] [] S e4))) (s_mask [true, true, true, true, true] (s_while (c := fun s1 => kC 3 [some (VR (some 382)), some (VI a0), some (VI a1), some (VI a2), some (VI s1.1)] [] S s1.2) (fun s1 => ?_) ((1 : Int), M))) ?_
  · refine s_iload (dt_M_fewest 2 _ _ _ rfl) rfl ?_
    refine s_iload_n (dt_M_fewest 3 _ _ _ rfl) rfl ?_
    refine s_if_icmp_gt (tgt := 61) (dt_M_fewest 4 _ _ _ rfl) rfl ?_ ?_
    · refine s_aload_n (dt_M_fewest 5 _ _ _ rfl) rfl ?_
      refine s_getR (c := 1) (j := 46) (o := (some 411)) (dt_M_fewest 6 _ _ _ rfl) (kf_M_101) (sc_382 hS) rfl rfl ?_
      refine s_iconst (dt_M_fewest 7 _ _ _ rfl) rfl ?_
      refine s_iload_n (dt_M_fewest 8 _ _ _ rfl) rfl ?_
      refine s_iadd (dt_M_fewest 9 _ _ _ rfl) ?_
      refine s_iald (N := 171) (dt_M_fewest 10 _ _ _ rfl) (sc_411 hS) rfl ?_
      refine s_iload (dt_M_fewest 11 _ _ _ rfl) rfl ?_
      refine s_iadd (dt_M_fewest 12 _ _ _ rfl) ?_
      refine s_aload_n (dt_M_fewest 13 _ _ _ rfl) rfl ?_
      refine s_getR (c := 1) (j := 17) (o := (some 391)) (dt_M_fewest 14 _ _ _ rfl) (kf_M_39) (sc_382 hS) rfl rfl ?_
      refine s_aload_n (dt_M_fewest 15 _ _ _ rfl) rfl ?_
      refine s_getI (c := 1) (j := 37) (dt_M_fewest 16 _ _ _ rfl) (kf_M_288) (sc_382 hS) rfl ?_
      refine s_iald (N := 2) (dt_M_fewest 17 _ _ _ rfl) (sc_391 hS) rfl ?_
      refine s_if_icmp_gt (tgt := 61) (dt_M_fewest 18 _ _ _ rfl) rfl ?_ ?_
      · refine s_aload_n (dt_M_fewest 19 _ _ _ rfl) rfl ?_
        refine s_iload_n (dt_M_fewest 20 _ _ _ rfl) rfl ?_
        refine s_iload_n (dt_M_fewest 21 _ _ _ rfl) rfl ?_
        refine s_aload_n (dt_M_fewest 22 _ _ _ rfl) rfl ?_
        refine s_getR (c := 1) (j := 46) (o := (some 411)) (dt_M_fewest 23 _ _ _ rfl) (kf_M_101) (sc_382 hS) rfl rfl ?_
        refine s_iconst (dt_M_fewest 24 _ _ _ rfl) rfl ?_
        refine s_iload_n (dt_M_fewest 25 _ _ _ rfl) rfl ?_
        refine s_iadd (dt_M_fewest 26 _ _ _ rfl) ?_
        refine s_iald (N := 171) (dt_M_fewest 27 _ _ _ rfl) (sc_411 hS) rfl ?_
        refine s_iload (dt_M_fewest 28 _ _ _ rfl) rfl ?_
        refine s_iadd (dt_M_fewest 29 _ _ _ rfl) ?_
        refine s_callO (y := y_M_wouldHave) (Y' := Y_M_wouldHave) (as := [VR (some 382), VI a0, VI a1, VI (w32 ((s1.2 411 (w32 ((0 : Int) + a0)).toNat) + s1.1))]) (r := fun q => some (VI q.1)) (M' := fun q => q.2) (kInvV (dt_M_fewest 30 _ _ _ rfl) kin_M_wouldHave 1 rfl (sc_382 hS) kse_M_wouldHave rfl) kl_M_410 md_M_wouldHave rfl rfl (fun q hq => c_M_wouldHave hS a0 a1 (w32 ((s1.2 411 (w32 ((0 : Int) + a0)).toNat) + s1.1)) s1.2 q hq) (fun q2 => ?_)
        refine s_if_eq (tgt := 55) (dt_M_fewest 31 _ _ _ rfl) rfl ?_ ?_
        · refine s_iinc (dt_M_fewest 34 _ _ _ rfl) rfl rfl ?_
          refine s_goto (tgt := 3) (dt_M_fewest 35 _ _ _ rfl) rfl ?_
          exact s_mask [true, true, true, true, true] (s_ret0 rfl)
        · exact s_mask [false, false, false, false, true] (s_ret0 rfl)
      · exact s_mask [false, false, false, false, false] (s_ret0 rfl)
    · exact s_mask [false, false, false, false, false] (s_ret0 rfl)
  refine s_elim (fun e3 => ?_) ?_
  · refine s_iload (dt_M_fewest 32 _ _ _ rfl) rfl ?_
    exact s_iret (dt_M_fewest 33 _ _ _ rfl) rfl rfl
  intro e4
  refine s_iconst (dt_M_fewest 36 _ _ _ rfl) rfl ?_
  exact s_iret (dt_M_fewest 37 _ _ _ rfl) rfl rfl
theorem c_M_fewest {S : KS} (hS : KExt 435 S)  (a0 : Int) (a1 : Int) (a2 : Int) (M : KM) : ∀ q, f_M_fewest a0 a1 a2 M = some q → Ctr y_M_fewest Y_M_fewest [VR (some 382), VI a0, VI a1, VI a2] S M (some (VI q.1)) S (q.2) := fun q hq =>
  ctr_of md_M_fewest (Nat.le_of_ble_eq_true rfl) ⟨Nat.le_refl _, Nat.le_refl _⟩ 1 hq rfl (fun _ G => sim_M_fewest hS  a0 a1 a2 M)
set_option maxRecDepth 100000 in
theorem sim_M_twice {G : Gam} {S : KS} (hS : KExt 435 S)  (a0 : Int) (M : KM) : Sim G Y_M_twice (f_M_twice a0 M) (kC 0 [some (VR (some 382)), some (VI a0), none, none, none, none, none, none] [] S M) (fun (q : Int × KM) => Sum.inr (some (VI q.1), S, q.2)) := by
  unfold f_M_twice
  refine s_aload_n (dt_M_twice 0 _ _ _ rfl) rfl ?_
  refine s_iconst (dt_M_twice 1 _ _ _ rfl) rfl ?_
  refine s_putI (c := 1) (j := 63) (dt_M_twice 2 _ _ _ rfl) kp_M_401 (sc_382 hS) ⟨rfl, rfl⟩ ?_
  refine s_letM (fun M1 => ?_)
  refine s_aload_n (dt_M_twice 3 _ _ _ rfl) rfl ?_
  refine s_iload_n (dt_M_twice 4 _ _ _ rfl) rfl ?_
  refine s_callO (y := y_M_isRight) (Y' := Y_M_isRight) (as := [VR (some 382), VI a0]) (r := fun q => some (VI q)) (M' := fun q => M1) (kInvV (dt_M_twice 5 _ _ _ rfl) kin_M_isRight 1 rfl (sc_382 hS) kse_M_isRight rfl) kl_M_416 md_M_isRight rfl rfl (fun q hq => c_M_isRight hS a0 M1 q hq) (fun q2 => ?_)
  refine s_if_ne (tgt := 15) (dt_M_twice 6 _ _ _ rfl) rfl ?_ ?_
  · refine s_iconst (dt_M_twice 7 _ _ _ rfl) rfl ?_
    exact s_iret (dt_M_twice 8 _ _ _ rfl) rfl rfl
  · refine s_iconst (dt_M_twice 9 _ _ _ rfl) rfl ?_
    refine s_istore_n (dt_M_twice 10 _ _ _ rfl) rfl ?_
    refine s_bipush (dt_M_twice 11 _ _ _ rfl) rfl ?_
    refine s_aload_n (dt_M_twice 12 _ _ _ rfl) rfl ?_
    refine s_getI (c := 1) (j := 37) (dt_M_twice 13 _ _ _ rfl) (kf_M_288) (sc_382 hS) rfl ?_
    refine s_imul (dt_M_twice 14 _ _ _ rfl) ?_
    refine s_letI (fun v3 => ?_)
    refine s_istore_n (dt_M_twice 15 _ _ _ rfl) rfl ?_
    refine s_bd (κ := (fun (e18 : Int × KM) => kC 192 [none, none, some (VI e18.1), none, none, none, none, none] [] S e18.2)) (s_mask [true, true, true, true, false, false, false, false] (s_while (c := fun s4 => kC 25 [some (VR (some 382)), some (VI a0), some (VI s4.1), some (VI s4.2.1), none, none, none, none] [] S s4.2.2) (fun s4 => ?_) ((0 : Int), v3, M1))) ?_
    · refine s_iload_n (dt_M_twice 16 _ _ _ rfl) rfl ?_
      refine s_bipush (dt_M_twice 17 _ _ _ rfl) rfl ?_
      refine s_aload_n (dt_M_twice 18 _ _ _ rfl) rfl ?_
      refine s_getI (c := 1) (j := 37) (dt_M_twice 19 _ _ _ rfl) (kf_M_288) (sc_382 hS) rfl ?_
      refine s_imul (dt_M_twice 20 _ _ _ rfl) ?_
      refine s_aload_n (dt_M_twice 21 _ _ _ rfl) rfl ?_
      refine s_getR (c := 1) (j := 12) (o := (some 386)) (dt_M_twice 22 _ _ _ rfl) (kf_M_24) (sc_382 hS) rfl rfl ?_
      refine s_aload_n (dt_M_twice 23 _ _ _ rfl) rfl ?_
      refine s_getI (c := 1) (j := 37) (dt_M_twice 24 _ _ _ rfl) (kf_M_288) (sc_382 hS) rfl ?_
      refine s_iald (N := 2) (dt_M_twice 25 _ _ _ rfl) (sc_386 hS) rfl ?_
      refine s_iadd (dt_M_twice 26 _ _ _ rfl) ?_
      refine s_if_icmp_ge (tgt := 192) (dt_M_twice 27 _ _ _ rfl) rfl ?_ ?_
      · refine s_aload_n (dt_M_twice 28 _ _ _ rfl) rfl ?_
        refine s_getR (c := 1) (j := 23) (o := (some 397)) (dt_M_twice 29 _ _ _ rfl) (kf_M_57) (sc_382 hS) rfl rfl ?_
        refine s_iload_n (dt_M_twice 30 _ _ _ rfl) rfl ?_
        refine s_iald (N := 40) (dt_M_twice 31 _ _ _ rfl) (sc_397 hS) rfl ?_
        refine s_letI (fun v5 => ?_)
        refine s_istore (dt_M_twice 32 _ _ _ rfl) rfl ?_
        refine s_aload_n (dt_M_twice 33 _ _ _ rfl) rfl ?_
        refine s_getR (c := 1) (j := 24) (o := (some 398)) (dt_M_twice 34 _ _ _ rfl) (kf_M_60) (sc_382 hS) rfl rfl ?_
        refine s_iload_n (dt_M_twice 35 _ _ _ rfl) rfl ?_
        refine s_iald (N := 40) (dt_M_twice 36 _ _ _ rfl) (sc_398 hS) rfl ?_
        refine s_letI (fun v6 => ?_)
        refine s_istore (dt_M_twice 37 _ _ _ rfl) rfl ?_
        refine s_aload_n (dt_M_twice 38 _ _ _ rfl) rfl ?_
        refine s_iload (dt_M_twice 39 _ _ _ rfl) rfl ?_
        refine s_iload_n (dt_M_twice 40 _ _ _ rfl) rfl ?_
        refine s_callO (y := y_M_doesHave) (Y' := Y_M_doesHave) (as := [VR (some 382), VI v5, VI a0]) (r := fun q => some (VI q.1)) (M' := fun q => q.2) (kInvV (dt_M_twice 41 _ _ _ rfl) kin_M_doesHave 1 rfl (sc_382 hS) kse_M_doesHave rfl) kl_M_419 md_M_doesHave rfl rfl (fun q hq => c_M_doesHave hS v5 a0 s4.2.2 q hq) (fun q7 => ?_)
        refine s_bd (κ := fun t17 => kC 186 [some (VR (some 382)), some (VI a0), some (VI t17.1), some (VI s4.2.1), none, none, none, none] [] S t17.2) ?_ (fun t17 => ?_)
        · refine s_if_eq (tgt := 186) (dt_M_twice 42 _ _ _ rfl) rfl ?_ ?_
          · exact s_mask [true, true, true, true, false, false, false, false] (s_ret0 rfl)
          · refine s_aload_n (dt_M_twice 43 _ _ _ rfl) rfl ?_
            refine s_iload (dt_M_twice 44 _ _ _ rfl) rfl ?_
            refine s_callO (y := y_M_isAlive) (Y' := Y_M_isAlive) (as := [VR (some 382), VI v6]) (r := fun q => some (VI q)) (M' := fun q => q7.2) (kInvV (dt_M_twice 45 _ _ _ rfl) kin_M_isAlive 1 rfl (sc_382 hS) kse_M_isAlive rfl) kl_M_404 md_M_isAlive rfl rfl (fun q hq => c_M_isAlive hS v6 q7.2 q hq) (fun q8 => ?_)
            refine s_if_eq (tgt := 186) (dt_M_twice 46 _ _ _ rfl) rfl ?_ ?_
            · exact s_mask [true, true, true, true, false, false, false, false] (s_ret0 rfl)
            · refine s_aload_n (dt_M_twice 47 _ _ _ rfl) rfl ?_
              refine s_iload (dt_M_twice 48 _ _ _ rfl) rfl ?_
              refine s_iload_n (dt_M_twice 49 _ _ _ rfl) rfl ?_
              refine s_callO (y := y_M_doesHave) (Y' := Y_M_doesHave) (as := [VR (some 382), VI v6, VI a0]) (r := fun q => some (VI q.1)) (M' := fun q => q.2) (kInvV (dt_M_twice 50 _ _ _ rfl) kin_M_doesHave 1 rfl (sc_382 hS) kse_M_doesHave rfl) kl_M_419 md_M_doesHave rfl rfl (fun q hq => c_M_doesHave hS v6 a0 q7.2 q hq) (fun q9 => ?_)
              refine s_if_eq (tgt := 94) (dt_M_twice 51 _ _ _ rfl) rfl ?_ ?_
              · refine s_aload_n (dt_M_twice 53 _ _ _ rfl) rfl ?_
                refine s_getR (c := 1) (j := 46) (o := (some 411)) (dt_M_twice 54 _ _ _ rfl) (kf_M_101) (sc_382 hS) rfl rfl ?_
                refine s_iconst (dt_M_twice 55 _ _ _ rfl) rfl ?_
                refine s_iload (dt_M_twice 56 _ _ _ rfl) rfl ?_
                refine s_iadd (dt_M_twice 57 _ _ _ rfl) ?_
                refine s_iald (N := 171) (dt_M_twice 58 _ _ _ rfl) (sc_411 hS) rfl ?_
                refine s_aload_n (dt_M_twice 59 _ _ _ rfl) rfl ?_
                refine s_getR (c := 1) (j := 16) (o := (some 390)) (dt_M_twice 60 _ _ _ rfl) (kf_M_36) (sc_382 hS) rfl rfl ?_
                refine s_aload_n (dt_M_twice 61 _ _ _ rfl) rfl ?_
                refine s_getI (c := 1) (j := 37) (dt_M_twice 62 _ _ _ rfl) (kf_M_288) (sc_382 hS) rfl ?_
                refine s_iald (N := 2) (dt_M_twice 63 _ _ _ rfl) (sc_390 hS) rfl ?_
                refine s_isub (dt_M_twice 64 _ _ _ rfl) ?_
                refine s_letI (fun v10 => ?_)
                refine s_istore (dt_M_twice 65 _ _ _ rfl) rfl ?_
                refine s_aload_n (dt_M_twice 66 _ _ _ rfl) rfl ?_
                refine s_iload (dt_M_twice 67 _ _ _ rfl) rfl ?_
                refine s_iload_n (dt_M_twice 68 _ _ _ rfl) rfl ?_
                refine s_iload (dt_M_twice 69 _ _ _ rfl) rfl ?_
                refine s_bipush (dt_M_twice 70 _ _ _ rfl) rfl ?_
                refine s_bd (κ := fun t11 => kC 133 [some (VR (some 382)), some (VI a0), some (VI s4.1), some (VI s4.2.1), some (VI v5), some (VI v6), none, none] [VI t11, VI a0, VI v6, VR (some 382)] S q9.2) ?_ (fun t11 => ?_)
                · refine s_if_icmp_ge (tgt := 131) (dt_M_twice 71 _ _ _ rfl) rfl ?_ ?_
                  · refine s_iload (dt_M_twice 72 _ _ _ rfl) rfl ?_
                    refine s_goto (tgt := 133) (dt_M_twice 73 _ _ _ rfl) rfl ?_
                    exact s_mask [true, true, true, true, true, true, false, false] (s_ret0 rfl)
                  · refine s_bipush (dt_M_twice 74 _ _ _ rfl) rfl ?_
                    exact s_mask [true, true, true, true, true, true, false, false] (s_ret0 rfl)
                refine s_callO (y := y_M_fewest) (Y' := Y_M_fewest) (as := [VR (some 382), VI v6, VI a0, VI t11]) (r := fun q => some (VI q.1)) (M' := fun q => q.2) (kInvV (dt_M_twice 75 _ _ _ rfl) kin_M_fewest 1 rfl (sc_382 hS) kse_M_fewest rfl) kl_M_500 md_M_fewest rfl rfl (fun q hq => c_M_fewest hS v6 a0 t11 q9.2 q hq) (fun q12 => ?_)
                refine s_istore (dt_M_twice 76 _ _ _ rfl) rfl ?_
                refine s_iload (dt_M_twice 77 _ _ _ rfl) rfl ?_
                refine s_if_ge (tgt := 146) (dt_M_twice 78 _ _ _ rfl) rfl ?_ ?_
                · refine s_goto (tgt := 186) (dt_M_twice 79 _ _ _ rfl) rfl ?_
                  exact s_mask [true, true, true, true, false, false, false, false] (s_ret0 rfl)
                · refine s_iinc (dt_M_twice 80 _ _ _ rfl) rfl rfl ?_
                  refine s_iload_n (dt_M_twice 81 _ _ _ rfl) rfl ?_
                  refine s_iconst (dt_M_twice 82 _ _ _ rfl) rfl ?_
                  refine s_if_icmp_le (tgt := 157) (dt_M_twice 83 _ _ _ rfl) rfl ?_ ?_
                  · refine s_aload_n (dt_M_twice 85 _ _ _ rfl) rfl ?_
                    refine s_getR (c := 1) (j := 62) (o := (some 424)) (dt_M_twice 86 _ _ _ rfl) (kf_M_143) (sc_382 hS) rfl rfl ?_
                    refine s_iconst (dt_M_twice 87 _ _ _ rfl) rfl ?_
                    refine s_iload (dt_M_twice 88 _ _ _ rfl) rfl ?_
                    refine s_iast (N := 8) (dt_M_twice 89 _ _ _ rfl) (sc_424 hS) rfl ?_
                    refine s_letM (fun M13 => ?_)
                    refine s_aload_n (dt_M_twice 90 _ _ _ rfl) rfl ?_
                    refine s_getR (c := 1) (j := 62) (o := (some 424)) (dt_M_twice 91 _ _ _ rfl) (kf_M_143) (sc_382 hS) rfl rfl ?_
                    refine s_iconst (dt_M_twice 92 _ _ _ rfl) rfl ?_
                    refine s_iload (dt_M_twice 93 _ _ _ rfl) rfl ?_
                    refine s_iast (N := 8) (dt_M_twice 94 _ _ _ rfl) (sc_424 hS) rfl ?_
                    refine s_letM (fun M14 => ?_)
                    refine s_aload_n (dt_M_twice 95 _ _ _ rfl) rfl ?_
                    refine s_getR (c := 1) (j := 62) (o := (some 424)) (dt_M_twice 96 _ _ _ rfl) (kf_M_143) (sc_382 hS) rfl rfl ?_
                    refine s_iconst (dt_M_twice 97 _ _ _ rfl) rfl ?_
                    refine s_iload (dt_M_twice 98 _ _ _ rfl) rfl ?_
                    refine s_iast (N := 8) (dt_M_twice 99 _ _ _ rfl) (sc_424 hS) rfl ?_
                    refine s_letM (fun M15 => ?_)
                    refine s_aload_n (dt_M_twice 100 _ _ _ rfl) rfl ?_
                    refine s_iconst (dt_M_twice 101 _ _ _ rfl) rfl ?_
                    refine s_putI (c := 1) (j := 63) (dt_M_twice 102 _ _ _ rfl) kp_M_401 (sc_382 hS) ⟨rfl, rfl⟩ ?_
                    refine s_letM (fun M16 => ?_)
                    exact s_mask [true, true, true, true, false, false, false, false] (s_ret0 rfl)
                  · refine s_goto (tgt := 186) (dt_M_twice 84 _ _ _ rfl) rfl ?_
                    exact s_mask [true, true, true, true, false, false, false, false] (s_ret0 rfl)
              · refine s_goto (tgt := 186) (dt_M_twice 52 _ _ _ rfl) rfl ?_
                exact s_mask [true, true, true, true, false, false, false, false] (s_ret0 rfl)
        refine s_iinc (dt_M_twice 103 _ _ _ rfl) rfl rfl ?_
        refine s_goto (tgt := 25) (dt_M_twice 104 _ _ _ rfl) rfl ?_
        exact s_mask [true, true, true, true, false, false, false, false] (s_ret0 rfl)
      · exact s_mask [false, false, true, false, false, false, false, false] (s_ret0 rfl)
    intro e18
    refine s_iload_n (dt_M_twice 105 _ _ _ rfl) rfl ?_
    exact s_iret (dt_M_twice 106 _ _ _ rfl) rfl rfl
theorem c_M_twice {S : KS} (hS : KExt 435 S)  (a0 : Int) (M : KM) : ∀ q, f_M_twice a0 M = some q → Ctr y_M_twice Y_M_twice [VR (some 382), VI a0] S M (some (VI q.1)) S (q.2) := fun q hq =>
  ctr_of md_M_twice (Nat.le_of_ble_eq_true rfl) ⟨Nat.le_refl _, Nat.le_refl _⟩ 6 hq rfl (fun _ G => sim_M_twice hS  a0 M)
