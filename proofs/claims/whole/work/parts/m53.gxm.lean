set_option maxRecDepth 100000 in
theorem sim_Roads_improve {G : Gam} {S : KS} (hS : KExt 382 S)  (a0 : Int) (a1 : Int) (a2 : Int) (a3 : Int) (M : KM) : Sim G Y_Roads_improve (f_Roads_improve a0 a1 a2 a3 M) (kC 0 [some (VR (some 332)), some (VI a0), some (VI a1), some (VI a2), some (VI a3), none] [] S M) (fun (q : Int × KM) => Sum.inr (some (VI q.1), S, q.2)) := by
  unfold f_Roads_improve
  refine s_aload_n (dt_Roads_improve 0 _ _ _ rfl) rfl ?_
  refine s_getR (c := 8) (j := 5) (o := (some 338)) (dt_Roads_improve 1 _ _ _ rfl) (kf_Roads_27) (sc_332 hS) rfl rfl ?_
  refine s_iload_n (dt_Roads_improve 2 _ _ _ rfl) rfl ?_
  refine s_inv (y := y_X_at) (Y' := Y_X_at) (as := [VR (some 338), VI a0]) (r := some (VI (atM M 338 8 a0))) (M' := M) (kInvS (dt_Roads_improve 3 _ _ _ rfl) kst_X_at rfl) kl_Roads_43 md_X_at rfl rfl (c_X_at hS ⟨(sc_338 hS), by decide⟩ a0 M) ?_
  refine s_letI (fun v1 => ?_)
  refine s_istore (dt_Roads_improve 4 _ _ _ rfl) rfl ?_
  refine s_iload (dt_Roads_improve 5 _ _ _ rfl) rfl ?_
  refine s_ldc (n := (100000000 : Int)) (kc_Roads_33) (dt_Roads_improve 6 _ _ _ rfl) rfl ?_
  refine s_if_icmp_ge (tgt := 32) (dt_Roads_improve 7 _ _ _ rfl) rfl ?_ ?_
  · refine s_iload (dt_Roads_improve 8 _ _ _ rfl) rfl ?_
    refine s_iload_n (dt_Roads_improve 9 _ _ _ rfl) rfl ?_
    refine s_iadd (dt_Roads_improve 10 _ _ _ rfl) ?_
    refine s_aload_n (dt_Roads_improve 11 _ _ _ rfl) rfl ?_
    refine s_getR (c := 8) (j := 5) (o := (some 338)) (dt_Roads_improve 12 _ _ _ rfl) (kf_Roads_27) (sc_332 hS) rfl rfl ?_
    refine s_iload_n (dt_Roads_improve 13 _ _ _ rfl) rfl ?_
    refine s_inv (y := y_X_at) (Y' := Y_X_at) (as := [VR (some 338), VI a1]) (r := some (VI (atM M 338 8 a1))) (M' := M) (kInvS (dt_Roads_improve 14 _ _ _ rfl) kst_X_at rfl) kl_Roads_43 md_X_at rfl rfl (c_X_at hS ⟨(sc_338 hS), by decide⟩ a1 M) ?_
    refine s_if_icmp_lt (tgt := 34) (dt_Roads_improve 15 _ _ _ rfl) rfl ?_ ?_
    · refine s_aload_n (dt_Roads_improve 18 _ _ _ rfl) rfl ?_
      refine s_getR (c := 8) (j := 5) (o := (some 338)) (dt_Roads_improve 19 _ _ _ rfl) (kf_Roads_27) (sc_332 hS) rfl rfl ?_
      refine s_iload_n (dt_Roads_improve 20 _ _ _ rfl) rfl ?_
      refine s_iload (dt_Roads_improve 21 _ _ _ rfl) rfl ?_
      refine s_iload_n (dt_Roads_improve 22 _ _ _ rfl) rfl ?_
      refine s_iadd (dt_Roads_improve 23 _ _ _ rfl) ?_
      refine s_inv (y := y_X_put) (Y' := Y_X_put) (as := [VR (some 338), VI a1, VI (w32 (v1 + a2))]) (r := none) (M' := (putM M 338 8 a1 (w32 (v1 + a2)))) (kInvS (dt_Roads_improve 24 _ _ _ rfl) kst_X_put rfl) kl_Roads_57 md_X_put rfl rfl (c_X_put hS ⟨(sc_338 hS), by decide⟩ a1 (w32 (v1 + a2)) M) ?_
      refine s_letM (fun M2 => ?_)
      refine s_aload_n (dt_Roads_improve 25 _ _ _ rfl) rfl ?_
      refine s_getR (c := 8) (j := 6) (o := (some 339)) (dt_Roads_improve 26 _ _ _ rfl) (kf_Roads_30) (sc_332 hS) rfl rfl ?_
      refine s_iload_n (dt_Roads_improve 27 _ _ _ rfl) rfl ?_
      refine s_iload (dt_Roads_improve 28 _ _ _ rfl) rfl ?_
      refine s_inv (y := y_X_put) (Y' := Y_X_put) (as := [VR (some 339), VI a1, VI a3]) (r := none) (M' := (putM M2 339 8 a1 a3)) (kInvS (dt_Roads_improve 29 _ _ _ rfl) kst_X_put rfl) kl_Roads_57 md_X_put rfl rfl (c_X_put hS ⟨(sc_339 hS), by decide⟩ a1 a3 M2) ?_
      refine s_letM (fun M3 => ?_)
      refine s_iconst (dt_Roads_improve 30 _ _ _ rfl) rfl ?_
      exact s_zret01 (dt_Roads_improve 31 _ _ _ rfl) rfl rfl rfl
    · refine s_iconst (dt_Roads_improve 16 _ _ _ rfl) rfl ?_
      exact s_zret01 (dt_Roads_improve 17 _ _ _ rfl) rfl rfl rfl
  · refine s_iconst (dt_Roads_improve 16 _ _ _ rfl) rfl ?_
    exact s_zret01 (dt_Roads_improve 17 _ _ _ rfl) rfl rfl rfl
theorem c_Roads_improve {S : KS} (hS : KExt 382 S)  (a0 : Int) (a1 : Int) (a2 : Int) (a3 : Int) (M : KM) : ∀ q, f_Roads_improve a0 a1 a2 a3 M = some q → Ctr y_Roads_improve Y_Roads_improve [VR (some 332), VI a0, VI a1, VI a2, VI a3] S M (some (VI q.1)) S (q.2) := fun q hq =>
  ctr_of md_Roads_improve (Nat.le_of_ble_eq_true rfl) ⟨Nat.le_refl _, Nat.le_refl _⟩ 1 hq rfl (fun _ G => sim_Roads_improve hS  a0 a1 a2 a3 M)
set_option maxRecDepth 100000 in
theorem sim_Roads_findWays {G : Gam} {S : KS} (hS : KExt 382 S)  (a1 : Int) (M : KM) : Sim G Y_Roads_findWays (f_Roads_findWays a1 M) (kC 0 [some (VR (some 332)), some (VR (some 2)), some (VI a1), none, none, none, none, none, none] [] S M) (fun (q : KM) => Sum.inr (none, S, q)) := by
  unfold f_Roads_findWays
  refine s_iconst (dt_Roads_findWays 0 _ _ _ rfl) rfl ?_
  refine s_istore_n (dt_Roads_findWays 1 _ _ _ rfl) rfl ?_
  refine s_bd (κ := (fun (e5 : KM) => kC 48 [some (VR (some 332)), some (VR (some 2)), some (VI a1), none, none, none, none, none, none] [] S e5)) (s_mask [true, true, true, true, false, false, false, false, false] (s_while (c := fun s1 => kC 2 [some (VR (some 332)), some (VR (some 2)), some (VI a1), some (VI s1.1), none, none, none, none, none] [] S s1.2) (fun s1 => ?_) ((0 : Int), M))) ?_
  · refine s_iload_n (dt_Roads_findWays 2 _ _ _ rfl) rfl ?_
    refine s_bipush (dt_Roads_findWays 3 _ _ _ rfl) rfl ?_
    refine s_if_icmp_ge (tgt := 48) (dt_Roads_findWays 4 _ _ _ rfl) rfl ?_ ?_
    · refine s_aload_n (dt_Roads_findWays 5 _ _ _ rfl) rfl ?_
      refine s_getR (c := 8) (j := 5) (o := (some 338)) (dt_Roads_findWays 6 _ _ _ rfl) (kf_Roads_27) (sc_332 hS) rfl rfl ?_
      refine s_iload_n (dt_Roads_findWays 7 _ _ _ rfl) rfl ?_
      refine s_aload_n (dt_Roads_findWays 8 _ _ _ rfl) rfl ?_
      refine s_getR (c := 8) (j := 0) (o := (some 333)) (dt_Roads_findWays 9 _ _ _ rfl) (kf_Roads_9) (sc_332 hS) rfl rfl ?_
      refine s_iload_n (dt_Roads_findWays 10 _ _ _ rfl) rfl ?_
      refine s_inv (y := y_X_at) (Y' := Y_X_at) (as := [VR (some 333), VI s1.1]) (r := some (VI (atM s1.2 333 8 s1.1))) (M' := s1.2) (kInvS (dt_Roads_findWays 11 _ _ _ rfl) kst_X_at rfl) kl_Roads_43 md_X_at rfl rfl (c_X_at hS ⟨(sc_333 hS), by decide⟩ s1.1 s1.2) ?_
      refine s_bd (κ := fun t2 => kC 30 [some (VR (some 332)), some (VR (some 2)), some (VI a1), some (VI s1.1), none, none, none, none, none] [VI t2, VI s1.1, VR (some 338)] S s1.2) ?_ (fun t2 => ?_)
      · refine s_if_le (tgt := 28) (dt_Roads_findWays 12 _ _ _ rfl) rfl ?_ ?_
        · refine s_ldc (n := (100000000 : Int)) (kc_Roads_33) (dt_Roads_findWays 15 _ _ _ rfl) rfl ?_
          exact s_mask [true, true, true, true, false, false, false, false, false] (s_ret0 rfl)
        · refine s_iconst (dt_Roads_findWays 13 _ _ _ rfl) rfl ?_
          refine s_goto (tgt := 30) (dt_Roads_findWays 14 _ _ _ rfl) rfl ?_
          exact s_mask [true, true, true, true, false, false, false, false, false] (s_ret0 rfl)
      refine s_inv (y := y_X_put) (Y' := Y_X_put) (as := [VR (some 338), VI s1.1, VI t2]) (r := none) (M' := (putM s1.2 338 8 s1.1 t2)) (kInvS (dt_Roads_findWays 16 _ _ _ rfl) kst_X_put rfl) kl_Roads_57 md_X_put rfl rfl (c_X_put hS ⟨(sc_338 hS), by decide⟩ s1.1 t2 s1.2) ?_
      refine s_letM (fun M3 => ?_)
      refine s_aload_n (dt_Roads_findWays 17 _ _ _ rfl) rfl ?_
      refine s_getR (c := 8) (j := 6) (o := (some 339)) (dt_Roads_findWays 18 _ _ _ rfl) (kf_Roads_30) (sc_332 hS) rfl rfl ?_
      refine s_iload_n (dt_Roads_findWays 19 _ _ _ rfl) rfl ?_
      refine s_iconst (dt_Roads_findWays 20 _ _ _ rfl) rfl ?_
      refine s_inv (y := y_X_put) (Y' := Y_X_put) (as := [VR (some 339), VI s1.1, VI (-1 : Int)]) (r := none) (M' := (putM M3 339 8 s1.1 (-1 : Int))) (kInvS (dt_Roads_findWays 21 _ _ _ rfl) kst_X_put rfl) kl_Roads_57 md_X_put rfl rfl (c_X_put hS ⟨(sc_339 hS), by decide⟩ s1.1 (-1 : Int) M3) ?_
      refine s_letM (fun M4 => ?_)
      refine s_iinc (dt_Roads_findWays 22 _ _ _ rfl) rfl rfl ?_
      refine s_goto (tgt := 2) (dt_Roads_findWays 23 _ _ _ rfl) rfl ?_
      exact s_mask [true, true, true, true, false, false, false, false, false] (s_ret0 rfl)
    · exact s_mask [true, true, true, false, false, false, false, false, false] (s_ret0 rfl)
  intro e5
  refine s_iconst (dt_Roads_findWays 24 _ _ _ rfl) rfl ?_
  refine s_istore_n (dt_Roads_findWays 25 _ _ _ rfl) rfl ?_
  refine s_iconst (dt_Roads_findWays 26 _ _ _ rfl) rfl ?_
  refine s_istore (dt_Roads_findWays 27 _ _ _ rfl) rfl ?_
  refine s_bd (κ := (fun (e18 : KM) => kC 195 [none, none, none, none, none, none, none, none, none] [] S e18)) (s_mask [true, true, true, true, true, false, false, false, false] (s_while (c := fun s6 => kC 53 [some (VR (some 332)), some (VR (some 2)), some (VI a1), some (VI s6.1), some (VI s6.2.1), none, none, none, none] [] S s6.2.2) (fun s6 => ?_) ((1 : Int), (0 : Int), e5))) ?_
  · refine s_iload (dt_Roads_findWays 28 _ _ _ rfl) rfl ?_
    refine s_bipush (dt_Roads_findWays 29 _ _ _ rfl) rfl ?_
    refine s_if_icmp_ge (tgt := 195) (dt_Roads_findWays 30 _ _ _ rfl) rfl ?_ ?_
    · refine s_iload_n (dt_Roads_findWays 31 _ _ _ rfl) rfl ?_
      refine s_if_eq (tgt := 195) (dt_Roads_findWays 32 _ _ _ rfl) rfl ?_ ?_
      · exact s_mask [false, false, false, false, false, false, false, false, false] (s_ret0 rfl)
      · refine s_iconst (dt_Roads_findWays 33 _ _ _ rfl) rfl ?_
        refine s_istore_n (dt_Roads_findWays 34 _ _ _ rfl) rfl ?_
        refine s_iconst (dt_Roads_findWays 35 _ _ _ rfl) rfl ?_
        refine s_istore (dt_Roads_findWays 36 _ _ _ rfl) rfl ?_
        refine s_bd (κ := (fun (e17 : Int × KM) => kC 189 [some (VR (some 332)), some (VR (some 2)), some (VI a1), some (VI e17.1), some (VI s6.2.1), none, none, none, none] [] S e17.2)) (s_mask [true, true, true, true, true, true, false, false, false] (s_while (c := fun s7 => kC 69 [some (VR (some 332)), some (VR (some 2)), some (VI a1), some (VI s7.1), some (VI s6.2.1), some (VI s7.2.1), none, none, none] [] S s7.2.2) (fun s7 => ?_) ((0 : Int), (0 : Int), s6.2.2))) ?_
        · refine s_iload (dt_Roads_findWays 37 _ _ _ rfl) rfl ?_
          refine s_aload_n (dt_Roads_findWays 38 _ _ _ rfl) rfl ?_
          refine s_getI (c := 12) (j := 5) (dt_Roads_findWays 39 _ _ _ rfl) (kf_Roads_34) (sc_2 hS) rfl ?_
          refine s_if_icmp_ge (tgt := 189) (dt_Roads_findWays 40 _ _ _ rfl) rfl ?_ ?_
          · refine s_aload_n (dt_Roads_findWays 41 _ _ _ rfl) rfl ?_
            refine s_getR (c := 12) (j := 6) (o := (some 7)) (dt_Roads_findWays 42 _ _ _ rfl) (kf_Roads_40) (sc_2 hS) rfl rfl ?_
            refine s_iload (dt_Roads_findWays 43 _ _ _ rfl) rfl ?_
            refine s_inv (y := y_X_at) (Y' := Y_X_at) (as := [VR (some 7), VI s7.2.1]) (r := some (VI (atM s7.2.2 7 20 s7.2.1))) (M' := s7.2.2) (kInvS (dt_Roads_findWays 44 _ _ _ rfl) kst_X_at rfl) kl_Roads_43 md_X_at rfl rfl (c_X_at hS ⟨(sc_7 hS), by decide⟩ s7.2.1 s7.2.2) ?_
            refine s_letI (fun v8 => ?_)
            refine s_istore (dt_Roads_findWays 45 _ _ _ rfl) rfl ?_
            refine s_aload_n (dt_Roads_findWays 46 _ _ _ rfl) rfl ?_
            refine s_getR (c := 12) (j := 7) (o := (some 8)) (dt_Roads_findWays 47 _ _ _ rfl) (kf_Roads_47) (sc_2 hS) rfl rfl ?_
            refine s_iload (dt_Roads_findWays 48 _ _ _ rfl) rfl ?_
            refine s_inv (y := y_X_at) (Y' := Y_X_at) (as := [VR (some 8), VI s7.2.1]) (r := some (VI (atM s7.2.2 8 20 s7.2.1))) (M' := s7.2.2) (kInvS (dt_Roads_findWays 49 _ _ _ rfl) kst_X_at rfl) kl_Roads_43 md_X_at rfl rfl (c_X_at hS ⟨(sc_8 hS), by decide⟩ s7.2.1 s7.2.2) ?_
            refine s_letI (fun v9 => ?_)
            refine s_istore (dt_Roads_findWays 50 _ _ _ rfl) rfl ?_
            refine s_iload_n (dt_Roads_findWays 51 _ _ _ rfl) rfl ?_
            refine s_iload (dt_Roads_findWays 52 _ _ _ rfl) rfl ?_
            refine s_inv (y := y_X_isIn) (Y' := Y_X_isIn) (as := [VI a1, VI v8]) (r := some (VI (isInV a1 v8))) (M' := s7.2.2) (kInvS (dt_Roads_findWays 53 _ _ _ rfl) kst_X_isIn rfl) kl_Roads_50 md_X_isIn rfl rfl (c_X_isIn hS a1 v8 s7.2.2) ?_
            refine s_bd (κ := fun t16 => kC 183 [some (VR (some 332)), some (VR (some 2)), some (VI a1), some (VI t16.1), some (VI s6.2.1), some (VI s7.2.1), none, none, none] [] S t16.2) ?_ (fun t16 => ?_)
            · refine s_if_eq (tgt := 183) (dt_Roads_findWays 54 _ _ _ rfl) rfl ?_ ?_
              · exact s_mask [true, true, true, true, true, true, false, false, false] (s_ret0 rfl)
              · refine s_iload_n (dt_Roads_findWays 55 _ _ _ rfl) rfl ?_
                refine s_iload (dt_Roads_findWays 56 _ _ _ rfl) rfl ?_
                refine s_inv (y := y_X_isIn) (Y' := Y_X_isIn) (as := [VI a1, VI v9]) (r := some (VI (isInV a1 v9))) (M' := s7.2.2) (kInvS (dt_Roads_findWays 57 _ _ _ rfl) kst_X_isIn rfl) kl_Roads_50 md_X_isIn rfl rfl (c_X_isIn hS a1 v9 s7.2.2) ?_
                refine s_if_eq (tgt := 183) (dt_Roads_findWays 58 _ _ _ rfl) rfl ?_ ?_
                · exact s_mask [true, true, true, true, true, true, false, false, false] (s_ret0 rfl)
                · refine s_aload_n (dt_Roads_findWays 59 _ _ _ rfl) rfl ?_
                  refine s_getR (c := 12) (j := 8) (o := (some 9)) (dt_Roads_findWays 60 _ _ _ rfl) (kf_Roads_54) (sc_2 hS) rfl rfl ?_
                  refine s_iload (dt_Roads_findWays 61 _ _ _ rfl) rfl ?_
                  refine s_inv (y := y_X_at) (Y' := Y_X_at) (as := [VR (some 9), VI s7.2.1]) (r := some (VI (atM s7.2.2 9 20 s7.2.1))) (M' := s7.2.2) (kInvS (dt_Roads_findWays 62 _ _ _ rfl) kst_X_at rfl) kl_Roads_43 md_X_at rfl rfl (c_X_at hS ⟨(sc_9 hS), by decide⟩ s7.2.1 s7.2.2) ?_
                  refine s_letI (fun v10 => ?_)
                  refine s_istore (dt_Roads_findWays 63 _ _ _ rfl) rfl ?_
                  refine s_iload_n (dt_Roads_findWays 64 _ _ _ rfl) rfl ?_
                  refine s_aload_n (dt_Roads_findWays 65 _ _ _ rfl) rfl ?_
                  refine s_iload (dt_Roads_findWays 66 _ _ _ rfl) rfl ?_
                  refine s_iload (dt_Roads_findWays 67 _ _ _ rfl) rfl ?_
                  refine s_iload (dt_Roads_findWays 68 _ _ _ rfl) rfl ?_
                  refine s_iload (dt_Roads_findWays 69 _ _ _ rfl) rfl ?_
                  refine s_callO (y := y_Roads_improve) (Y' := Y_Roads_improve) (as := [VR (some 332), VI v8, VI v9, VI v10, VI s7.2.1]) (r := fun q => some (VI q.1)) (M' := fun q => q.2) (kInvV (dt_Roads_findWays 70 _ _ _ rfl) kin_Roads_improve 8 rfl (sc_332 hS) kse_Roads_improve rfl) kl_Roads_111 md_Roads_improve rfl rfl (fun q hq => c_Roads_improve hS v8 v9 v10 s7.2.1 s7.2.2 q hq) (fun q11 => ?_)
                  refine s_ior (dt_Roads_findWays 71 _ _ _ rfl) ?_
                  refine s_letI (fun v12 => ?_)
                  refine s_istore_n (dt_Roads_findWays 72 _ _ _ rfl) rfl ?_
                  refine s_iload_n (dt_Roads_findWays 73 _ _ _ rfl) rfl ?_
                  refine s_aload_n (dt_Roads_findWays 74 _ _ _ rfl) rfl ?_
                  refine s_getR (c := 8) (j := 4) (o := (some 337)) (dt_Roads_findWays 75 _ _ _ rfl) (kf_Roads_24) (sc_332 hS) rfl rfl ?_
                  refine s_iload (dt_Roads_findWays 76 _ _ _ rfl) rfl ?_
                  refine s_inv (y := y_X_at) (Y' := Y_X_at) (as := [VR (some 337), VI s7.2.1]) (r := some (VI (atM q11.2 337 20 s7.2.1))) (M' := q11.2) (kInvS (dt_Roads_findWays 77 _ _ _ rfl) kst_X_at rfl) kl_Roads_43 md_X_at rfl rfl (c_X_at hS ⟨(sc_337 hS), by decide⟩ s7.2.1 q11.2) ?_
                  refine s_bd (κ := fun t14 => kC 181 [some (VR (some 332)), some (VR (some 2)), some (VI a1), none, some (VI s6.2.1), some (VI s7.2.1), none, none, none] [VI t14.1, VI v12] S t14.2) ?_ (fun t14 => ?_)
                  · refine s_if_le (tgt := 180) (dt_Roads_findWays 78 _ _ _ rfl) rfl ?_ ?_
                    · refine s_iconst (dt_Roads_findWays 91 _ _ _ rfl) rfl ?_
                      exact s_mask [true, true, true, false, true, true, false, false, false] (s_ret0 rfl)
                    · refine s_aload_n (dt_Roads_findWays 79 _ _ _ rfl) rfl ?_
                      refine s_iload (dt_Roads_findWays 80 _ _ _ rfl) rfl ?_
                      refine s_iload (dt_Roads_findWays 81 _ _ _ rfl) rfl ?_
                      refine s_iload (dt_Roads_findWays 82 _ _ _ rfl) rfl ?_
                      refine s_ineg (dt_Roads_findWays 83 _ _ _ rfl) ?_
                      refine s_iload (dt_Roads_findWays 84 _ _ _ rfl) rfl ?_
                      refine s_bipush (dt_Roads_findWays 85 _ _ _ rfl) rfl ?_
                      refine s_iadd (dt_Roads_findWays 86 _ _ _ rfl) ?_
                      refine s_callO (y := y_Roads_improve) (Y' := Y_Roads_improve) (as := [VR (some 332), VI v9, VI v8, VI (w32 (-v10)), VI (w32 (s7.2.1 + (20 : Int)))]) (r := fun q => some (VI q.1)) (M' := fun q => q.2) (kInvV (dt_Roads_findWays 87 _ _ _ rfl) kin_Roads_improve 8 rfl (sc_332 hS) kse_Roads_improve rfl) kl_Roads_111 md_Roads_improve rfl rfl (fun q hq => c_Roads_improve hS v9 v8 (w32 (-v10)) (w32 (s7.2.1 + (20 : Int))) q11.2 q hq) (fun q13 => ?_)
                      refine s_if_eq (tgt := 180) (dt_Roads_findWays 88 _ _ _ rfl) rfl ?_ ?_
                      · refine s_iconst (dt_Roads_findWays 91 _ _ _ rfl) rfl ?_
                        exact s_mask [true, true, true, false, true, true, false, false, false] (s_ret0 rfl)
                      · refine s_iconst (dt_Roads_findWays 89 _ _ _ rfl) rfl ?_
                        refine s_goto (tgt := 181) (dt_Roads_findWays 90 _ _ _ rfl) rfl ?_
                        exact s_mask [true, true, true, false, true, true, false, false, false] (s_ret0 rfl)
                  refine s_ior (dt_Roads_findWays 92 _ _ _ rfl) ?_
                  refine s_letI (fun v15 => ?_)
                  refine s_istore_n (dt_Roads_findWays 93 _ _ _ rfl) rfl ?_
                  exact s_mask [true, true, true, true, true, true, false, false, false] (s_ret0 rfl)
            refine s_iinc (dt_Roads_findWays 94 _ _ _ rfl) rfl rfl ?_
            refine s_goto (tgt := 69) (dt_Roads_findWays 95 _ _ _ rfl) rfl ?_
            exact s_mask [true, true, true, true, true, true, false, false, false] (s_ret0 rfl)
          · exact s_mask [true, true, true, true, true, false, false, false, false] (s_ret0 rfl)
        intro e17
        refine s_iinc (dt_Roads_findWays 96 _ _ _ rfl) rfl rfl ?_
        refine s_goto (tgt := 53) (dt_Roads_findWays 97 _ _ _ rfl) rfl ?_
        exact s_mask [true, true, true, true, true, false, false, false, false] (s_ret0 rfl)
    · exact s_mask [false, false, false, false, false, false, false, false, false] (s_ret0 rfl)
  intro e18
  exact s_vret (dt_Roads_findWays 98 _ _ _ rfl) rfl rfl
theorem c_Roads_findWays {S : KS} (hS : KExt 382 S)  (a1 : Int) (M : KM) : ∀ q, f_Roads_findWays a1 M = some q → Ctr y_Roads_findWays Y_Roads_findWays [VR (some 332), VR (some 2), VI a1] S M (none) S (q) := fun q hq =>
  ctr_of md_Roads_findWays (Nat.le_of_ble_eq_true rfl) ⟨Nat.le_refl _, Nat.le_refl _⟩ 6 hq rfl (fun _ G => sim_Roads_findWays hS  a1 M)
set_option maxRecDepth 100000 in
theorem sim_Roads_nearestWhoLacks {G : Gam} {S : KS} (hS : KExt 382 S)   (M : KM) : Sim G Y_Roads_nearestWhoLacks (f_Roads_nearestWhoLacks  M) (kC 0 [some (VR (some 332)), none, none, none] [] S M) (fun (q : Int) => Sum.inr (some (VI q), S, M)) := by
  unfold f_Roads_nearestWhoLacks
  refine s_ldc (n := (100000000 : Int)) (kc_Roads_33) (dt_Roads_nearestWhoLacks 0 _ _ _ rfl) rfl ?_
  refine s_istore_n (dt_Roads_nearestWhoLacks 1 _ _ _ rfl) rfl ?_
  refine s_iconst (dt_Roads_nearestWhoLacks 2 _ _ _ rfl) rfl ?_
  refine s_istore_n (dt_Roads_nearestWhoLacks 3 _ _ _ rfl) rfl ?_
  refine s_iconst (dt_Roads_nearestWhoLacks 4 _ _ _ rfl) rfl ?_
  refine s_istore_n (dt_Roads_nearestWhoLacks 5 _ _ _ rfl) rfl ?_
  refine s_bd (κ := (fun (e4 : Int) => kC 53 [none, none, some (VI e4), none] [] S M)) (s_mask [true, true, true, true] (s_while (c := fun s1 => kC 7 [some (VR (some 332)), some (VI s1.1), some (VI s1.2.1), some (VI s1.2.2)] [] S M) (fun s1 => ?_) ((100000000 : Int), (-1 : Int), (0 : Int)))) ?_
  · refine s_iload_n (dt_Roads_nearestWhoLacks 6 _ _ _ rfl) rfl ?_
    refine s_bipush (dt_Roads_nearestWhoLacks 7 _ _ _ rfl) rfl ?_
    refine s_if_icmp_ge (tgt := 53) (dt_Roads_nearestWhoLacks 8 _ _ _ rfl) rfl ?_ ?_
    · refine s_aload_n (dt_Roads_nearestWhoLacks 9 _ _ _ rfl) rfl ?_
      refine s_getR (c := 8) (j := 0) (o := (some 333)) (dt_Roads_nearestWhoLacks 10 _ _ _ rfl) (kf_Roads_9) (sc_332 hS) rfl rfl ?_
      refine s_iload_n (dt_Roads_nearestWhoLacks 11 _ _ _ rfl) rfl ?_
      refine s_inv (y := y_X_at) (Y' := Y_X_at) (as := [VR (some 333), VI s1.2.2]) (r := some (VI (atM M 333 8 s1.2.2))) (M' := M) (kInvS (dt_Roads_nearestWhoLacks 12 _ _ _ rfl) kst_X_at rfl) kl_Roads_43 md_X_at rfl rfl (c_X_at hS ⟨(sc_333 hS), by decide⟩ s1.2.2 M) ?_
      refine s_bd (κ := fun t3 => kC 47 [some (VR (some 332)), some (VI t3.1), some (VI t3.2), some (VI s1.2.2)] [] S M) ?_ (fun t3 => ?_)
      · refine s_if_ge (tgt := 47) (dt_Roads_nearestWhoLacks 13 _ _ _ rfl) rfl ?_ ?_
        · refine s_aload_n (dt_Roads_nearestWhoLacks 14 _ _ _ rfl) rfl ?_
          refine s_getR (c := 8) (j := 5) (o := (some 338)) (dt_Roads_nearestWhoLacks 15 _ _ _ rfl) (kf_Roads_27) (sc_332 hS) rfl rfl ?_
          refine s_iload_n (dt_Roads_nearestWhoLacks 16 _ _ _ rfl) rfl ?_
          refine s_inv (y := y_X_at) (Y' := Y_X_at) (as := [VR (some 338), VI s1.2.2]) (r := some (VI (atM M 338 8 s1.2.2))) (M' := M) (kInvS (dt_Roads_nearestWhoLacks 17 _ _ _ rfl) kst_X_at rfl) kl_Roads_43 md_X_at rfl rfl (c_X_at hS ⟨(sc_338 hS), by decide⟩ s1.2.2 M) ?_
          refine s_iload_n (dt_Roads_nearestWhoLacks 18 _ _ _ rfl) rfl ?_
          refine s_if_icmp_ge (tgt := 47) (dt_Roads_nearestWhoLacks 19 _ _ _ rfl) rfl ?_ ?_
          · refine s_aload_n (dt_Roads_nearestWhoLacks 20 _ _ _ rfl) rfl ?_
            refine s_getR (c := 8) (j := 5) (o := (some 338)) (dt_Roads_nearestWhoLacks 21 _ _ _ rfl) (kf_Roads_27) (sc_332 hS) rfl rfl ?_
            refine s_iload_n (dt_Roads_nearestWhoLacks 22 _ _ _ rfl) rfl ?_
            refine s_inv (y := y_X_at) (Y' := Y_X_at) (as := [VR (some 338), VI s1.2.2]) (r := some (VI (atM M 338 8 s1.2.2))) (M' := M) (kInvS (dt_Roads_nearestWhoLacks 23 _ _ _ rfl) kst_X_at rfl) kl_Roads_43 md_X_at rfl rfl (c_X_at hS ⟨(sc_338 hS), by decide⟩ s1.2.2 M) ?_
            refine s_letI (fun v2 => ?_)
            refine s_istore_n (dt_Roads_nearestWhoLacks 24 _ _ _ rfl) rfl ?_
            refine s_iload_n (dt_Roads_nearestWhoLacks 25 _ _ _ rfl) rfl ?_
            refine s_istore_n (dt_Roads_nearestWhoLacks 26 _ _ _ rfl) rfl ?_
            exact s_mask [true, true, true, true] (s_ret0 rfl)
          · exact s_mask [true, true, true, true] (s_ret0 rfl)
        · exact s_mask [true, true, true, true] (s_ret0 rfl)
      refine s_iinc (dt_Roads_nearestWhoLacks 27 _ _ _ rfl) rfl rfl ?_
      refine s_goto (tgt := 7) (dt_Roads_nearestWhoLacks 28 _ _ _ rfl) rfl ?_
      exact s_mask [true, true, true, true] (s_ret0 rfl)
    · exact s_mask [false, false, true, false] (s_ret0 rfl)
  intro e4
  refine s_iload_n (dt_Roads_nearestWhoLacks 29 _ _ _ rfl) rfl ?_
  exact s_iret (dt_Roads_nearestWhoLacks 30 _ _ _ rfl) rfl rfl
theorem c_Roads_nearestWhoLacks {S : KS} (hS : KExt 382 S)   (M : KM) : ∀ q, f_Roads_nearestWhoLacks  M = some q → Ctr y_Roads_nearestWhoLacks Y_Roads_nearestWhoLacks [VR (some 332)] S M (some (VI q)) S (M) := fun q hq =>
  ctr_of md_Roads_nearestWhoLacks (Nat.le_of_ble_eq_true rfl) ⟨Nat.le_refl _, Nat.le_refl _⟩ 3 hq rfl (fun _ G => sim_Roads_nearestWhoLacks hS   M)
set_option maxRecDepth 100000 in
theorem sim_Roads_beforeOn {G : Gam} {S : KS} (hS : KExt 382 S)  (a1 : Int) (M : KM) : Sim G Y_Roads_beforeOn (f_Roads_beforeOn a1 M) (kC 0 [some (VR (some 2)), some (VI a1)] [] S M) (fun (q : Int) => Sum.inr (some (VI q), S, M)) := by
  unfold f_Roads_beforeOn
  refine s_iload_n (dt_Roads_beforeOn 0 _ _ _ rfl) rfl ?_
  refine s_bipush (dt_Roads_beforeOn 1 _ _ _ rfl) rfl ?_
  refine s_bd (κ := fun t1 => kC 28 [none, none] [VI t1] S M) ?_ (fun t1 => ?_)
  · refine s_if_icmp_lt (tgt := 20) (dt_Roads_beforeOn 2 _ _ _ rfl) rfl ?_ ?_
    · refine s_aload_n (dt_Roads_beforeOn 10 _ _ _ rfl) rfl ?_
      refine s_getR (c := 12) (j := 6) (o := (some 7)) (dt_Roads_beforeOn 11 _ _ _ rfl) (kf_Roads_40) (sc_2 hS) rfl rfl ?_
      refine s_iload_n (dt_Roads_beforeOn 12 _ _ _ rfl) rfl ?_
      refine s_inv (y := y_X_at) (Y' := Y_X_at) (as := [VR (some 7), VI a1]) (r := some (VI (atM M 7 20 a1))) (M' := M) (kInvS (dt_Roads_beforeOn 13 _ _ _ rfl) kst_X_at rfl) kl_Roads_43 md_X_at rfl rfl (c_X_at hS ⟨(sc_7 hS), by decide⟩ a1 M) ?_
      exact s_mask [false, false] (s_ret0 rfl)
    · refine s_aload_n (dt_Roads_beforeOn 3 _ _ _ rfl) rfl ?_
      refine s_getR (c := 12) (j := 7) (o := (some 8)) (dt_Roads_beforeOn 4 _ _ _ rfl) (kf_Roads_47) (sc_2 hS) rfl rfl ?_
      refine s_iload_n (dt_Roads_beforeOn 5 _ _ _ rfl) rfl ?_
      refine s_bipush (dt_Roads_beforeOn 6 _ _ _ rfl) rfl ?_
      refine s_isub (dt_Roads_beforeOn 7 _ _ _ rfl) ?_
      refine s_inv (y := y_X_at) (Y' := Y_X_at) (as := [VR (some 8), VI (w32 (a1 - (20 : Int)))]) (r := some (VI (atM M 8 20 (w32 (a1 - (20 : Int)))))) (M' := M) (kInvS (dt_Roads_beforeOn 8 _ _ _ rfl) kst_X_at rfl) kl_Roads_43 md_X_at rfl rfl (c_X_at hS ⟨(sc_8 hS), by decide⟩ (w32 (a1 - (20 : Int))) M) ?_
      refine s_goto (tgt := 28) (dt_Roads_beforeOn 9 _ _ _ rfl) rfl ?_
      exact s_mask [false, false] (s_ret0 rfl)
  exact s_iret (dt_Roads_beforeOn 14 _ _ _ rfl) rfl rfl
theorem c_Roads_beforeOn {S : KS} (hS : KExt 382 S)  (a1 : Int) (M : KM) : ∀ q, f_Roads_beforeOn a1 M = some q → Ctr y_Roads_beforeOn Y_Roads_beforeOn [VR (some 2), VI a1] S M (some (VI q)) S (M) := fun q hq =>
  ctr_of md_Roads_beforeOn (Nat.le_of_ble_eq_true rfl) ⟨Nat.le_refl _, Nat.le_refl _⟩ 0 hq rfl (fun _ G => sim_Roads_beforeOn hS  a1 M)
set_option maxRecDepth 100000 in
theorem sim_Roads_sendTo {G : Gam} {S : KS} (hS : KExt 382 S)  (a1 : Int) (M : KM) : Sim G Y_Roads_sendTo (f_Roads_sendTo a1 M) (kC 0 [some (VR (some 332)), some (VR (some 2)), some (VI a1), none, none, none, none, none] [] S M) (fun (q : Int × KM) => Sum.inr (some (VI q.1), S, q.2)) := by
  unfold f_Roads_sendTo
  refine s_aload_n (dt_Roads_sendTo 0 _ _ _ rfl) rfl ?_
  refine s_getR (c := 8) (j := 0) (o := (some 333)) (dt_Roads_sendTo 1 _ _ _ rfl) (kf_Roads_9) (sc_332 hS) rfl rfl ?_
  refine s_iload_n (dt_Roads_sendTo 2 _ _ _ rfl) rfl ?_
  refine s_inv (y := y_X_at) (Y' := Y_X_at) (as := [VR (some 333), VI a1]) (r := some (VI (atM M 333 8 a1))) (M' := M) (kInvS (dt_Roads_sendTo 3 _ _ _ rfl) kst_X_at rfl) kl_Roads_43 md_X_at rfl rfl (c_X_at hS ⟨(sc_333 hS), by decide⟩ a1 M) ?_
  refine s_ineg (dt_Roads_sendTo 4 _ _ _ rfl) ?_
  refine s_letI (fun v1 => ?_)
  refine s_istore_n (dt_Roads_sendTo 5 _ _ _ rfl) rfl ?_
  refine s_iload_n (dt_Roads_sendTo 6 _ _ _ rfl) rfl ?_
  refine s_istore (dt_Roads_sendTo 7 _ _ _ rfl) rfl ?_
  refine s_iconst (dt_Roads_sendTo 8 _ _ _ rfl) rfl ?_
  refine s_istore (dt_Roads_sendTo 9 _ _ _ rfl) rfl ?_
  refine s_bd (κ := (fun (e7 : Int × Int) => kC 85 [some (VR (some 332)), some (VR (some 2)), some (VI a1), some (VI e7.1), some (VI e7.2), none, none, none] [] S M)) (s_mask [true, true, true, true, true, true, false, false] (s_while (c := fun s2 => kC 16 [some (VR (some 332)), some (VR (some 2)), some (VI a1), some (VI s2.1), some (VI s2.2.1), some (VI s2.2.2), none, none] [] S M) (fun s2 => ?_) (v1, a1, (0 : Int)))) ?_
  · refine s_iload (dt_Roads_sendTo 10 _ _ _ rfl) rfl ?_
    refine s_bipush (dt_Roads_sendTo 11 _ _ _ rfl) rfl ?_
    refine s_if_icmp_ge (tgt := 85) (dt_Roads_sendTo 12 _ _ _ rfl) rfl ?_ ?_
    · refine s_aload_n (dt_Roads_sendTo 13 _ _ _ rfl) rfl ?_
      refine s_getR (c := 8) (j := 6) (o := (some 339)) (dt_Roads_sendTo 14 _ _ _ rfl) (kf_Roads_30) (sc_332 hS) rfl rfl ?_
      refine s_iload (dt_Roads_sendTo 15 _ _ _ rfl) rfl ?_
      refine s_inv (y := y_X_at) (Y' := Y_X_at) (as := [VR (some 339), VI s2.2.1]) (r := some (VI (atM M 339 8 s2.2.1))) (M' := M) (kInvS (dt_Roads_sendTo 16 _ _ _ rfl) kst_X_at rfl) kl_Roads_43 md_X_at rfl rfl (c_X_at hS ⟨(sc_339 hS), by decide⟩ s2.2.1 M) ?_
      refine s_iconst (dt_Roads_sendTo 17 _ _ _ rfl) rfl ?_
      refine s_if_icmp_eq (tgt := 85) (dt_Roads_sendTo 18 _ _ _ rfl) rfl ?_ ?_
      · exact s_mask [true, true, true, true, true, false, false, false] (s_ret0 rfl)
      · refine s_aload_n (dt_Roads_sendTo 19 _ _ _ rfl) rfl ?_
        refine s_getR (c := 8) (j := 6) (o := (some 339)) (dt_Roads_sendTo 20 _ _ _ rfl) (kf_Roads_30) (sc_332 hS) rfl rfl ?_
        refine s_iload (dt_Roads_sendTo 21 _ _ _ rfl) rfl ?_
        refine s_inv (y := y_X_at) (Y' := Y_X_at) (as := [VR (some 339), VI s2.2.1]) (r := some (VI (atM M 339 8 s2.2.1))) (M' := M) (kInvS (dt_Roads_sendTo 22 _ _ _ rfl) kst_X_at rfl) kl_Roads_43 md_X_at rfl rfl (c_X_at hS ⟨(sc_339 hS), by decide⟩ s2.2.1 M) ?_
        refine s_letI (fun v3 => ?_)
        refine s_istore (dt_Roads_sendTo 23 _ _ _ rfl) rfl ?_
        refine s_iload (dt_Roads_sendTo 24 _ _ _ rfl) rfl ?_
        refine s_bipush (dt_Roads_sendTo 25 _ _ _ rfl) rfl ?_
        refine s_bd (κ := fun t5 => kC 71 [some (VR (some 332)), some (VR (some 2)), some (VI a1), some (VI t5), none, some (VI s2.2.2), some (VI v3), none] [] S M) ?_ (fun t5 => ?_)
        · refine s_if_icmp_lt (tgt := 71) (dt_Roads_sendTo 26 _ _ _ rfl) rfl ?_ ?_
          · exact s_mask [true, true, true, true, false, true, true, false] (s_ret0 rfl)
          · refine s_iload_n (dt_Roads_sendTo 27 _ _ _ rfl) rfl ?_
            refine s_aload_n (dt_Roads_sendTo 28 _ _ _ rfl) rfl ?_
            refine s_getR (c := 8) (j := 4) (o := (some 337)) (dt_Roads_sendTo 29 _ _ _ rfl) (kf_Roads_24) (sc_332 hS) rfl rfl ?_
            refine s_iload (dt_Roads_sendTo 30 _ _ _ rfl) rfl ?_
            refine s_bipush (dt_Roads_sendTo 31 _ _ _ rfl) rfl ?_
            refine s_isub (dt_Roads_sendTo 32 _ _ _ rfl) ?_
            refine s_inv (y := y_X_at) (Y' := Y_X_at) (as := [VR (some 337), VI (w32 (v3 - (20 : Int)))]) (r := some (VI (atM M 337 20 (w32 (v3 - (20 : Int)))))) (M' := M) (kInvS (dt_Roads_sendTo 33 _ _ _ rfl) kst_X_at rfl) kl_Roads_43 md_X_at rfl rfl (c_X_at hS ⟨(sc_337 hS), by decide⟩ (w32 (v3 - (20 : Int))) M) ?_
            refine s_mmin (dt_Roads_sendTo 34 _ _ _ rfl) kj_Roads_115 rfl ?_
            refine s_letI (fun v4 => ?_)
            refine s_istore_n (dt_Roads_sendTo 35 _ _ _ rfl) rfl ?_
            exact s_mask [true, true, true, true, false, true, true, false] (s_ret0 rfl)
        refine s_aload_n (dt_Roads_sendTo 36 _ _ _ rfl) rfl ?_
        refine s_iload (dt_Roads_sendTo 37 _ _ _ rfl) rfl ?_
        refine s_callO (y := y_Roads_beforeOn) (Y' := Y_Roads_beforeOn) (as := [VR (some 2), VI v3]) (r := fun q => some (VI q)) (M' := fun q => M) (kInvS (dt_Roads_sendTo 38 _ _ _ rfl) kst_Roads_beforeOn rfl) kl_Roads_118 md_Roads_beforeOn rfl rfl (fun q hq => c_Roads_beforeOn hS v3 M q hq) (fun q6 => ?_)
        refine s_istore (dt_Roads_sendTo 39 _ _ _ rfl) rfl ?_
        refine s_iinc (dt_Roads_sendTo 40 _ _ _ rfl) rfl rfl ?_
        refine s_goto (tgt := 16) (dt_Roads_sendTo 41 _ _ _ rfl) rfl ?_
        exact s_mask [true, true, true, true, true, true, false, false] (s_ret0 rfl)
    · exact s_mask [true, true, true, true, true, false, false, false] (s_ret0 rfl)
  intro e7
  refine s_iload_n (dt_Roads_sendTo 42 _ _ _ rfl) rfl ?_
  refine s_aload_n (dt_Roads_sendTo 43 _ _ _ rfl) rfl ?_
  refine s_getR (c := 8) (j := 0) (o := (some 333)) (dt_Roads_sendTo 44 _ _ _ rfl) (kf_Roads_9) (sc_332 hS) rfl rfl ?_
  refine s_iload (dt_Roads_sendTo 45 _ _ _ rfl) rfl ?_
  refine s_inv (y := y_X_at) (Y' := Y_X_at) (as := [VR (some 333), VI e7.2]) (r := some (VI (atM M 333 8 e7.2))) (M' := M) (kInvS (dt_Roads_sendTo 46 _ _ _ rfl) kst_X_at rfl) kl_Roads_43 md_X_at rfl rfl (c_X_at hS ⟨(sc_333 hS), by decide⟩ e7.2 M) ?_
  refine s_mmin (dt_Roads_sendTo 47 _ _ _ rfl) kj_Roads_115 rfl ?_
  refine s_letI (fun v8 => ?_)
  refine s_istore_n (dt_Roads_sendTo 48 _ _ _ rfl) rfl ?_
  refine s_aload_n (dt_Roads_sendTo 49 _ _ _ rfl) rfl ?_
  refine s_getR (c := 8) (j := 0) (o := (some 333)) (dt_Roads_sendTo 50 _ _ _ rfl) (kf_Roads_9) (sc_332 hS) rfl rfl ?_
  refine s_iload (dt_Roads_sendTo 51 _ _ _ rfl) rfl ?_
  refine s_aload_n (dt_Roads_sendTo 52 _ _ _ rfl) rfl ?_
  refine s_getR (c := 8) (j := 0) (o := (some 333)) (dt_Roads_sendTo 53 _ _ _ rfl) (kf_Roads_9) (sc_332 hS) rfl rfl ?_
  refine s_iload (dt_Roads_sendTo 54 _ _ _ rfl) rfl ?_
  refine s_inv (y := y_X_at) (Y' := Y_X_at) (as := [VR (some 333), VI e7.2]) (r := some (VI (atM M 333 8 e7.2))) (M' := M) (kInvS (dt_Roads_sendTo 55 _ _ _ rfl) kst_X_at rfl) kl_Roads_43 md_X_at rfl rfl (c_X_at hS ⟨(sc_333 hS), by decide⟩ e7.2 M) ?_
  refine s_iload_n (dt_Roads_sendTo 56 _ _ _ rfl) rfl ?_
  refine s_isub (dt_Roads_sendTo 57 _ _ _ rfl) ?_
  refine s_inv (y := y_X_put) (Y' := Y_X_put) (as := [VR (some 333), VI e7.2, VI (w32 ((atM M 333 8 e7.2) - v8))]) (r := none) (M' := (putM M 333 8 e7.2 (w32 ((atM M 333 8 e7.2) - v8)))) (kInvS (dt_Roads_sendTo 58 _ _ _ rfl) kst_X_put rfl) kl_Roads_57 md_X_put rfl rfl (c_X_put hS ⟨(sc_333 hS), by decide⟩ e7.2 (w32 ((atM M 333 8 e7.2) - v8)) M) ?_
  refine s_letM (fun M9 => ?_)
  refine s_aload_n (dt_Roads_sendTo 59 _ _ _ rfl) rfl ?_
  refine s_getR (c := 8) (j := 0) (o := (some 333)) (dt_Roads_sendTo 60 _ _ _ rfl) (kf_Roads_9) (sc_332 hS) rfl rfl ?_
  refine s_iload_n (dt_Roads_sendTo 61 _ _ _ rfl) rfl ?_
  refine s_aload_n (dt_Roads_sendTo 62 _ _ _ rfl) rfl ?_
  refine s_getR (c := 8) (j := 0) (o := (some 333)) (dt_Roads_sendTo 63 _ _ _ rfl) (kf_Roads_9) (sc_332 hS) rfl rfl ?_
  refine s_iload_n (dt_Roads_sendTo 64 _ _ _ rfl) rfl ?_
  refine s_inv (y := y_X_at) (Y' := Y_X_at) (as := [VR (some 333), VI a1]) (r := some (VI (atM M9 333 8 a1))) (M' := M9) (kInvS (dt_Roads_sendTo 65 _ _ _ rfl) kst_X_at rfl) kl_Roads_43 md_X_at rfl rfl (c_X_at hS ⟨(sc_333 hS), by decide⟩ a1 M9) ?_
  refine s_iload_n (dt_Roads_sendTo 66 _ _ _ rfl) rfl ?_
  refine s_iadd (dt_Roads_sendTo 67 _ _ _ rfl) ?_
  refine s_inv (y := y_X_put) (Y' := Y_X_put) (as := [VR (some 333), VI a1, VI (w32 ((atM M9 333 8 a1) + v8))]) (r := none) (M' := (putM M9 333 8 a1 (w32 ((atM M9 333 8 a1) + v8)))) (kInvS (dt_Roads_sendTo 68 _ _ _ rfl) kst_X_put rfl) kl_Roads_57 md_X_put rfl rfl (c_X_put hS ⟨(sc_333 hS), by decide⟩ a1 (w32 ((atM M9 333 8 a1) + v8)) M9) ?_
  refine s_letM (fun M10 => ?_)
  refine s_iload_n (dt_Roads_sendTo 69 _ _ _ rfl) rfl ?_
  refine s_istore (dt_Roads_sendTo 70 _ _ _ rfl) rfl ?_
  refine s_iconst (dt_Roads_sendTo 71 _ _ _ rfl) rfl ?_
  refine s_istore (dt_Roads_sendTo 72 _ _ _ rfl) rfl ?_
  refine s_bd (κ := (fun (e17 : KM) => kC 227 [none, none, none, some (VI v8), none, none, none, none] [] S e17)) (s_mask [true, true, false, true, true, true, false, false] (s_while (c := fun s11 => kC 143 [some (VR (some 332)), some (VR (some 2)), none, some (VI v8), some (VI s11.1), some (VI s11.2.1), none, none] [] S s11.2.2) (fun s11 => ?_) (a1, (0 : Int), M10))) ?_
  · refine s_iload (dt_Roads_sendTo 73 _ _ _ rfl) rfl ?_
    refine s_bipush (dt_Roads_sendTo 74 _ _ _ rfl) rfl ?_
    refine s_if_icmp_ge (tgt := 227) (dt_Roads_sendTo 75 _ _ _ rfl) rfl ?_ ?_
    · refine s_aload_n (dt_Roads_sendTo 76 _ _ _ rfl) rfl ?_
      refine s_getR (c := 8) (j := 6) (o := (some 339)) (dt_Roads_sendTo 77 _ _ _ rfl) (kf_Roads_30) (sc_332 hS) rfl rfl ?_
      refine s_iload (dt_Roads_sendTo 78 _ _ _ rfl) rfl ?_
      refine s_inv (y := y_X_at) (Y' := Y_X_at) (as := [VR (some 339), VI s11.1]) (r := some (VI (atM s11.2.2 339 8 s11.1))) (M' := s11.2.2) (kInvS (dt_Roads_sendTo 79 _ _ _ rfl) kst_X_at rfl) kl_Roads_43 md_X_at rfl rfl (c_X_at hS ⟨(sc_339 hS), by decide⟩ s11.1 s11.2.2) ?_
      refine s_iconst (dt_Roads_sendTo 80 _ _ _ rfl) rfl ?_
      refine s_if_icmp_eq (tgt := 227) (dt_Roads_sendTo 81 _ _ _ rfl) rfl ?_ ?_
      · exact s_mask [false, false, false, true, false, false, false, false] (s_ret0 rfl)
      · refine s_aload_n (dt_Roads_sendTo 82 _ _ _ rfl) rfl ?_
        refine s_getR (c := 8) (j := 6) (o := (some 339)) (dt_Roads_sendTo 83 _ _ _ rfl) (kf_Roads_30) (sc_332 hS) rfl rfl ?_
        refine s_iload (dt_Roads_sendTo 84 _ _ _ rfl) rfl ?_
        refine s_inv (y := y_X_at) (Y' := Y_X_at) (as := [VR (some 339), VI s11.1]) (r := some (VI (atM s11.2.2 339 8 s11.1))) (M' := s11.2.2) (kInvS (dt_Roads_sendTo 85 _ _ _ rfl) kst_X_at rfl) kl_Roads_43 md_X_at rfl rfl (c_X_at hS ⟨(sc_339 hS), by decide⟩ s11.1 s11.2.2) ?_
        refine s_letI (fun v12 => ?_)
        refine s_istore (dt_Roads_sendTo 86 _ _ _ rfl) rfl ?_
        refine s_iload (dt_Roads_sendTo 87 _ _ _ rfl) rfl ?_
        refine s_bipush (dt_Roads_sendTo 88 _ _ _ rfl) rfl ?_
        refine s_irem (dt_Roads_sendTo 89 _ _ _ rfl) ?_
        refine s_letI (fun v13 => ?_)
        refine s_istore (dt_Roads_sendTo 90 _ _ _ rfl) rfl ?_
        refine s_aload_n (dt_Roads_sendTo 91 _ _ _ rfl) rfl ?_
        refine s_getR (c := 8) (j := 4) (o := (some 337)) (dt_Roads_sendTo 92 _ _ _ rfl) (kf_Roads_24) (sc_332 hS) rfl rfl ?_
        refine s_iload (dt_Roads_sendTo 93 _ _ _ rfl) rfl ?_
        refine s_aload_n (dt_Roads_sendTo 94 _ _ _ rfl) rfl ?_
        refine s_getR (c := 8) (j := 4) (o := (some 337)) (dt_Roads_sendTo 95 _ _ _ rfl) (kf_Roads_24) (sc_332 hS) rfl rfl ?_
        refine s_iload (dt_Roads_sendTo 96 _ _ _ rfl) rfl ?_
        refine s_inv (y := y_X_at) (Y' := Y_X_at) (as := [VR (some 337), VI v13]) (r := some (VI (atM s11.2.2 337 20 v13))) (M' := s11.2.2) (kInvS (dt_Roads_sendTo 97 _ _ _ rfl) kst_X_at rfl) kl_Roads_43 md_X_at rfl rfl (c_X_at hS ⟨(sc_337 hS), by decide⟩ v13 s11.2.2) ?_
        refine s_iload (dt_Roads_sendTo 98 _ _ _ rfl) rfl ?_
        refine s_bipush (dt_Roads_sendTo 99 _ _ _ rfl) rfl ?_
        refine s_bd (κ := fun t14 => kC 209 [some (VR (some 332)), some (VR (some 2)), none, some (VI v8), none, some (VI s11.2.1), some (VI v12), none] [VI t14, VI (atM s11.2.2 337 20 v13), VI v13, VR (some 337)] S s11.2.2) ?_ (fun t14 => ?_)
        · refine s_if_icmp_lt (tgt := 208) (dt_Roads_sendTo 100 _ _ _ rfl) rfl ?_ ?_
          · refine s_iload_n (dt_Roads_sendTo 104 _ _ _ rfl) rfl ?_
            exact s_mask [true, true, false, true, false, true, true, false] (s_ret0 rfl)
          · refine s_iload_n (dt_Roads_sendTo 101 _ _ _ rfl) rfl ?_
            refine s_ineg (dt_Roads_sendTo 102 _ _ _ rfl) ?_
            refine s_goto (tgt := 209) (dt_Roads_sendTo 103 _ _ _ rfl) rfl ?_
            exact s_mask [true, true, false, true, false, true, true, false] (s_ret0 rfl)
        refine s_iadd (dt_Roads_sendTo 105 _ _ _ rfl) ?_
        refine s_inv (y := y_X_put) (Y' := Y_X_put) (as := [VR (some 337), VI v13, VI (w32 ((atM s11.2.2 337 20 v13) + t14))]) (r := none) (M' := (putM s11.2.2 337 20 v13 (w32 ((atM s11.2.2 337 20 v13) + t14)))) (kInvS (dt_Roads_sendTo 106 _ _ _ rfl) kst_X_put rfl) kl_Roads_57 md_X_put rfl rfl (c_X_put hS ⟨(sc_337 hS), by decide⟩ v13 (w32 ((atM s11.2.2 337 20 v13) + t14)) s11.2.2) ?_
        refine s_letM (fun M15 => ?_)
        refine s_aload_n (dt_Roads_sendTo 107 _ _ _ rfl) rfl ?_
        refine s_iload (dt_Roads_sendTo 108 _ _ _ rfl) rfl ?_
        refine s_callO (y := y_Roads_beforeOn) (Y' := Y_Roads_beforeOn) (as := [VR (some 2), VI v12]) (r := fun q => some (VI q)) (M' := fun q => M15) (kInvS (dt_Roads_sendTo 109 _ _ _ rfl) kst_Roads_beforeOn rfl) kl_Roads_118 md_Roads_beforeOn rfl rfl (fun q hq => c_Roads_beforeOn hS v12 M15 q hq) (fun q16 => ?_)
        refine s_istore (dt_Roads_sendTo 110 _ _ _ rfl) rfl ?_
        refine s_iinc (dt_Roads_sendTo 111 _ _ _ rfl) rfl rfl ?_
        refine s_goto (tgt := 143) (dt_Roads_sendTo 112 _ _ _ rfl) rfl ?_
        exact s_mask [true, true, false, true, true, true, false, false] (s_ret0 rfl)
    · exact s_mask [false, false, false, true, false, false, false, false] (s_ret0 rfl)
  intro e17
  refine s_iload_n (dt_Roads_sendTo 113 _ _ _ rfl) rfl ?_
  exact s_iret (dt_Roads_sendTo 114 _ _ _ rfl) rfl rfl
theorem c_Roads_sendTo {S : KS} (hS : KExt 382 S)  (a1 : Int) (M : KM) : ∀ q, f_Roads_sendTo a1 M = some q → Ctr y_Roads_sendTo Y_Roads_sendTo [VR (some 332), VR (some 2), VI a1] S M (some (VI q.1)) S (q.2) := fun q hq =>
  ctr_of md_Roads_sendTo (Nat.le_of_ble_eq_true rfl) ⟨Nat.le_refl _, Nat.le_refl _⟩ 5 hq rfl (fun _ G => sim_Roads_sendTo hS  a1 M)
set_option maxRecDepth 100000 in
theorem sim_Roads_settle {G : Gam} {S : KS} (hS : KExt 382 S)  (a1 : Int) (M : KM) : Sim G Y_Roads_settle (f_Roads_settle a1 M) (kC 0 [some (VR (some 332)), some (VR (some 2)), some (VI a1), none, none, none, none, none, none, none, none] [] S M) (fun (q : Int × KM) => Sum.inr (some (VI q.1), S, q.2)) := by
  unfold f_Roads_settle
  refine s_iconst (dt_Roads_settle 0 _ _ _ rfl) rfl ?_
  refine s_istore_n (dt_Roads_settle 1 _ _ _ rfl) rfl ?_
  refine s_iconst (dt_Roads_settle 2 _ _ _ rfl) rfl ?_
  refine s_istore (dt_Roads_settle 3 _ _ _ rfl) rfl ?_
  refine s_iconst (dt_Roads_settle 4 _ _ _ rfl) rfl ?_
  refine s_istore (dt_Roads_settle 5 _ _ _ rfl) rfl ?_
  refine s_bd (κ := (fun (e4 : Int × Int) => kC 50 [some (VR (some 332)), some (VR (some 2)), some (VI a1), some (VI e4.1), some (VI e4.2), none, none, none, none, none, none] [] S M)) (s_mask [true, true, true, true, true, true, false, false, false, false, false] (s_while (c := fun s1 => kC 8 [some (VR (some 332)), some (VR (some 2)), some (VI a1), some (VI s1.1), some (VI s1.2.1), some (VI s1.2.2), none, none, none, none, none] [] S M) (fun s1 => ?_) ((0 : Int), (0 : Int), (0 : Int)))) ?_
  · refine s_iload (dt_Roads_settle 6 _ _ _ rfl) rfl ?_
    refine s_aload_n (dt_Roads_settle 7 _ _ _ rfl) rfl ?_
    refine s_getR (c := 8) (j := 0) (o := (some 333)) (dt_Roads_settle 8 _ _ _ rfl) (kf_Roads_9) (sc_332 hS) rfl rfl ?_
    refine s_alen (N := 8) (dt_Roads_settle 9 _ _ _ rfl) (sc_333 hS) rfl rfl (by decide) ?_
    refine s_if_icmp_ge (tgt := 50) (dt_Roads_settle 10 _ _ _ rfl) rfl ?_ ?_
    · refine s_iload_n (dt_Roads_settle 11 _ _ _ rfl) rfl ?_
      refine s_aload_n (dt_Roads_settle 12 _ _ _ rfl) rfl ?_
      refine s_getR (c := 8) (j := 0) (o := (some 333)) (dt_Roads_settle 13 _ _ _ rfl) (kf_Roads_9) (sc_332 hS) rfl rfl ?_
      refine s_iload (dt_Roads_settle 14 _ _ _ rfl) rfl ?_
      refine s_iald (N := 8) (dt_Roads_settle 15 _ _ _ rfl) (sc_333 hS) rfl ?_
      refine s_iadd (dt_Roads_settle 16 _ _ _ rfl) ?_
      refine s_letI (fun v2 => ?_)
      refine s_istore_n (dt_Roads_settle 17 _ _ _ rfl) rfl ?_
      refine s_iload (dt_Roads_settle 18 _ _ _ rfl) rfl ?_
      refine s_iconst (dt_Roads_settle 19 _ _ _ rfl) rfl ?_
      refine s_aload_n (dt_Roads_settle 20 _ _ _ rfl) rfl ?_
      refine s_getR (c := 8) (j := 0) (o := (some 333)) (dt_Roads_settle 21 _ _ _ rfl) (kf_Roads_9) (sc_332 hS) rfl rfl ?_
      refine s_iload (dt_Roads_settle 22 _ _ _ rfl) rfl ?_
      refine s_iald (N := 8) (dt_Roads_settle 23 _ _ _ rfl) (sc_333 hS) rfl ?_
      refine s_mmax (dt_Roads_settle 24 _ _ _ rfl) kj_Roads_94 rfl ?_
      refine s_iadd (dt_Roads_settle 25 _ _ _ rfl) ?_
      refine s_letI (fun v3 => ?_)
      refine s_istore (dt_Roads_settle 26 _ _ _ rfl) rfl ?_
      refine s_iinc (dt_Roads_settle 27 _ _ _ rfl) rfl rfl ?_
      refine s_goto (tgt := 8) (dt_Roads_settle 28 _ _ _ rfl) rfl ?_
      exact s_mask [true, true, true, true, true, true, false, false, false, false, false] (s_ret0 rfl)
    · exact s_mask [true, true, true, true, true, false, false, false, false, false, false] (s_ret0 rfl)
  intro e4
  refine s_iload_n (dt_Roads_settle 29 _ _ _ rfl) rfl ?_
  refine s_if_eq (tgt := 56) (dt_Roads_settle 30 _ _ _ rfl) rfl ?_ ?_
  · refine s_iconst (dt_Roads_settle 33 _ _ _ rfl) rfl ?_
    refine s_istore (dt_Roads_settle 34 _ _ _ rfl) rfl ?_
    refine s_bd (κ := (fun (e7 : KM) => kC 83 [some (VR (some 332)), some (VR (some 2)), some (VI a1), none, some (VI e4.2), none, none, none, none, none, none] [] S e7)) (s_mask [true, true, true, false, true, true, false, false, false, false, false] (s_while (c := fun s5 => kC 59 [some (VR (some 332)), some (VR (some 2)), some (VI a1), none, some (VI e4.2), some (VI s5.1), none, none, none, none, none] [] S s5.2) (fun s5 => ?_) ((0 : Int), M))) ?_
    · refine s_iload (dt_Roads_settle 35 _ _ _ rfl) rfl ?_
      refine s_aload_n (dt_Roads_settle 36 _ _ _ rfl) rfl ?_
      refine s_getR (c := 8) (j := 4) (o := (some 337)) (dt_Roads_settle 37 _ _ _ rfl) (kf_Roads_24) (sc_332 hS) rfl rfl ?_
      refine s_alen (N := 20) (dt_Roads_settle 38 _ _ _ rfl) (sc_337 hS) rfl rfl (by decide) ?_
      refine s_if_icmp_ge (tgt := 83) (dt_Roads_settle 39 _ _ _ rfl) rfl ?_ ?_
      · refine s_aload_n (dt_Roads_settle 40 _ _ _ rfl) rfl ?_
        refine s_getR (c := 8) (j := 4) (o := (some 337)) (dt_Roads_settle 41 _ _ _ rfl) (kf_Roads_24) (sc_332 hS) rfl rfl ?_
        refine s_iload (dt_Roads_settle 42 _ _ _ rfl) rfl ?_
        refine s_iconst (dt_Roads_settle 43 _ _ _ rfl) rfl ?_
        refine s_iast (N := 20) (dt_Roads_settle 44 _ _ _ rfl) (sc_337 hS) rfl ?_
        refine s_letM (fun M6 => ?_)
        refine s_iinc (dt_Roads_settle 45 _ _ _ rfl) rfl rfl ?_
        refine s_goto (tgt := 59) (dt_Roads_settle 46 _ _ _ rfl) rfl ?_
        exact s_mask [true, true, true, false, true, true, false, false, false, false, false] (s_ret0 rfl)
      · exact s_mask [true, true, true, false, true, false, false, false, false, false, false] (s_ret0 rfl)
    intro e7
    refine s_iconst (dt_Roads_settle 47 _ _ _ rfl) rfl ?_
    refine s_istore (dt_Roads_settle 48 _ _ _ rfl) rfl ?_
    refine s_iload (dt_Roads_settle 49 _ _ _ rfl) rfl ?_
    refine s_istore (dt_Roads_settle 50 _ _ _ rfl) rfl ?_
    refine s_iconst (dt_Roads_settle 51 _ _ _ rfl) rfl ?_
    refine s_istore (dt_Roads_settle 52 _ _ _ rfl) rfl ?_
    refine s_bd (κ := (Sum.elim (fun (e15 : Int × KM) => kC 168 [none, none, none, none, none, some (VI e15.1), none, none, none, none, none] [] S e15.2) (fun (e16 : KM) => kC 123 [none, none, none, none, none, none, none, none, none, none, none] [] S e16))) (s_mask [true, true, true, false, true, true, true, true, false, false, false] (s_while (c := fun s8 => kC 93 [some (VR (some 332)), some (VR (some 2)), some (VI a1), none, some (VI e4.2), some (VI s8.1), some (VI s8.2.1), some (VI s8.2.2.1), none, none, none] [] S s8.2.2.2) (fun s8 => ?_) ((0 : Int), e4.2, (0 : Int), e7))) ?_
    · refine s_iload (dt_Roads_settle 53 _ _ _ rfl) rfl ?_
      refine s_iload (dt_Roads_settle 54 _ _ _ rfl) rfl ?_
      refine s_if_icmp_ge (tgt := 168) (dt_Roads_settle 55 _ _ _ rfl) rfl ?_ ?_
      · refine s_iload (dt_Roads_settle 56 _ _ _ rfl) rfl ?_
        refine s_if_le (tgt := 168) (dt_Roads_settle 57 _ _ _ rfl) rfl ?_ ?_
        · exact s_mask [false, false, false, false, false, true, false, false, false, false, false] (s_ret0 rfl)
        · refine s_aload_n (dt_Roads_settle 58 _ _ _ rfl) rfl ?_
          refine s_aload_n (dt_Roads_settle 59 _ _ _ rfl) rfl ?_
          refine s_iload_n (dt_Roads_settle 60 _ _ _ rfl) rfl ?_
          refine s_callO (y := y_Roads_findWays) (Y' := Y_Roads_findWays) (as := [VR (some 332), VR (some 2), VI a1]) (r := fun q => none) (M' := fun q => q) (kInvV (dt_Roads_settle 61 _ _ _ rfl) kin_Roads_findWays 8 rfl (sc_332 hS) kse_Roads_findWays rfl) kl_Roads_99 md_Roads_findWays rfl rfl (fun q hq => c_Roads_findWays hS a1 s8.2.2.2 q hq) (fun q9 => ?_)
          refine s_aload_n (dt_Roads_settle 62 _ _ _ rfl) rfl ?_
          refine s_callO (y := y_Roads_nearestWhoLacks) (Y' := Y_Roads_nearestWhoLacks) (as := [VR (some 332)]) (r := fun q => some (VI q)) (M' := fun q => q9) (kInvV (dt_Roads_settle 63 _ _ _ rfl) kin_Roads_nearestWhoLacks 8 rfl (sc_332 hS) kse_Roads_nearestWhoLacks rfl) kl_Roads_103 md_Roads_nearestWhoLacks rfl rfl (fun q hq => c_Roads_nearestWhoLacks hS q9 q hq) (fun q10 => ?_)
          refine s_istore (dt_Roads_settle 64 _ _ _ rfl) rfl ?_
          refine s_iload (dt_Roads_settle 65 _ _ _ rfl) rfl ?_
          refine s_iconst (dt_Roads_settle 66 _ _ _ rfl) rfl ?_
          refine s_if_icmp_ne (tgt := 125) (dt_Roads_settle 67 _ _ _ rfl) rfl ?_ ?_
          · exact s_mask [false, false, false, false, false, false, false, false, false, false, false] (s_ret0 rfl)
          · refine s_aload_n (dt_Roads_settle 70 _ _ _ rfl) rfl ?_
            refine s_getR (c := 8) (j := 5) (o := (some 338)) (dt_Roads_settle 71 _ _ _ rfl) (kf_Roads_27) (sc_332 hS) rfl rfl ?_
            refine s_iload (dt_Roads_settle 72 _ _ _ rfl) rfl ?_
            refine s_inv (y := y_X_at) (Y' := Y_X_at) (as := [VR (some 338), VI q10]) (r := some (VI (atM q9 338 8 q10))) (M' := q9) (kInvS (dt_Roads_settle 73 _ _ _ rfl) kst_X_at rfl) kl_Roads_43 md_X_at rfl rfl (c_X_at hS ⟨(sc_338 hS), by decide⟩ q10 q9) ?_
            refine s_letI (fun v11 => ?_)
            refine s_istore (dt_Roads_settle 74 _ _ _ rfl) rfl ?_
            refine s_aload_n (dt_Roads_settle 75 _ _ _ rfl) rfl ?_
            refine s_aload_n (dt_Roads_settle 76 _ _ _ rfl) rfl ?_
            refine s_iload (dt_Roads_settle 77 _ _ _ rfl) rfl ?_
            refine s_callO (y := y_Roads_sendTo) (Y' := Y_Roads_sendTo) (as := [VR (some 332), VR (some 2), VI q10]) (r := fun q => some (VI q.1)) (M' := fun q => q.2) (kInvV (dt_Roads_settle 78 _ _ _ rfl) kin_Roads_sendTo 8 rfl (sc_332 hS) kse_Roads_sendTo rfl) kl_Roads_107 md_Roads_sendTo rfl rfl (fun q hq => c_Roads_sendTo hS q10 q9 q hq) (fun q12 => ?_)
            refine s_istore (dt_Roads_settle 79 _ _ _ rfl) rfl ?_
            refine s_iload (dt_Roads_settle 80 _ _ _ rfl) rfl ?_
            refine s_iload (dt_Roads_settle 81 _ _ _ rfl) rfl ?_
            refine s_iload (dt_Roads_settle 82 _ _ _ rfl) rfl ?_
            refine s_imul (dt_Roads_settle 83 _ _ _ rfl) ?_
            refine s_iadd (dt_Roads_settle 84 _ _ _ rfl) ?_
            refine s_letI (fun v13 => ?_)
            refine s_istore (dt_Roads_settle 85 _ _ _ rfl) rfl ?_
            refine s_iload (dt_Roads_settle 86 _ _ _ rfl) rfl ?_
            refine s_iload (dt_Roads_settle 87 _ _ _ rfl) rfl ?_
            refine s_isub (dt_Roads_settle 88 _ _ _ rfl) ?_
            refine s_letI (fun v14 => ?_)
            refine s_istore (dt_Roads_settle 89 _ _ _ rfl) rfl ?_
            refine s_iinc (dt_Roads_settle 90 _ _ _ rfl) rfl rfl ?_
            refine s_goto (tgt := 93) (dt_Roads_settle 91 _ _ _ rfl) rfl ?_
            exact s_mask [true, true, true, false, true, true, true, true, false, false, false] (s_ret0 rfl)
      · exact s_mask [false, false, false, false, false, true, false, false, false, false, false] (s_ret0 rfl)
    refine s_elim (fun e15 => ?_) ?_
    · refine s_iload (dt_Roads_settle 92 _ _ _ rfl) rfl ?_
      exact s_iret (dt_Roads_settle 93 _ _ _ rfl) rfl rfl
    intro e16
    refine s_iconst (dt_Roads_settle 68 _ _ _ rfl) rfl ?_
    exact s_iret (dt_Roads_settle 69 _ _ _ rfl) rfl rfl
  · refine s_iconst (dt_Roads_settle 31 _ _ _ rfl) rfl ?_
    exact s_iret (dt_Roads_settle 32 _ _ _ rfl) rfl rfl
theorem c_Roads_settle {S : KS} (hS : KExt 382 S)  (a1 : Int) (M : KM) : ∀ q, f_Roads_settle a1 M = some q → Ctr y_Roads_settle Y_Roads_settle [VR (some 332), VR (some 2), VI a1] S M (some (VI q.1)) S (q.2) := fun q hq =>
  ctr_of md_Roads_settle (Nat.le_of_ble_eq_true rfl) ⟨Nat.le_refl _, Nat.le_refl _⟩ 8 hq rfl (fun _ G => sim_Roads_settle hS  a1 M)
