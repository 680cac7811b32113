set_option maxRecDepth 100000 in
theorem sim_X_barred {G : Gam} {S : KS} (hS : KExt 382 S)   (M : KM) : Sim G Y_X_barred (f_X_barred  M) (kC 0 [some (VR (some 0)), none, none] [] S M) (fun (q : Int × KM) => Sum.inr (some (VI q.1), S, q.2)) := by
  unfold f_X_barred
  refine s_iconst (dt_X_barred 0 _ _ _ rfl) rfl ?_
  refine s_istore_n (dt_X_barred 1 _ _ _ rfl) rfl ?_
  refine s_aload_n (dt_X_barred 2 _ _ _ rfl) rfl ?_
  refine s_getR (c := 0) (j := 10) (o := (some 332)) (dt_X_barred 3 _ _ _ rfl) (kf_X_62) (sc_0 hS) rfl rfl ?_
  refine s_aload_n (dt_X_barred 4 _ _ _ rfl) rfl ?_
  refine s_getR (c := 0) (j := 2) (o := (some 2)) (dt_X_barred 5 _ _ _ rfl) (kf_X_20) (sc_0 hS) rfl rfl ?_
  refine s_aload_n (dt_X_barred 6 _ _ _ rfl) rfl ?_
  refine s_getR (c := 0) (j := 4) (o := (some 34)) (dt_X_barred 7 _ _ _ rfl) (kf_X_34) (sc_0 hS) rfl rfl ?_
  refine s_getI (c := 10) (j := 3) (dt_X_barred 8 _ _ _ rfl) (kf_X_183) (sc_34 hS) rfl ?_
  refine s_callO (y := y_Roads_measure) (Y' := Y_Roads_measure) (as := [VR (some 332), VR (some 2), VI (M 34 3)]) (r := fun q => none) (M' := fun q => q) (kInvV (dt_X_barred 9 _ _ _ rfl) kin_Roads_measure 8 rfl (sc_332 hS) kse_Roads_measure rfl) kl_X_304 md_Roads_measure rfl rfl (fun q hq => c_Roads_measure hS (M 34 3) M q hq) (fun q1 => ?_)
  refine s_iconst (dt_X_barred 10 _ _ _ rfl) rfl ?_
  refine s_istore_n (dt_X_barred 11 _ _ _ rfl) rfl ?_
  refine s_bd (κ := (fun (e7 : Int × KM) => kC 104 [none, some (VI e7.1), none] [] S e7.2)) (s_mask [true, true, true] (s_while (c := fun s2 => kC 22 [some (VR (some 0)), some (VI s2.1), some (VI s2.2.1)] [] S s2.2.2) (fun s2 => ?_) ((0 : Int), (0 : Int), q1))) ?_
  · refine s_iload_n (dt_X_barred 12 _ _ _ rfl) rfl ?_
    refine s_aload_n (dt_X_barred 13 _ _ _ rfl) rfl ?_
    refine s_getR (c := 0) (j := 2) (o := (some 2)) (dt_X_barred 14 _ _ _ rfl) (kf_X_20) (sc_0 hS) rfl rfl ?_
    refine s_getI (c := 12) (j := 0) (dt_X_barred 15 _ _ _ rfl) (kf_X_124) (sc_2 hS) rfl ?_
    refine s_if_icmp_ge (tgt := 104) (dt_X_barred 16 _ _ _ rfl) rfl ?_ ?_
    · refine s_aload_n (dt_X_barred 17 _ _ _ rfl) rfl ?_
      refine s_iload_n (dt_X_barred 18 _ _ _ rfl) rfl ?_
      refine s_callO (y := y_X_isAlive) (Y' := Y_X_isAlive) (as := [VR (some 0), VI s2.2.1]) (r := fun q => some (VI q)) (M' := fun q => s2.2.2) (kInvV (dt_X_barred 19 _ _ _ rfl) kin_X_isAlive 0 rfl (sc_0 hS) kse_X_isAlive rfl) kl_X_147 md_X_isAlive rfl rfl (fun q hq => c_X_isAlive hS s2.2.1 s2.2.2 q hq) (fun q3 => ?_)
      refine s_bd (κ := fun t6 => kC 98 [some (VR (some 0)), some (VI t6.1), some (VI s2.2.1)] [] S t6.2) ?_ (fun t6 => ?_)
      · refine s_if_eq (tgt := 98) (dt_X_barred 20 _ _ _ rfl) rfl ?_ ?_
        · exact s_mask [true, true, true] (s_ret0 rfl)
        · refine s_aload_n (dt_X_barred 21 _ _ _ rfl) rfl ?_
          refine s_getI (c := 0) (j := 9) (dt_X_barred 22 _ _ _ rfl) (kf_X_56) (sc_0 hS) rfl ?_
          refine s_iload_n (dt_X_barred 23 _ _ _ rfl) rfl ?_
          refine s_inv (y := y_X_isIn) (Y' := Y_X_isIn) (as := [VI (s2.2.2 0 9), VI s2.2.1]) (r := some (VI (isInV (s2.2.2 0 9) s2.2.1))) (M' := s2.2.2) (kInvS (dt_X_barred 24 _ _ _ rfl) kst_X_isIn rfl) kl_X_186 md_X_isIn rfl rfl (c_X_isIn hS (s2.2.2 0 9) s2.2.1 s2.2.2) ?_
          refine s_if_eq (tgt := 98) (dt_X_barred 25 _ _ _ rfl) rfl ?_ ?_
          · exact s_mask [true, true, true] (s_ret0 rfl)
          · refine s_aload_n (dt_X_barred 26 _ _ _ rfl) rfl ?_
            refine s_getR (c := 0) (j := 10) (o := (some 332)) (dt_X_barred 27 _ _ _ rfl) (kf_X_62) (sc_0 hS) rfl rfl ?_
            refine s_aload_n (dt_X_barred 28 _ _ _ rfl) rfl ?_
            refine s_getR (c := 0) (j := 2) (o := (some 2)) (dt_X_barred 29 _ _ _ rfl) (kf_X_20) (sc_0 hS) rfl rfl ?_
            refine s_aload_n (dt_X_barred 30 _ _ _ rfl) rfl ?_
            refine s_getR (c := 0) (j := 4) (o := (some 34)) (dt_X_barred 31 _ _ _ rfl) (kf_X_34) (sc_0 hS) rfl rfl ?_
            refine s_iload_n (dt_X_barred 32 _ _ _ rfl) rfl ?_
            refine s_callO (y := y_Roads_priceAges) (Y' := Y_Roads_priceAges) (as := [VR (some 332), VR (some 2), VR (some 34), VI s2.2.1]) (r := fun q => none) (M' := fun q => q) (kInvV (dt_X_barred 33 _ _ _ rfl) kin_Roads_priceAges 8 rfl (sc_332 hS) kse_Roads_priceAges rfl) kl_X_308 md_Roads_priceAges rfl rfl (fun q hq => c_Roads_priceAges hS s2.2.1 s2.2.2 q hq) (fun q4 => ?_)
            refine s_aload_n (dt_X_barred 34 _ _ _ rfl) rfl ?_
            refine s_getR (c := 0) (j := 10) (o := (some 332)) (dt_X_barred 35 _ _ _ rfl) (kf_X_62) (sc_0 hS) rfl rfl ?_
            refine s_getR (c := 8) (j := 1) (o := (some 334)) (dt_X_barred 36 _ _ _ rfl) (kf_X_312) (sc_332 hS) rfl rfl ?_
            refine s_aload_n (dt_X_barred 37 _ _ _ rfl) rfl ?_
            refine s_getR (c := 0) (j := 8) (o := (some 331)) (dt_X_barred 38 _ _ _ rfl) (kf_X_52) (sc_0 hS) rfl rfl ?_
            refine s_iload_n (dt_X_barred 39 _ _ _ rfl) rfl ?_
            refine s_inv (y := y_X_at) (Y' := Y_X_at) (as := [VR (some 331), VI s2.2.1]) (r := some (VI (atM q4 331 8 s2.2.1))) (M' := q4) (kInvS (dt_X_barred 40 _ _ _ rfl) kst_X_at rfl) kl_X_140 md_X_at rfl rfl (c_X_at hS ⟨(sc_331 hS), by decide⟩ s2.2.1 q4) ?_
            refine s_inv (y := y_X_at) (Y' := Y_X_at) (as := [VR (some 334), VI (atM q4 331 8 s2.2.1)]) (r := some (VI (atM q4 334 151 (atM q4 331 8 s2.2.1)))) (M' := q4) (kInvS (dt_X_barred 41 _ _ _ rfl) kst_X_at rfl) kl_X_140 md_X_at rfl rfl (c_X_at hS ⟨(sc_334 hS), by decide⟩ (atM q4 331 8 s2.2.1) q4) ?_
            refine s_ldcw (n := (100000000 : Int)) (kc_X_315) (dt_X_barred 42 _ _ _ rfl) rfl ?_
            refine s_if_icmp_lt (tgt := 98) (dt_X_barred 43 _ _ _ rfl) rfl ?_ ?_
            · exact s_mask [true, true, true] (s_ret0 rfl)
            · refine s_iload_n (dt_X_barred 44 _ _ _ rfl) rfl ?_
              refine s_iconst (dt_X_barred 45 _ _ _ rfl) rfl ?_
              refine s_iload_n (dt_X_barred 46 _ _ _ rfl) rfl ?_
              refine s_ishl (dt_X_barred 47 _ _ _ rfl) ?_
              refine s_ior (dt_X_barred 48 _ _ _ rfl) ?_
              refine s_letI (fun v5 => ?_)
              refine s_istore_n (dt_X_barred 49 _ _ _ rfl) rfl ?_
              exact s_mask [true, true, true] (s_ret0 rfl)
      refine s_iinc (dt_X_barred 50 _ _ _ rfl) rfl rfl ?_
      refine s_goto (tgt := 22) (dt_X_barred 51 _ _ _ rfl) rfl ?_
      exact s_mask [true, true, true] (s_ret0 rfl)
    · exact s_mask [false, true, false] (s_ret0 rfl)
  intro e7
  refine s_iload_n (dt_X_barred 52 _ _ _ rfl) rfl ?_
  exact s_iret (dt_X_barred 53 _ _ _ rfl) rfl rfl
theorem c_X_barred {S : KS} (hS : KExt 382 S)   (M : KM) : ∀ q, f_X_barred  M = some q → Ctr y_X_barred Y_X_barred [VR (some 0)] S M (some (VI q.1)) S (q.2) := fun q hq =>
  ctr_of md_X_barred (Nat.le_of_ble_eq_true rfl) ⟨Nat.le_refl _, Nat.le_refl _⟩ 2 hq rfl (fun _ G => sim_X_barred hS   M)
set_option maxRecDepth 100000 in
theorem sim_X_reach {G : Gam} {S : KS} (hS : KExt 382 S)  (a0 : Int) (a1 : Int) (a2 : Int) (M : KM) : Sim G Y_X_reach (f_X_reach a0 a1 a2 M) (kC 0 [some (VR (some 0)), some (VI a0), some (VI a1), some (VI a2), none, none, none, none] [] S M) (fun (q : Int × KM) => Sum.inr (some (VI q.1), S, q.2)) := by
  unfold f_X_reach
  refine s_aload_n (dt_X_reach 0 _ _ _ rfl) rfl ?_
  refine s_iload_n (dt_X_reach 1 _ _ _ rfl) rfl ?_
  refine s_callO (y := y_X_isAlive) (Y' := Y_X_isAlive) (as := [VR (some 0), VI a0]) (r := fun q => some (VI q)) (M' := fun q => M) (kInvV (dt_X_reach 2 _ _ _ rfl) kin_X_isAlive 0 rfl (sc_0 hS) kse_X_isAlive rfl) kl_X_147 md_X_isAlive rfl rfl (fun q hq => c_X_isAlive hS a0 M q hq) (fun q1 => ?_)
  refine s_if_eq (tgt := 25) (dt_X_reach 3 _ _ _ rfl) rfl ?_ ?_
  · refine s_iconst (dt_X_reach 13 _ _ _ rfl) rfl ?_
    exact s_iret (dt_X_reach 14 _ _ _ rfl) rfl rfl
  · refine s_aload_n (dt_X_reach 4 _ _ _ rfl) rfl ?_
    refine s_iload_n (dt_X_reach 5 _ _ _ rfl) rfl ?_
    refine s_callO (y := y_X_isRight) (Y' := Y_X_isRight) (as := [VR (some 0), VI a1]) (r := fun q => some (VI q)) (M' := fun q => M) (kInvV (dt_X_reach 6 _ _ _ rfl) kin_X_isRight 0 rfl (sc_0 hS) kse_X_isRight rfl) kl_X_156 md_X_isRight rfl rfl (fun q hq => c_X_isRight hS a1 M q hq) (fun q2 => ?_)
    refine s_if_eq (tgt := 25) (dt_X_reach 7 _ _ _ rfl) rfl ?_ ?_
    · refine s_iconst (dt_X_reach 13 _ _ _ rfl) rfl ?_
      exact s_iret (dt_X_reach 14 _ _ _ rfl) rfl rfl
    · refine s_iload_n (dt_X_reach 8 _ _ _ rfl) rfl ?_
      refine s_if_lt (tgt := 25) (dt_X_reach 9 _ _ _ rfl) rfl ?_ ?_
      · refine s_iconst (dt_X_reach 13 _ _ _ rfl) rfl ?_
        exact s_iret (dt_X_reach 14 _ _ _ rfl) rfl rfl
      · refine s_iload_n (dt_X_reach 10 _ _ _ rfl) rfl ?_
        refine s_iconst (dt_X_reach 11 _ _ _ rfl) rfl ?_
        refine s_if_icmp_le (tgt := 27) (dt_X_reach 12 _ _ _ rfl) rfl ?_ ?_
        · refine s_aload_n (dt_X_reach 15 _ _ _ rfl) rfl ?_
          refine s_getR (c := 0) (j := 10) (o := (some 332)) (dt_X_reach 16 _ _ _ rfl) (kf_X_62) (sc_0 hS) rfl rfl ?_
          refine s_aload_n (dt_X_reach 17 _ _ _ rfl) rfl ?_
          refine s_getR (c := 0) (j := 2) (o := (some 2)) (dt_X_reach 18 _ _ _ rfl) (kf_X_20) (sc_0 hS) rfl rfl ?_
          refine s_aload_n (dt_X_reach 19 _ _ _ rfl) rfl ?_
          refine s_getR (c := 0) (j := 4) (o := (some 34)) (dt_X_reach 20 _ _ _ rfl) (kf_X_34) (sc_0 hS) rfl rfl ?_
          refine s_getI (c := 10) (j := 3) (dt_X_reach 21 _ _ _ rfl) (kf_X_183) (sc_34 hS) rfl ?_
          refine s_callO (y := y_Roads_measure) (Y' := Y_Roads_measure) (as := [VR (some 332), VR (some 2), VI (M 34 3)]) (r := fun q => none) (M' := fun q => q) (kInvV (dt_X_reach 22 _ _ _ rfl) kin_Roads_measure 8 rfl (sc_332 hS) kse_Roads_measure rfl) kl_X_304 md_Roads_measure rfl rfl (fun q hq => c_Roads_measure hS (M 34 3) M q hq) (fun q3 => ?_)
          refine s_aload_n (dt_X_reach 23 _ _ _ rfl) rfl ?_
          refine s_getR (c := 0) (j := 10) (o := (some 332)) (dt_X_reach 24 _ _ _ rfl) (kf_X_62) (sc_0 hS) rfl rfl ?_
          refine s_aload_n (dt_X_reach 25 _ _ _ rfl) rfl ?_
          refine s_getR (c := 0) (j := 2) (o := (some 2)) (dt_X_reach 26 _ _ _ rfl) (kf_X_20) (sc_0 hS) rfl rfl ?_
          refine s_aload_n (dt_X_reach 27 _ _ _ rfl) rfl ?_
          refine s_getR (c := 0) (j := 4) (o := (some 34)) (dt_X_reach 28 _ _ _ rfl) (kf_X_34) (sc_0 hS) rfl rfl ?_
          refine s_iload_n (dt_X_reach 29 _ _ _ rfl) rfl ?_
          refine s_callO (y := y_Roads_priceAges) (Y' := Y_Roads_priceAges) (as := [VR (some 332), VR (some 2), VR (some 34), VI a0]) (r := fun q => none) (M' := fun q => q) (kInvV (dt_X_reach 30 _ _ _ rfl) kin_Roads_priceAges 8 rfl (sc_332 hS) kse_Roads_priceAges rfl) kl_X_308 md_Roads_priceAges rfl rfl (fun q hq => c_Roads_priceAges hS a0 q3 q hq) (fun q4 => ?_)
          refine s_ldcw (n := (100000000 : Int)) (kc_X_315) (dt_X_reach 31 _ _ _ rfl) rfl ?_
          refine s_istore (dt_X_reach 32 _ _ _ rfl) rfl ?_
          refine s_iconst (dt_X_reach 33 _ _ _ rfl) rfl ?_
          refine s_istore (dt_X_reach 34 _ _ _ rfl) rfl ?_
          refine s_aload_n (dt_X_reach 35 _ _ _ rfl) rfl ?_
          refine s_getR (c := 0) (j := 2) (o := (some 2)) (dt_X_reach 36 _ _ _ rfl) (kf_X_20) (sc_0 hS) rfl rfl ?_
          refine s_getI (c := 12) (j := 12) (dt_X_reach 37 _ _ _ rfl) (kf_X_177) (sc_2 hS) rfl ?_
          refine s_letI (fun v5 => ?_)
          refine s_istore (dt_X_reach 38 _ _ _ rfl) rfl ?_
          refine s_bd (κ := (fun (e10 : Int × Int × KM) => kC 136 [none, none, none, some (VI a2), some (VI e10.1), some (VI e10.2.1), none, none] [] S e10.2.2)) (s_mask [true, true, true, true, true, true, true, false] (s_while (c := fun s6 => kC 78 [some (VR (some 0)), some (VI a0), some (VI a1), some (VI a2), some (VI s6.1), some (VI s6.2.1), some (VI s6.2.2.1), none] [] S s6.2.2.2) (fun s6 => ?_) ((100000000 : Int), (-1 : Int), v5, q4))) ?_
          · refine s_iload (dt_X_reach 39 _ _ _ rfl) rfl ?_
            refine s_aload_n (dt_X_reach 40 _ _ _ rfl) rfl ?_
            refine s_getR (c := 0) (j := 2) (o := (some 2)) (dt_X_reach 41 _ _ _ rfl) (kf_X_20) (sc_0 hS) rfl rfl ?_
            refine s_getI (c := 12) (j := 13) (dt_X_reach 42 _ _ _ rfl) (kf_X_180) (sc_2 hS) rfl ?_
            refine s_if_icmp_gt (tgt := 136) (dt_X_reach 43 _ _ _ rfl) rfl ?_ ?_
            · refine s_aload_n (dt_X_reach 44 _ _ _ rfl) rfl ?_
              refine s_getR (c := 0) (j := 10) (o := (some 332)) (dt_X_reach 45 _ _ _ rfl) (kf_X_62) (sc_0 hS) rfl rfl ?_
              refine s_getR (c := 8) (j := 1) (o := (some 334)) (dt_X_reach 46 _ _ _ rfl) (kf_X_312) (sc_332 hS) rfl rfl ?_
              refine s_iload (dt_X_reach 47 _ _ _ rfl) rfl ?_
              refine s_inv (y := y_X_at) (Y' := Y_X_at) (as := [VR (some 334), VI s6.2.2.1]) (r := some (VI (atM s6.2.2.2 334 151 s6.2.2.1))) (M' := s6.2.2.2) (kInvS (dt_X_reach 48 _ _ _ rfl) kst_X_at rfl) kl_X_140 md_X_at rfl rfl (c_X_at hS ⟨(sc_334 hS), by decide⟩ s6.2.2.1 s6.2.2.2) ?_
              refine s_letI (fun v7 => ?_)
              refine s_istore (dt_X_reach 49 _ _ _ rfl) rfl ?_
              refine s_iload (dt_X_reach 50 _ _ _ rfl) rfl ?_
              refine s_iload (dt_X_reach 51 _ _ _ rfl) rfl ?_
              refine s_bd (κ := fun t9 => kC 130 [some (VR (some 0)), some (VI a0), some (VI a1), some (VI a2), some (VI t9.1), some (VI t9.2.1), some (VI s6.2.2.1), none] [] S t9.2.2) ?_ (fun t9 => ?_)
              · refine s_if_icmp_ge (tgt := 130) (dt_X_reach 52 _ _ _ rfl) rfl ?_ ?_
                · refine s_aload_n (dt_X_reach 53 _ _ _ rfl) rfl ?_
                  refine s_iload_n (dt_X_reach 54 _ _ _ rfl) rfl ?_
                  refine s_iload_n (dt_X_reach 55 _ _ _ rfl) rfl ?_
                  refine s_iload (dt_X_reach 56 _ _ _ rfl) rfl ?_
                  refine s_callO (y := y_X_wouldHave) (Y' := Y_X_wouldHave) (as := [VR (some 0), VI a0, VI a1, VI s6.2.2.1]) (r := fun q => some (VI q.1)) (M' := fun q => q.2) (kInvV (dt_X_reach 57 _ _ _ rfl) kin_X_wouldHave 0 rfl (sc_0 hS) kse_X_wouldHave rfl) kl_X_189 md_X_wouldHave rfl rfl (fun q hq => c_X_wouldHave hS a0 a1 s6.2.2.1 s6.2.2.2 q hq) (fun q8 => ?_)
                  refine s_if_eq (tgt := 130) (dt_X_reach 58 _ _ _ rfl) rfl ?_ ?_
                  · exact s_mask [true, true, true, true, true, true, true, false] (s_ret0 rfl)
                  · refine s_iload (dt_X_reach 59 _ _ _ rfl) rfl ?_
                    refine s_istore (dt_X_reach 60 _ _ _ rfl) rfl ?_
                    refine s_iload (dt_X_reach 61 _ _ _ rfl) rfl ?_
                    refine s_istore (dt_X_reach 62 _ _ _ rfl) rfl ?_
                    exact s_mask [true, true, true, true, true, true, true, false] (s_ret0 rfl)
                · exact s_mask [true, true, true, true, true, true, true, false] (s_ret0 rfl)
              refine s_iinc (dt_X_reach 63 _ _ _ rfl) rfl rfl ?_
              refine s_goto (tgt := 78) (dt_X_reach 64 _ _ _ rfl) rfl ?_
              exact s_mask [true, true, true, true, true, true, true, false] (s_ret0 rfl)
            · exact s_mask [false, false, false, true, true, true, false, false] (s_ret0 rfl)
          intro e10
          refine s_iload (dt_X_reach 65 _ _ _ rfl) rfl ?_
          refine s_iconst (dt_X_reach 66 _ _ _ rfl) rfl ?_
          refine s_if_icmp_ne (tgt := 144) (dt_X_reach 67 _ _ _ rfl) rfl ?_ ?_
          · refine s_iconst (dt_X_reach 68 _ _ _ rfl) rfl ?_
            exact s_iret (dt_X_reach 69 _ _ _ rfl) rfl rfl
          · refine s_iload_n (dt_X_reach 70 _ _ _ rfl) rfl ?_
            refine s_bd (κ := fun t11 => kC 155 [none, none, none, none, none, none, none, none] [VI t11] S e10.2.2) ?_ (fun t11 => ?_)
            · refine s_if_ne (tgt := 153) (dt_X_reach 71 _ _ _ rfl) rfl ?_ ?_
              · refine s_iload (dt_X_reach 72 _ _ _ rfl) rfl ?_
                refine s_goto (tgt := 155) (dt_X_reach 73 _ _ _ rfl) rfl ?_
                exact s_mask [false, false, false, false, false, false, false, false] (s_ret0 rfl)
              · refine s_iload (dt_X_reach 74 _ _ _ rfl) rfl ?_
                exact s_mask [false, false, false, false, false, false, false, false] (s_ret0 rfl)
            exact s_iret (dt_X_reach 75 _ _ _ rfl) rfl rfl
        · refine s_iconst (dt_X_reach 13 _ _ _ rfl) rfl ?_
          exact s_iret (dt_X_reach 14 _ _ _ rfl) rfl rfl
theorem c_X_reach {S : KS} (hS : KExt 382 S)  (a0 : Int) (a1 : Int) (a2 : Int) (M : KM) : ∀ q, f_X_reach a0 a1 a2 M = some q → Ctr y_X_reach Y_X_reach [VR (some 0), VI a0, VI a1, VI a2] S M (some (VI q.1)) S (q.2) := fun q hq =>
  ctr_of md_X_reach (Nat.le_of_ble_eq_true rfl) ⟨Nat.le_refl _, Nat.le_refl _⟩ 4 hq rfl (fun _ G => sim_X_reach hS  a0 a1 a2 M)
set_option maxRecDepth 100000 in
theorem sim_Debts_gather {G : Gam} {S : KS} (hS : KExt 382 S)   (M : KM) : Sim G Y_Debts_gather (f_Debts_gather  M) (kC 0 [some (VR (some 340)), some (VR (some 34)), none, none, none] [] S M) (fun (q : KM) => Sum.inr (none, S, q)) := by
  unfold f_Debts_gather
  refine s_aload_n (dt_Debts_gather 0 _ _ _ rfl) rfl ?_
  refine s_aload_n (dt_Debts_gather 1 _ _ _ rfl) rfl ?_
  refine s_getI (c := 10) (j := 2) (dt_Debts_gather 2 _ _ _ rfl) (kf_Debts_24) (sc_34 hS) rfl ?_
  refine s_putI (c := 2) (j := 1) (dt_Debts_gather 3 _ _ _ rfl) kp_Debts_30 (sc_340 hS) ⟨rfl, rfl⟩ ?_
  refine s_letM (fun M1 => ?_)
  refine s_iconst (dt_Debts_gather 4 _ _ _ rfl) rfl ?_
  refine s_istore_n (dt_Debts_gather 5 _ _ _ rfl) rfl ?_
  refine s_bd (κ := (fun (e4 : KM) => kC 32 [some (VR (some 340)), some (VR (some 34)), none, none, none] [] S e4)) (s_mask [true, true, true, false, false] (s_while (c := fun s2 => kC 10 [some (VR (some 340)), some (VR (some 34)), some (VI s2.1), none, none] [] S s2.2) (fun s2 => ?_) ((0 : Int), M1))) ?_
  · refine s_iload_n (dt_Debts_gather 6 _ _ _ rfl) rfl ?_
    refine s_aload_n (dt_Debts_gather 7 _ _ _ rfl) rfl ?_
    refine s_getR (c := 2) (j := 0) (o := (some 341)) (dt_Debts_gather 8 _ _ _ rfl) (kf_Debts_9) (sc_340 hS) rfl rfl ?_
    refine s_alen (N := 8) (dt_Debts_gather 9 _ _ _ rfl) (sc_341 hS) rfl rfl (by decide) ?_
    refine s_if_icmp_ge (tgt := 32) (dt_Debts_gather 10 _ _ _ rfl) rfl ?_ ?_
    · refine s_aload_n (dt_Debts_gather 11 _ _ _ rfl) rfl ?_
      refine s_getR (c := 2) (j := 0) (o := (some 341)) (dt_Debts_gather 12 _ _ _ rfl) (kf_Debts_9) (sc_340 hS) rfl rfl ?_
      refine s_iload_n (dt_Debts_gather 13 _ _ _ rfl) rfl ?_
      refine s_iconst (dt_Debts_gather 14 _ _ _ rfl) rfl ?_
      refine s_iast (N := 8) (dt_Debts_gather 15 _ _ _ rfl) (sc_341 hS) rfl ?_
      refine s_letM (fun M3 => ?_)
      refine s_iinc (dt_Debts_gather 16 _ _ _ rfl) rfl rfl ?_
      refine s_goto (tgt := 10) (dt_Debts_gather 17 _ _ _ rfl) rfl ?_
      exact s_mask [true, true, true, false, false] (s_ret0 rfl)
    · exact s_mask [true, true, false, false, false] (s_ret0 rfl)
  intro e4
  refine s_iconst (dt_Debts_gather 18 _ _ _ rfl) rfl ?_
  refine s_istore_n (dt_Debts_gather 19 _ _ _ rfl) rfl ?_
  refine s_bd (κ := (fun (e11 : KM) => kC 130 [none, none, none, none, none] [] S e11)) (s_mask [true, true, true, false, false] (s_while (c := fun s5 => kC 34 [some (VR (some 340)), some (VR (some 34)), some (VI s5.1), none, none] [] S s5.2) (fun s5 => ?_) ((0 : Int), e4))) ?_
  · refine s_iload_n (dt_Debts_gather 20 _ _ _ rfl) rfl ?_
    refine s_aload_n (dt_Debts_gather 21 _ _ _ rfl) rfl ?_
    refine s_getI (c := 10) (j := 6) (dt_Debts_gather 22 _ _ _ rfl) (kf_Debts_31) (sc_34 hS) rfl ?_
    refine s_if_icmp_ge (tgt := 130) (dt_Debts_gather 23 _ _ _ rfl) rfl ?_ ?_
    · refine s_aload_n (dt_Debts_gather 24 _ _ _ rfl) rfl ?_
      refine s_getI (c := 10) (j := 8) (dt_Debts_gather 25 _ _ _ rfl) (kf_Debts_34) (sc_34 hS) rfl ?_
      refine s_iload_n (dt_Debts_gather 26 _ _ _ rfl) rfl ?_
      refine s_inv (y := y_X_isIn) (Y' := Y_X_isIn) (as := [VI (s5.2 34 8), VI s5.1]) (r := some (VI (isInV (s5.2 34 8) s5.1))) (M' := s5.2) (kInvS (dt_Debts_gather 27 _ _ _ rfl) kst_X_isIn rfl) kl_Debts_37 md_X_isIn rfl rfl (c_X_isIn hS (s5.2 34 8) s5.1 s5.2) ?_
      refine s_bd (κ := fun t10 => kC 124 [some (VR (some 340)), some (VR (some 34)), some (VI s5.1), none, none] [] S t10) ?_ (fun t10 => ?_)
      · refine s_if_ne (tgt := 124) (dt_Debts_gather 28 _ _ _ rfl) rfl ?_ ?_
        · refine s_aload_n (dt_Debts_gather 29 _ _ _ rfl) rfl ?_
          refine s_getR (c := 10) (j := 9) (o := (some 37)) (dt_Debts_gather 30 _ _ _ rfl) (kf_Debts_41) (sc_34 hS) rfl rfl ?_
          refine s_iload_n (dt_Debts_gather 31 _ _ _ rfl) rfl ?_
          refine s_inv (y := y_X_at) (Y' := Y_X_at) (as := [VR (some 37), VI s5.1]) (r := some (VI (atM s5.2 37 30 s5.1))) (M' := s5.2) (kInvS (dt_Debts_gather 32 _ _ _ rfl) kst_X_at rfl) kl_Debts_44 md_X_at rfl rfl (c_X_at hS ⟨(sc_37 hS), by decide⟩ s5.1 s5.2) ?_
          refine s_letI (fun v6 => ?_)
          refine s_istore_n (dt_Debts_gather 33 _ _ _ rfl) rfl ?_
          refine s_aload_n (dt_Debts_gather 34 _ _ _ rfl) rfl ?_
          refine s_getR (c := 10) (j := 10) (o := (some 38)) (dt_Debts_gather 35 _ _ _ rfl) (kf_Debts_48) (sc_34 hS) rfl rfl ?_
          refine s_iload_n (dt_Debts_gather 36 _ _ _ rfl) rfl ?_
          refine s_inv (y := y_X_at) (Y' := Y_X_at) (as := [VR (some 38), VI s5.1]) (r := some (VI (atM s5.2 38 30 s5.1))) (M' := s5.2) (kInvS (dt_Debts_gather 37 _ _ _ rfl) kst_X_at rfl) kl_Debts_44 md_X_at rfl rfl (c_X_at hS ⟨(sc_38 hS), by decide⟩ s5.1 s5.2) ?_
          refine s_letI (fun v7 => ?_)
          refine s_istore (dt_Debts_gather 38 _ _ _ rfl) rfl ?_
          refine s_aload_n (dt_Debts_gather 39 _ _ _ rfl) rfl ?_
          refine s_getR (c := 2) (j := 0) (o := (some 341)) (dt_Debts_gather 40 _ _ _ rfl) (kf_Debts_9) (sc_340 hS) rfl rfl ?_
          refine s_iload_n (dt_Debts_gather 41 _ _ _ rfl) rfl ?_
          refine s_aload_n (dt_Debts_gather 42 _ _ _ rfl) rfl ?_
          refine s_getR (c := 2) (j := 0) (o := (some 341)) (dt_Debts_gather 43 _ _ _ rfl) (kf_Debts_9) (sc_340 hS) rfl rfl ?_
          refine s_iload_n (dt_Debts_gather 44 _ _ _ rfl) rfl ?_
          refine s_inv (y := y_X_at) (Y' := Y_X_at) (as := [VR (some 341), VI v6]) (r := some (VI (atM s5.2 341 8 v6))) (M' := s5.2) (kInvS (dt_Debts_gather 45 _ _ _ rfl) kst_X_at rfl) kl_Debts_44 md_X_at rfl rfl (c_X_at hS ⟨(sc_341 hS), by decide⟩ v6 s5.2) ?_
          refine s_aload_n (dt_Debts_gather 46 _ _ _ rfl) rfl ?_
          refine s_getR (c := 10) (j := 11) (o := (some 39)) (dt_Debts_gather 47 _ _ _ rfl) (kf_Debts_51) (sc_34 hS) rfl rfl ?_
          refine s_iload_n (dt_Debts_gather 48 _ _ _ rfl) rfl ?_
          refine s_inv (y := y_X_at) (Y' := Y_X_at) (as := [VR (some 39), VI s5.1]) (r := some (VI (atM s5.2 39 30 s5.1))) (M' := s5.2) (kInvS (dt_Debts_gather 49 _ _ _ rfl) kst_X_at rfl) kl_Debts_44 md_X_at rfl rfl (c_X_at hS ⟨(sc_39 hS), by decide⟩ s5.1 s5.2) ?_
          refine s_iadd (dt_Debts_gather 50 _ _ _ rfl) ?_
          refine s_inv (y := y_X_put) (Y' := Y_X_put) (as := [VR (some 341), VI v6, VI (w32 ((atM s5.2 341 8 v6) + (atM s5.2 39 30 s5.1)))]) (r := none) (M' := (putM s5.2 341 8 v6 (w32 ((atM s5.2 341 8 v6) + (atM s5.2 39 30 s5.1))))) (kInvS (dt_Debts_gather 51 _ _ _ rfl) kst_X_put rfl) kl_Debts_54 md_X_put rfl rfl (c_X_put hS ⟨(sc_341 hS), by decide⟩ v6 (w32 ((atM s5.2 341 8 v6) + (atM s5.2 39 30 s5.1))) s5.2) ?_
          refine s_letM (fun M8 => ?_)
          refine s_aload_n (dt_Debts_gather 52 _ _ _ rfl) rfl ?_
          refine s_getR (c := 2) (j := 0) (o := (some 341)) (dt_Debts_gather 53 _ _ _ rfl) (kf_Debts_9) (sc_340 hS) rfl rfl ?_
          refine s_iload (dt_Debts_gather 54 _ _ _ rfl) rfl ?_
          refine s_aload_n (dt_Debts_gather 55 _ _ _ rfl) rfl ?_
          refine s_getR (c := 2) (j := 0) (o := (some 341)) (dt_Debts_gather 56 _ _ _ rfl) (kf_Debts_9) (sc_340 hS) rfl rfl ?_
          refine s_iload (dt_Debts_gather 57 _ _ _ rfl) rfl ?_
          refine s_inv (y := y_X_at) (Y' := Y_X_at) (as := [VR (some 341), VI v7]) (r := some (VI (atM M8 341 8 v7))) (M' := M8) (kInvS (dt_Debts_gather 58 _ _ _ rfl) kst_X_at rfl) kl_Debts_44 md_X_at rfl rfl (c_X_at hS ⟨(sc_341 hS), by decide⟩ v7 M8) ?_
          refine s_aload_n (dt_Debts_gather 59 _ _ _ rfl) rfl ?_
          refine s_getR (c := 10) (j := 11) (o := (some 39)) (dt_Debts_gather 60 _ _ _ rfl) (kf_Debts_51) (sc_34 hS) rfl rfl ?_
          refine s_iload_n (dt_Debts_gather 61 _ _ _ rfl) rfl ?_
          refine s_inv (y := y_X_at) (Y' := Y_X_at) (as := [VR (some 39), VI s5.1]) (r := some (VI (atM M8 39 30 s5.1))) (M' := M8) (kInvS (dt_Debts_gather 62 _ _ _ rfl) kst_X_at rfl) kl_Debts_44 md_X_at rfl rfl (c_X_at hS ⟨(sc_39 hS), by decide⟩ s5.1 M8) ?_
          refine s_isub (dt_Debts_gather 63 _ _ _ rfl) ?_
          refine s_inv (y := y_X_put) (Y' := Y_X_put) (as := [VR (some 341), VI v7, VI (w32 ((atM M8 341 8 v7) - (atM M8 39 30 s5.1)))]) (r := none) (M' := (putM M8 341 8 v7 (w32 ((atM M8 341 8 v7) - (atM M8 39 30 s5.1))))) (kInvS (dt_Debts_gather 64 _ _ _ rfl) kst_X_put rfl) kl_Debts_54 md_X_put rfl rfl (c_X_put hS ⟨(sc_341 hS), by decide⟩ v7 (w32 ((atM M8 341 8 v7) - (atM M8 39 30 s5.1))) M8) ?_
          refine s_letM (fun M9 => ?_)
          exact s_mask [true, true, true, false, false] (s_ret0 rfl)
        · exact s_mask [true, true, true, false, false] (s_ret0 rfl)
      refine s_iinc (dt_Debts_gather 65 _ _ _ rfl) rfl rfl ?_
      refine s_goto (tgt := 34) (dt_Debts_gather 66 _ _ _ rfl) rfl ?_
      exact s_mask [true, true, true, false, false] (s_ret0 rfl)
    · exact s_mask [false, false, false, false, false] (s_ret0 rfl)
  intro e11
  exact s_vret (dt_Debts_gather 67 _ _ _ rfl) rfl rfl
theorem c_Debts_gather {S : KS} (hS : KExt 382 S)   (M : KM) : ∀ q, f_Debts_gather  M = some q → Ctr y_Debts_gather Y_Debts_gather [VR (some 340), VR (some 34)] S M (none) S (q) := fun q hq =>
  ctr_of md_Debts_gather (Nat.le_of_ble_eq_true rfl) ⟨Nat.le_refl _, Nat.le_refl _⟩ 3 hq rfl (fun _ G => sim_Debts_gather hS   M)
set_option maxRecDepth 100000 in
theorem sim_X_net {G : Gam} {S : KS} (hS : KExt 382 S)  (a0 : Int) (M : KM) : Sim G Y_X_net (f_X_net a0 M) (kC 0 [some (VR (some 0)), some (VI a0)] [] S M) (fun (q : Int × KM) => Sum.inr (some (VI q.1), S, q.2)) := by
  unfold f_X_net
  refine s_aload_n (dt_X_net 0 _ _ _ rfl) rfl ?_
  refine s_iload_n (dt_X_net 1 _ _ _ rfl) rfl ?_
  refine s_callO (y := y_X_isPerson) (Y' := Y_X_isPerson) (as := [VR (some 0), VI a0]) (r := fun q => some (VI q)) (M' := fun q => M) (kInvV (dt_X_net 2 _ _ _ rfl) kin_X_isPerson 0 rfl (sc_0 hS) kse_X_isPerson rfl) kl_X_133 md_X_isPerson rfl rfl (fun q hq => c_X_isPerson hS a0 M q hq) (fun q1 => ?_)
  refine s_if_ne (tgt := 11) (dt_X_net 3 _ _ _ rfl) rfl ?_ ?_
  · refine s_ldc (n := (-1000000 : Int)) (kc_X_173) (dt_X_net 4 _ _ _ rfl) rfl ?_
    exact s_iret (dt_X_net 5 _ _ _ rfl) rfl rfl
  · refine s_aload_n (dt_X_net 6 _ _ _ rfl) rfl ?_
    refine s_getR (c := 0) (j := 11) (o := (some 340)) (dt_X_net 7 _ _ _ rfl) (kf_X_69) (sc_0 hS) rfl rfl ?_
    refine s_aload_n (dt_X_net 8 _ _ _ rfl) rfl ?_
    refine s_getR (c := 0) (j := 4) (o := (some 34)) (dt_X_net 9 _ _ _ rfl) (kf_X_34) (sc_0 hS) rfl rfl ?_
    refine s_callO (y := y_Debts_gather) (Y' := Y_Debts_gather) (as := [VR (some 340), VR (some 34)]) (r := fun q => none) (M' := fun q => q) (kInvV (dt_X_net 10 _ _ _ rfl) kin_Debts_gather 2 rfl (sc_340 hS) kse_Debts_gather rfl) kl_X_316 md_Debts_gather rfl rfl (fun q hq => c_Debts_gather hS M q hq) (fun q2 => ?_)
    refine s_aload_n (dt_X_net 11 _ _ _ rfl) rfl ?_
    refine s_getR (c := 0) (j := 11) (o := (some 340)) (dt_X_net 12 _ _ _ rfl) (kf_X_69) (sc_0 hS) rfl rfl ?_
    refine s_getR (c := 2) (j := 0) (o := (some 341)) (dt_X_net 13 _ _ _ rfl) (kf_X_319) (sc_340 hS) rfl rfl ?_
    refine s_iload_n (dt_X_net 14 _ _ _ rfl) rfl ?_
    refine s_inv (y := y_X_at) (Y' := Y_X_at) (as := [VR (some 341), VI a0]) (r := some (VI (atM q2 341 8 a0))) (M' := q2) (kInvS (dt_X_net 15 _ _ _ rfl) kst_X_at rfl) kl_X_140 md_X_at rfl rfl (c_X_at hS ⟨(sc_341 hS), by decide⟩ a0 q2) ?_
    exact s_iret (dt_X_net 16 _ _ _ rfl) rfl rfl
theorem c_X_net {S : KS} (hS : KExt 382 S)  (a0 : Int) (M : KM) : ∀ q, f_X_net a0 M = some q → Ctr y_X_net Y_X_net [VR (some 0), VI a0] S M (some (VI q.1)) S (q.2) := fun q hq =>
  ctr_of md_X_net (Nat.le_of_ble_eq_true rfl) ⟨Nat.le_refl _, Nat.le_refl _⟩ 0 hq rfl (fun _ G => sim_X_net hS  a0 M)
set_option maxRecDepth 100000 in
theorem sim_Debts_fewestPayments {G : Gam} {S : KS} (hS : KExt 382 S)   (M : KM) : Sim G Y_Debts_fewestPayments (f_Debts_fewestPayments  M) (kC 0 [some (VR (some 340)), none, none, none, none, none, none] [] S M) (fun (q : Int × KM) => Sum.inr (some (VI q.1), S, q.2)) := by
  unfold f_Debts_fewestPayments
  refine s_iconst (dt_Debts_fewestPayments 0 _ _ _ rfl) rfl ?_
  refine s_aload_n (dt_Debts_fewestPayments 1 _ _ _ rfl) rfl ?_
  refine s_getI (c := 2) (j := 1) (dt_Debts_fewestPayments 2 _ _ _ rfl) (kf_Debts_30) (sc_340 hS) rfl ?_
  refine s_ishl (dt_Debts_fewestPayments 3 _ _ _ rfl) ?_
  refine s_letI (fun v1 => ?_)
  refine s_istore_n (dt_Debts_fewestPayments 4 _ _ _ rfl) rfl ?_
  refine s_iconst (dt_Debts_fewestPayments 5 _ _ _ rfl) rfl ?_
  refine s_istore_n (dt_Debts_fewestPayments 6 _ _ _ rfl) rfl ?_
  refine s_bd (κ := (fun (e12 : KM) => kC 132 [some (VR (some 340)), some (VI v1), none, none, none, none, none] [] S e12)) (s_mask [true, true, true, false, false, false, false] (s_while (c := fun s2 => kC 9 [some (VR (some 340)), some (VI v1), some (VI s2.1), none, none, none, none] [] S s2.2) (fun s2 => ?_) ((0 : Int), M))) ?_
  · refine s_iload_n (dt_Debts_fewestPayments 7 _ _ _ rfl) rfl ?_
    refine s_iload_n (dt_Debts_fewestPayments 8 _ _ _ rfl) rfl ?_
    refine s_if_icmp_ge (tgt := 132) (dt_Debts_fewestPayments 9 _ _ _ rfl) rfl ?_ ?_
    · refine s_iconst (dt_Debts_fewestPayments 10 _ _ _ rfl) rfl ?_
      refine s_istore_n (dt_Debts_fewestPayments 11 _ _ _ rfl) rfl ?_
      refine s_iconst (dt_Debts_fewestPayments 12 _ _ _ rfl) rfl ?_
      refine s_istore (dt_Debts_fewestPayments 13 _ _ _ rfl) rfl ?_
      refine s_iconst (dt_Debts_fewestPayments 14 _ _ _ rfl) rfl ?_
      refine s_istore (dt_Debts_fewestPayments 15 _ _ _ rfl) rfl ?_
      refine s_bd (κ := (fun (e8 : Int × Int) => kC 92 [some (VR (some 340)), some (VI v1), some (VI s2.1), some (VI e8.1), some (VI e8.2), none, none] [] S s2.2)) (s_mask [true, true, true, true, true, true, false] (s_while (c := fun s3 => kC 22 [some (VR (some 340)), some (VI v1), some (VI s2.1), some (VI s3.1), some (VI s3.2.1), some (VI s3.2.2), none] [] S s2.2) (fun s3 => ?_) ((0 : Int), (0 : Int), (0 : Int)))) ?_
      · refine s_iload (dt_Debts_fewestPayments 16 _ _ _ rfl) rfl ?_
        refine s_aload_n (dt_Debts_fewestPayments 17 _ _ _ rfl) rfl ?_
        refine s_getI (c := 2) (j := 1) (dt_Debts_fewestPayments 18 _ _ _ rfl) (kf_Debts_30) (sc_340 hS) rfl ?_
        refine s_if_icmp_ge (tgt := 92) (dt_Debts_fewestPayments 19 _ _ _ rfl) rfl ?_ ?_
        · refine s_iload_n (dt_Debts_fewestPayments 20 _ _ _ rfl) rfl ?_
          refine s_iload (dt_Debts_fewestPayments 21 _ _ _ rfl) rfl ?_
          refine s_inv (y := y_X_isIn) (Y' := Y_X_isIn) (as := [VI s2.1, VI s3.2.2]) (r := some (VI (isInV s2.1 s3.2.2))) (M' := s2.2) (kInvS (dt_Debts_fewestPayments 22 _ _ _ rfl) kst_X_isIn rfl) kl_Debts_37 md_X_isIn rfl rfl (c_X_isIn hS s2.1 s3.2.2 s2.2) ?_
          refine s_bd (κ := fun t7 => kC 86 [some (VR (some 340)), some (VI v1), some (VI s2.1), some (VI t7.1), some (VI t7.2), some (VI s3.2.2), none] [] S s2.2) ?_ (fun t7 => ?_)
          · refine s_if_eq (tgt := 86) (dt_Debts_fewestPayments 23 _ _ _ rfl) rfl ?_ ?_
            · exact s_mask [true, true, true, true, true, true, false] (s_ret0 rfl)
            · refine s_iload_n (dt_Debts_fewestPayments 24 _ _ _ rfl) rfl ?_
              refine s_iconst (dt_Debts_fewestPayments 25 _ _ _ rfl) rfl ?_
              refine s_iload (dt_Debts_fewestPayments 26 _ _ _ rfl) rfl ?_
              refine s_ishl (dt_Debts_fewestPayments 27 _ _ _ rfl) ?_
              refine s_iconst (dt_Debts_fewestPayments 28 _ _ _ rfl) rfl ?_
              refine s_ixor (dt_Debts_fewestPayments 29 _ _ _ rfl) ?_
              refine s_iand (dt_Debts_fewestPayments 30 _ _ _ rfl) ?_
              refine s_letI (fun v4 => ?_)
              refine s_istore (dt_Debts_fewestPayments 31 _ _ _ rfl) rfl ?_
              refine s_aload_n (dt_Debts_fewestPayments 32 _ _ _ rfl) rfl ?_
              refine s_getR (c := 2) (j := 2) (o := (some 342)) (dt_Debts_fewestPayments 33 _ _ _ rfl) (kf_Debts_15) (sc_340 hS) rfl rfl ?_
              refine s_iload (dt_Debts_fewestPayments 34 _ _ _ rfl) rfl ?_
              refine s_inv (y := y_X_at) (Y' := Y_X_at) (as := [VR (some 342), VI v4]) (r := some (VI (atM s2.2 342 256 v4))) (M' := s2.2) (kInvS (dt_Debts_fewestPayments 35 _ _ _ rfl) kst_X_at rfl) kl_Debts_44 md_X_at rfl rfl (c_X_at hS ⟨(sc_342 hS), by decide⟩ v4 s2.2) ?_
              refine s_aload_n (dt_Debts_fewestPayments 36 _ _ _ rfl) rfl ?_
              refine s_getR (c := 2) (j := 0) (o := (some 341)) (dt_Debts_fewestPayments 37 _ _ _ rfl) (kf_Debts_9) (sc_340 hS) rfl rfl ?_
              refine s_iload (dt_Debts_fewestPayments 38 _ _ _ rfl) rfl ?_
              refine s_inv (y := y_X_at) (Y' := Y_X_at) (as := [VR (some 341), VI s3.2.2]) (r := some (VI (atM s2.2 341 8 s3.2.2))) (M' := s2.2) (kInvS (dt_Debts_fewestPayments 39 _ _ _ rfl) kst_X_at rfl) kl_Debts_44 md_X_at rfl rfl (c_X_at hS ⟨(sc_341 hS), by decide⟩ s3.2.2 s2.2) ?_
              refine s_iadd (dt_Debts_fewestPayments 40 _ _ _ rfl) ?_
              refine s_letI (fun v5 => ?_)
              refine s_istore_n (dt_Debts_fewestPayments 41 _ _ _ rfl) rfl ?_
              refine s_iload (dt_Debts_fewestPayments 42 _ _ _ rfl) rfl ?_
              refine s_aload_n (dt_Debts_fewestPayments 43 _ _ _ rfl) rfl ?_
              refine s_getR (c := 2) (j := 3) (o := (some 343)) (dt_Debts_fewestPayments 44 _ _ _ rfl) (kf_Debts_18) (sc_340 hS) rfl rfl ?_
              refine s_iload (dt_Debts_fewestPayments 45 _ _ _ rfl) rfl ?_
              refine s_inv (y := y_X_at) (Y' := Y_X_at) (as := [VR (some 343), VI v4]) (r := some (VI (atM s2.2 343 256 v4))) (M' := s2.2) (kInvS (dt_Debts_fewestPayments 46 _ _ _ rfl) kst_X_at rfl) kl_Debts_44 md_X_at rfl rfl (c_X_at hS ⟨(sc_343 hS), by decide⟩ v4 s2.2) ?_
              refine s_mmax (dt_Debts_fewestPayments 47 _ _ _ rfl) kj_Debts_58 rfl ?_
              refine s_letI (fun v6 => ?_)
              refine s_istore (dt_Debts_fewestPayments 48 _ _ _ rfl) rfl ?_
              exact s_mask [true, true, true, true, true, true, false] (s_ret0 rfl)
          refine s_iinc (dt_Debts_fewestPayments 49 _ _ _ rfl) rfl rfl ?_
          refine s_goto (tgt := 22) (dt_Debts_fewestPayments 50 _ _ _ rfl) rfl ?_
          exact s_mask [true, true, true, true, true, true, false] (s_ret0 rfl)
        · exact s_mask [true, true, true, true, true, false, false] (s_ret0 rfl)
      intro e8
      refine s_aload_n (dt_Debts_fewestPayments 51 _ _ _ rfl) rfl ?_
      refine s_getR (c := 2) (j := 2) (o := (some 342)) (dt_Debts_fewestPayments 52 _ _ _ rfl) (kf_Debts_15) (sc_340 hS) rfl rfl ?_
      refine s_iload_n (dt_Debts_fewestPayments 53 _ _ _ rfl) rfl ?_
      refine s_iload_n (dt_Debts_fewestPayments 54 _ _ _ rfl) rfl ?_
      refine s_inv (y := y_X_put) (Y' := Y_X_put) (as := [VR (some 342), VI s2.1, VI e8.1]) (r := none) (M' := (putM s2.2 342 256 s2.1 e8.1)) (kInvS (dt_Debts_fewestPayments 55 _ _ _ rfl) kst_X_put rfl) kl_Debts_54 md_X_put rfl rfl (c_X_put hS ⟨(sc_342 hS), by decide⟩ s2.1 e8.1 s2.2) ?_
      refine s_letM (fun M9 => ?_)
      refine s_aload_n (dt_Debts_fewestPayments 56 _ _ _ rfl) rfl ?_
      refine s_getR (c := 2) (j := 3) (o := (some 343)) (dt_Debts_fewestPayments 57 _ _ _ rfl) (kf_Debts_18) (sc_340 hS) rfl rfl ?_
      refine s_iload_n (dt_Debts_fewestPayments 58 _ _ _ rfl) rfl ?_
      refine s_iload_n (dt_Debts_fewestPayments 59 _ _ _ rfl) rfl ?_
      refine s_bd (κ := fun t10 => kC 123 [some (VR (some 340)), some (VI v1), some (VI s2.1), none, none, none, none] [VI t10, VI s2.1, VR (some 343)] S M9) ?_ (fun t10 => ?_)
      · refine s_if_eq (tgt := 121) (dt_Debts_fewestPayments 60 _ _ _ rfl) rfl ?_ ?_
        · refine s_iload (dt_Debts_fewestPayments 67 _ _ _ rfl) rfl ?_
          exact s_mask [true, true, true, false, false, false, false] (s_ret0 rfl)
        · refine s_iload_n (dt_Debts_fewestPayments 61 _ _ _ rfl) rfl ?_
          refine s_if_ne (tgt := 121) (dt_Debts_fewestPayments 62 _ _ _ rfl) rfl ?_ ?_
          · refine s_iload (dt_Debts_fewestPayments 63 _ _ _ rfl) rfl ?_
            refine s_iconst (dt_Debts_fewestPayments 64 _ _ _ rfl) rfl ?_
            refine s_iadd (dt_Debts_fewestPayments 65 _ _ _ rfl) ?_
            refine s_goto (tgt := 123) (dt_Debts_fewestPayments 66 _ _ _ rfl) rfl ?_
            exact s_mask [true, true, true, false, false, false, false] (s_ret0 rfl)
          · refine s_iload (dt_Debts_fewestPayments 67 _ _ _ rfl) rfl ?_
            exact s_mask [true, true, true, false, false, false, false] (s_ret0 rfl)
      refine s_inv (y := y_X_put) (Y' := Y_X_put) (as := [VR (some 343), VI s2.1, VI t10]) (r := none) (M' := (putM M9 343 256 s2.1 t10)) (kInvS (dt_Debts_fewestPayments 68 _ _ _ rfl) kst_X_put rfl) kl_Debts_54 md_X_put rfl rfl (c_X_put hS ⟨(sc_343 hS), by decide⟩ s2.1 t10 M9) ?_
      refine s_letM (fun M11 => ?_)
      refine s_iinc (dt_Debts_fewestPayments 69 _ _ _ rfl) rfl rfl ?_
      refine s_goto (tgt := 9) (dt_Debts_fewestPayments 70 _ _ _ rfl) rfl ?_
      exact s_mask [true, true, true, false, false, false, false] (s_ret0 rfl)
    · exact s_mask [true, true, false, false, false, false, false] (s_ret0 rfl)
  intro e12
  refine s_aload_n (dt_Debts_fewestPayments 71 _ _ _ rfl) rfl ?_
  refine s_getI (c := 2) (j := 1) (dt_Debts_fewestPayments 72 _ _ _ rfl) (kf_Debts_30) (sc_340 hS) rfl ?_
  refine s_aload_n (dt_Debts_fewestPayments 73 _ _ _ rfl) rfl ?_
  refine s_getR (c := 2) (j := 3) (o := (some 343)) (dt_Debts_fewestPayments 74 _ _ _ rfl) (kf_Debts_18) (sc_340 hS) rfl rfl ?_
  refine s_iload_n (dt_Debts_fewestPayments 75 _ _ _ rfl) rfl ?_
  refine s_iconst (dt_Debts_fewestPayments 76 _ _ _ rfl) rfl ?_
  refine s_isub (dt_Debts_fewestPayments 77 _ _ _ rfl) ?_
  refine s_inv (y := y_X_at) (Y' := Y_X_at) (as := [VR (some 343), VI (w32 (v1 - (1 : Int)))]) (r := some (VI (atM e12 343 256 (w32 (v1 - (1 : Int)))))) (M' := e12) (kInvS (dt_Debts_fewestPayments 78 _ _ _ rfl) kst_X_at rfl) kl_Debts_44 md_X_at rfl rfl (c_X_at hS ⟨(sc_343 hS), by decide⟩ (w32 (v1 - (1 : Int))) e12) ?_
  refine s_isub (dt_Debts_fewestPayments 79 _ _ _ rfl) ?_
  exact s_iret (dt_Debts_fewestPayments 80 _ _ _ rfl) rfl rfl
theorem c_Debts_fewestPayments {S : KS} (hS : KExt 382 S)   (M : KM) : ∀ q, f_Debts_fewestPayments  M = some q → Ctr y_Debts_fewestPayments Y_Debts_fewestPayments [VR (some 340)] S M (some (VI q.1)) S (q.2) := fun q hq =>
  ctr_of md_Debts_fewestPayments (Nat.le_of_ble_eq_true rfl) ⟨Nat.le_refl _, Nat.le_refl _⟩ 6 hq rfl (fun _ G => sim_Debts_fewestPayments hS   M)
set_option maxRecDepth 100000 in
theorem sim_X_payments {G : Gam} {S : KS} (hS : KExt 382 S)   (M : KM) : Sim G Y_X_payments (f_X_payments  M) (kC 0 [some (VR (some 0))] [] S M) (fun (q : Int × KM) => Sum.inr (some (VI q.1), S, q.2)) := by
  unfold f_X_payments
  refine s_aload_n (dt_X_payments 0 _ _ _ rfl) rfl ?_
  refine s_getR (c := 0) (j := 11) (o := (some 340)) (dt_X_payments 1 _ _ _ rfl) (kf_X_69) (sc_0 hS) rfl rfl ?_
  refine s_aload_n (dt_X_payments 2 _ _ _ rfl) rfl ?_
  refine s_getR (c := 0) (j := 4) (o := (some 34)) (dt_X_payments 3 _ _ _ rfl) (kf_X_34) (sc_0 hS) rfl rfl ?_
  refine s_callO (y := y_Debts_gather) (Y' := Y_Debts_gather) (as := [VR (some 340), VR (some 34)]) (r := fun q => none) (M' := fun q => q) (kInvV (dt_X_payments 4 _ _ _ rfl) kin_Debts_gather 2 rfl (sc_340 hS) kse_Debts_gather rfl) kl_X_316 md_Debts_gather rfl rfl (fun q hq => c_Debts_gather hS M q hq) (fun q1 => ?_)
  refine s_aload_n (dt_X_payments 5 _ _ _ rfl) rfl ?_
  refine s_getR (c := 0) (j := 11) (o := (some 340)) (dt_X_payments 6 _ _ _ rfl) (kf_X_69) (sc_0 hS) rfl rfl ?_
  refine s_callO (y := y_Debts_fewestPayments) (Y' := Y_Debts_fewestPayments) (as := [VR (some 340)]) (r := fun q => some (VI q.1)) (M' := fun q => q.2) (kInvV (dt_X_payments 7 _ _ _ rfl) kin_Debts_fewestPayments 2 rfl (sc_340 hS) kse_Debts_fewestPayments rfl) kl_X_322 md_Debts_fewestPayments rfl rfl (fun q hq => c_Debts_fewestPayments hS q1 q hq) (fun q2 => ?_)
  exact s_iret (dt_X_payments 8 _ _ _ rfl) rfl rfl
theorem c_X_payments {S : KS} (hS : KExt 382 S)   (M : KM) : ∀ q, f_X_payments  M = some q → Ctr y_X_payments Y_X_payments [VR (some 0)] S M (some (VI q.1)) S (q.2) := fun q hq =>
  ctr_of md_X_payments (Nat.le_of_ble_eq_true rfl) ⟨Nat.le_refl _, Nat.le_refl _⟩ 0 hq rfl (fun _ G => sim_X_payments hS   M)
