set_option maxRecDepth 100000 in
theorem sim_X_fair {G : Gam} {S : KS} (hS : KExt 382 S)  (a0 : Int) (M : KM) : Sim G Y_X_fair (f_X_fair a0 M) (kC 0 [some (VR (some 0)), some (VI a0), none, none, none, none, none, none] [] S M) (fun (q : Int × KM) => Sum.inr (some (VI q.1), S, q.2)) := by
  unfold f_X_fair
  refine s_aload_n (dt_X_fair 0 _ _ _ rfl) rfl ?_
  refine s_iconst (dt_X_fair 1 _ _ _ rfl) rfl ?_
  refine s_putI (c := 0) (j := 16) (dt_X_fair 2 _ _ _ rfl) kp_X_97 (sc_0 hS) ⟨rfl, rfl⟩ ?_
  refine s_letM (fun M1 => ?_)
  refine s_iload_n (dt_X_fair 3 _ _ _ rfl) rfl ?_
  refine s_callO (y := y_X_isFamily) (Y' := Y_X_isFamily) (as := [VI a0]) (r := fun q => some (VI q)) (M' := fun q => M1) (kInvS (dt_X_fair 4 _ _ _ rfl) kst_X_isFamily rfl) kl_X_170 md_X_isFamily rfl rfl (fun q hq => c_X_isFamily hS a0 M1 q hq) (fun q2 => ?_)
  refine s_if_ne (tgt := 14) (dt_X_fair 5 _ _ _ rfl) rfl ?_ ?_
  · refine s_iconst (dt_X_fair 6 _ _ _ rfl) rfl ?_
    exact s_iret (dt_X_fair 7 _ _ _ rfl) rfl rfl
  · refine s_aload_n (dt_X_fair 8 _ _ _ rfl) rfl ?_
    refine s_iload_n (dt_X_fair 9 _ _ _ rfl) rfl ?_
    refine s_callO (y := y_X_familyAlive) (Y' := Y_X_familyAlive) (as := [VR (some 0), VI a0]) (r := fun q => some (VI q)) (M' := fun q => M1) (kInvV (dt_X_fair 10 _ _ _ rfl) kin_X_familyAlive 0 rfl (sc_0 hS) kse_X_familyAlive rfl) kl_X_366 md_X_familyAlive rfl rfl (fun q hq => c_X_familyAlive hS a0 M1 q hq) (fun q3 => ?_)
    refine s_istore_n (dt_X_fair 11 _ _ _ rfl) rfl ?_
    refine s_iload_n (dt_X_fair 12 _ _ _ rfl) rfl ?_
    refine s_callO (y := y_JI_bitCount) (Y' := Y_JI_bitCount) (as := [VI q3]) (r := fun q => some (VI q)) (M' := fun q => M1) (kInvS (dt_X_fair 13 _ _ _ rfl) kst_JI_bitCount rfl) kl_X_292 md_JI_bitCount rfl rfl (fun q hq => c_JI_bitCount hS q3 M1 q hq) (fun q4 => ?_)
    refine s_istore_n (dt_X_fair 14 _ _ _ rfl) rfl ?_
    refine s_iload_n (dt_X_fair 15 _ _ _ rfl) rfl ?_
    refine s_if_ne (tgt := 31) (dt_X_fair 16 _ _ _ rfl) rfl ?_ ?_
    · refine s_iconst (dt_X_fair 17 _ _ _ rfl) rfl ?_
      exact s_iret (dt_X_fair 18 _ _ _ rfl) rfl rfl
    · refine s_aload_n (dt_X_fair 19 _ _ _ rfl) rfl ?_
      refine s_iload_n (dt_X_fair 20 _ _ _ rfl) rfl ?_
      refine s_callO (y := y_X_sum) (Y' := Y_X_sum) (as := [VR (some 0), VI a0]) (r := fun q => some (VI q)) (M' := fun q => M1) (kInvV (dt_X_fair 21 _ _ _ rfl) kin_X_sum 0 rfl (sc_0 hS) kse_X_sum rfl) kl_X_369 md_X_sum rfl rfl (fun q hq => c_X_sum hS a0 M1 q hq) (fun q5 => ?_)
      refine s_istore (dt_X_fair 22 _ _ _ rfl) rfl ?_
      refine s_iconst (dt_X_fair 23 _ _ _ rfl) rfl ?_
      refine s_istore (dt_X_fair 24 _ _ _ rfl) rfl ?_
      refine s_iconst (dt_X_fair 25 _ _ _ rfl) rfl ?_
      refine s_istore (dt_X_fair 26 _ _ _ rfl) rfl ?_
      refine s_bd (κ := (fun (e13 : Int × KM) => kC 127 [none, none, none, none, none, some (VI e13.1), none, none] [] S e13.2)) (s_mask [true, false, true, true, true, true, true, false] (s_while (c := fun s6 => kC 44 [some (VR (some 0)), none, some (VI q3), some (VI q4), some (VI q5), some (VI s6.1), some (VI s6.2.1), none] [] S s6.2.2) (fun s6 => ?_) ((0 : Int), (0 : Int), M1))) ?_
      · refine s_iload (dt_X_fair 27 _ _ _ rfl) rfl ?_
        refine s_aload_n (dt_X_fair 28 _ _ _ rfl) rfl ?_
        refine s_getR (c := 0) (j := 2) (o := (some 2)) (dt_X_fair 29 _ _ _ rfl) (kf_X_20) (sc_0 hS) rfl rfl ?_
        refine s_getI (c := 12) (j := 0) (dt_X_fair 30 _ _ _ rfl) (kf_X_124) (sc_2 hS) rfl ?_
        refine s_if_icmp_ge (tgt := 127) (dt_X_fair 31 _ _ _ rfl) rfl ?_ ?_
        · refine s_iload_n (dt_X_fair 32 _ _ _ rfl) rfl ?_
          refine s_iload (dt_X_fair 33 _ _ _ rfl) rfl ?_
          refine s_inv (y := y_X_isIn) (Y' := Y_X_isIn) (as := [VI q3, VI s6.2.1]) (r := some (VI (isInV q3 s6.2.1))) (M' := s6.2.2) (kInvS (dt_X_fair 34 _ _ _ rfl) kst_X_isIn rfl) kl_X_186 md_X_isIn rfl rfl (c_X_isIn hS q3 s6.2.1 s6.2.2) ?_
          refine s_bd (κ := fun t12 => kC 121 [some (VR (some 0)), none, some (VI q3), some (VI q4), some (VI q5), some (VI t12.1), some (VI s6.2.1), none] [] S t12.2) ?_ (fun t12 => ?_)
          · refine s_if_eq (tgt := 121) (dt_X_fair 35 _ _ _ rfl) rfl ?_ ?_
            · exact s_mask [true, false, true, true, true, true, true, false] (s_ret0 rfl)
            · refine s_iload (dt_X_fair 36 _ _ _ rfl) rfl ?_
              refine s_iload_n (dt_X_fair 37 _ _ _ rfl) rfl ?_
              refine s_idiv (dt_X_fair 38 _ _ _ rfl) ?_
              refine s_aload_n (dt_X_fair 39 _ _ _ rfl) rfl ?_
              refine s_iload (dt_X_fair 40 _ _ _ rfl) rfl ?_
              refine s_iload_n (dt_X_fair 41 _ _ _ rfl) rfl ?_
              refine s_callO (y := y_X_olderThan) (Y' := Y_X_olderThan) (as := [VR (some 0), VI s6.2.1, VI q3]) (r := fun q => some (VI q)) (M' := fun q => s6.2.2) (kInvV (dt_X_fair 42 _ _ _ rfl) kin_X_olderThan 0 rfl (sc_0 hS) kse_X_olderThan rfl) kl_X_372 md_X_olderThan rfl rfl (fun q hq => c_X_olderThan hS s6.2.1 q3 s6.2.2 q hq) (fun q7 => ?_)
              refine s_iload (dt_X_fair 43 _ _ _ rfl) rfl ?_
              refine s_iload_n (dt_X_fair 44 _ _ _ rfl) rfl ?_
              refine s_irem (dt_X_fair 45 _ _ _ rfl) ?_
              refine s_bd (κ := fun t8 => kC 88 [some (VR (some 0)), none, some (VI q3), some (VI q4), some (VI q5), some (VI s6.1), some (VI s6.2.1), none] [VI t8, VI (kdiv q5 q4)] S s6.2.2) ?_ (fun t8 => ?_)
              · refine s_if_icmp_ge (tgt := 87) (dt_X_fair 46 _ _ _ rfl) rfl ?_ ?_
                · refine s_iconst (dt_X_fair 47 _ _ _ rfl) rfl ?_
                  refine s_goto (tgt := 88) (dt_X_fair 48 _ _ _ rfl) rfl ?_
                  exact s_mask [true, false, true, true, true, true, true, false] (s_ret0 rfl)
                · refine s_iconst (dt_X_fair 49 _ _ _ rfl) rfl ?_
                  exact s_mask [true, false, true, true, true, true, true, false] (s_ret0 rfl)
              refine s_iadd (dt_X_fair 50 _ _ _ rfl) ?_
              refine s_letI (fun v9 => ?_)
              refine s_istore (dt_X_fair 51 _ _ _ rfl) rfl ?_
              refine s_aload_n (dt_X_fair 52 _ _ _ rfl) rfl ?_
              refine s_iload (dt_X_fair 53 _ _ _ rfl) rfl ?_
              refine s_callO (y := y_X_lay) (Y' := Y_X_lay) (as := [VR (some 0), VI v9]) (r := fun q => none) (M' := fun q => q) (kInvV (dt_X_fair 54 _ _ _ rfl) kin_X_lay 0 rfl (sc_0 hS) kse_X_lay rfl) kl_X_351 md_X_lay rfl rfl (fun q hq => c_X_lay hS v9 s6.2.2 q hq) (fun q10 => ?_)
              refine s_iload (dt_X_fair 55 _ _ _ rfl) rfl ?_
              refine s_iconst (dt_X_fair 56 _ _ _ rfl) rfl ?_
              refine s_iload (dt_X_fair 57 _ _ _ rfl) rfl ?_
              refine s_aload_n (dt_X_fair 58 _ _ _ rfl) rfl ?_
              refine s_getR (c := 0) (j := 4) (o := (some 34)) (dt_X_fair 59 _ _ _ rfl) (kf_X_34) (sc_0 hS) rfl rfl ?_
              refine s_getR (c := 10) (j := 0) (o := (some 35)) (dt_X_fair 60 _ _ _ rfl) (kf_X_137) (sc_34 hS) rfl rfl ?_
              refine s_iload (dt_X_fair 61 _ _ _ rfl) rfl ?_
              refine s_inv (y := y_X_at) (Y' := Y_X_at) (as := [VR (some 35), VI s6.2.1]) (r := some (VI (atM q10 35 8 s6.2.1))) (M' := q10) (kInvS (dt_X_fair 62 _ _ _ rfl) kst_X_at rfl) kl_X_140 md_X_at rfl rfl (c_X_at hS ⟨(sc_35 hS), by decide⟩ s6.2.1 q10) ?_
              refine s_isub (dt_X_fair 63 _ _ _ rfl) ?_
              refine s_mmax (dt_X_fair 64 _ _ _ rfl) kj_X_218 rfl ?_
              refine s_iadd (dt_X_fair 65 _ _ _ rfl) ?_
              refine s_letI (fun v11 => ?_)
              refine s_istore (dt_X_fair 66 _ _ _ rfl) rfl ?_
              exact s_mask [true, false, true, true, true, true, true, false] (s_ret0 rfl)
          refine s_iinc (dt_X_fair 67 _ _ _ rfl) rfl rfl ?_
          refine s_goto (tgt := 44) (dt_X_fair 68 _ _ _ rfl) rfl ?_
          exact s_mask [true, false, true, true, true, true, true, false] (s_ret0 rfl)
        · exact s_mask [false, false, false, false, false, true, false, false] (s_ret0 rfl)
      intro e13
      refine s_iload (dt_X_fair 69 _ _ _ rfl) rfl ?_
      exact s_iret (dt_X_fair 70 _ _ _ rfl) rfl rfl
theorem c_X_fair {S : KS} (hS : KExt 382 S)  (a0 : Int) (M : KM) : ∀ q, f_X_fair a0 M = some q → Ctr y_X_fair Y_X_fair [VR (some 0), VI a0] S M (some (VI q.1)) S (q.2) := fun q hq =>
  ctr_of md_X_fair (Nat.le_of_ble_eq_true rfl) ⟨Nat.le_refl _, Nat.le_refl _⟩ 6 hq rfl (fun _ G => sim_X_fair hS  a0 M)
set_option maxRecDepth 100000 in
theorem sim_X_cheapestToServe {G : Gam} {S : KS} (hS : KExt 382 S)  (a0 : Int) (a1 : Int) (a2 : Int) (a3 : Int) (M : KM) : Sim G Y_X_cheapestToServe (f_X_cheapestToServe a0 a1 a2 a3 M) (kC 0 [some (VR (some 0)), some (VI a0), some (VI a1), some (VI a2), some (VI a3), none, none, none, none] [] S M) (fun (q : Int × KM) => Sum.inr (some (VI q.1), S, q.2)) := by
  unfold f_X_cheapestToServe
  refine s_iconst (dt_X_cheapestToServe 0 _ _ _ rfl) rfl ?_
  refine s_istore (dt_X_cheapestToServe 1 _ _ _ rfl) rfl ?_
  refine s_iload_n (dt_X_cheapestToServe 2 _ _ _ rfl) rfl ?_
  refine s_iconst (dt_X_cheapestToServe 3 _ _ _ rfl) rfl ?_
  refine s_iadd (dt_X_cheapestToServe 4 _ _ _ rfl) ?_
  refine s_letI (fun v1 => ?_)
  refine s_istore (dt_X_cheapestToServe 5 _ _ _ rfl) rfl ?_
  refine s_iconst (dt_X_cheapestToServe 6 _ _ _ rfl) rfl ?_
  refine s_istore (dt_X_cheapestToServe 7 _ _ _ rfl) rfl ?_
  refine s_bd (κ := (fun (e6 : Int × KM) => kC 79 [none, none, none, none, none, some (VI e6.1), none, none, none] [] S e6.2)) (s_mask [true, true, true, false, true, true, true, true, false] (s_while (c := fun s2 => kC 11 [some (VR (some 0)), some (VI a0), some (VI a1), none, some (VI a3), some (VI s2.1), some (VI s2.2.1), some (VI s2.2.2.1), none] [] S s2.2.2.2) (fun s2 => ?_) ((-1 : Int), v1, (0 : Int), M))) ?_
  · refine s_iload (dt_X_cheapestToServe 8 _ _ _ rfl) rfl ?_
    refine s_aload_n (dt_X_cheapestToServe 9 _ _ _ rfl) rfl ?_
    refine s_getR (c := 0) (j := 2) (o := (some 2)) (dt_X_cheapestToServe 10 _ _ _ rfl) (kf_X_20) (sc_0 hS) rfl rfl ?_
    refine s_getI (c := 12) (j := 0) (dt_X_cheapestToServe 11 _ _ _ rfl) (kf_X_124) (sc_2 hS) rfl ?_
    refine s_if_icmp_ge (tgt := 79) (dt_X_cheapestToServe 12 _ _ _ rfl) rfl ?_ ?_
    · refine s_iload (dt_X_cheapestToServe 13 _ _ _ rfl) rfl ?_
      refine s_iload (dt_X_cheapestToServe 14 _ _ _ rfl) rfl ?_
      refine s_inv (y := y_X_isIn) (Y' := Y_X_isIn) (as := [VI a3, VI s2.2.2.1]) (r := some (VI (isInV a3 s2.2.2.1))) (M' := s2.2.2.2) (kInvS (dt_X_cheapestToServe 15 _ _ _ rfl) kst_X_isIn rfl) kl_X_186 md_X_isIn rfl rfl (c_X_isIn hS a3 s2.2.2.1 s2.2.2.2) ?_
      refine s_bd (κ := fun t5 => kC 73 [some (VR (some 0)), some (VI a0), some (VI a1), none, some (VI a3), some (VI t5.1), some (VI t5.2.1), some (VI s2.2.2.1), none] [] S t5.2.2) ?_ (fun t5 => ?_)
      · refine s_if_ne (tgt := 73) (dt_X_cheapestToServe 16 _ _ _ rfl) rfl ?_ ?_
        · refine s_aload_n (dt_X_cheapestToServe 17 _ _ _ rfl) rfl ?_
          refine s_getR (c := 0) (j := 2) (o := (some 2)) (dt_X_cheapestToServe 18 _ _ _ rfl) (kf_X_20) (sc_0 hS) rfl rfl ?_
          refine s_iload_n (dt_X_cheapestToServe 19 _ _ _ rfl) rfl ?_
          refine s_iload (dt_X_cheapestToServe 20 _ _ _ rfl) rfl ?_
          refine s_callO (y := y_Town_friendsOf) (Y' := Y_Town_friendsOf) (as := [VR (some 2), VI a0, VI s2.2.2.1]) (r := fun q => some (VI q)) (M' := fun q => s2.2.2.2) (kInvV (dt_X_cheapestToServe 21 _ _ _ rfl) kin_Town_friendsOf 12 rfl (sc_2 hS) kse_Town_friendsOf rfl) kl_X_249 md_Town_friendsOf rfl rfl (fun q hq => c_Town_friendsOfT hS a0 s2.2.2.1 s2.2.2.2 q hq) (fun q3 => ?_)
          refine s_iconst (dt_X_cheapestToServe 22 _ _ _ rfl) rfl ?_
          refine s_if_icmp_eq (tgt := 73) (dt_X_cheapestToServe 23 _ _ _ rfl) rfl ?_ ?_
          · exact s_mask [true, true, true, false, true, true, true, true, false] (s_ret0 rfl)
          · refine s_aload_n (dt_X_cheapestToServe 24 _ _ _ rfl) rfl ?_
            refine s_iload (dt_X_cheapestToServe 25 _ _ _ rfl) rfl ?_
            refine s_iload_n (dt_X_cheapestToServe 26 _ _ _ rfl) rfl ?_
            refine s_iload (dt_X_cheapestToServe 27 _ _ _ rfl) rfl ?_
            refine s_iconst (dt_X_cheapestToServe 28 _ _ _ rfl) rfl ?_
            refine s_isub (dt_X_cheapestToServe 29 _ _ _ rfl) ?_
            refine s_callO (y := y_X_fewestToHave) (Y' := Y_X_fewestToHave) (as := [VR (some 0), VI s2.2.2.1, VI a1, VI (w32 (s2.2.1 - (1 : Int)))]) (r := fun q => some (VI q.1)) (M' := fun q => q.2) (kInvV (dt_X_cheapestToServe 30 _ _ _ rfl) kin_X_fewestToHave 0 rfl (sc_0 hS) kse_X_fewestToHave rfl) kl_X_363 md_X_fewestToHave rfl rfl (fun q hq => c_X_fewestToHave hS s2.2.2.1 a1 (w32 (s2.2.1 - (1 : Int))) s2.2.2.2 q hq) (fun q4 => ?_)
            refine s_istore (dt_X_cheapestToServe 31 _ _ _ rfl) rfl ?_
            refine s_iload (dt_X_cheapestToServe 32 _ _ _ rfl) rfl ?_
            refine s_if_le (tgt := 73) (dt_X_cheapestToServe 33 _ _ _ rfl) rfl ?_ ?_
            · exact s_mask [true, true, true, false, true, true, true, true, false] (s_ret0 rfl)
            · refine s_iload (dt_X_cheapestToServe 34 _ _ _ rfl) rfl ?_
              refine s_istore (dt_X_cheapestToServe 35 _ _ _ rfl) rfl ?_
              refine s_iload (dt_X_cheapestToServe 36 _ _ _ rfl) rfl ?_
              refine s_istore (dt_X_cheapestToServe 37 _ _ _ rfl) rfl ?_
              exact s_mask [true, true, true, false, true, true, true, true, false] (s_ret0 rfl)
        · exact s_mask [true, true, true, false, true, true, true, true, false] (s_ret0 rfl)
      refine s_iinc (dt_X_cheapestToServe 38 _ _ _ rfl) rfl rfl ?_
      refine s_goto (tgt := 11) (dt_X_cheapestToServe 39 _ _ _ rfl) rfl ?_
      exact s_mask [true, true, true, false, true, true, true, true, false] (s_ret0 rfl)
    · exact s_mask [false, false, false, false, false, true, false, false, false] (s_ret0 rfl)
  intro e6
  refine s_iload (dt_X_cheapestToServe 40 _ _ _ rfl) rfl ?_
  exact s_iret (dt_X_cheapestToServe 41 _ _ _ rfl) rfl rfl
theorem c_X_cheapestToServe {S : KS} (hS : KExt 382 S)  (a0 : Int) (a1 : Int) (a2 : Int) (a3 : Int) (M : KM) : ∀ q, f_X_cheapestToServe a0 a1 a2 a3 M = some q → Ctr y_X_cheapestToServe Y_X_cheapestToServe [VR (some 0), VI a0, VI a1, VI a2, VI a3] S M (some (VI q.1)) S (q.2) := fun q hq =>
  ctr_of md_X_cheapestToServe (Nat.le_of_ble_eq_true rfl) ⟨Nat.le_refl _, Nat.le_refl _⟩ 4 hq rfl (fun _ G => sim_X_cheapestToServe hS  a0 a1 a2 a3 M)
set_option maxRecDepth 100000 in
theorem sim_X_all {G : Gam} {S : KS} (hS : KExt 382 S)  (a0 : Int) (a1 : Int) (M : KM) : Sim G Y_X_all (f_X_all a0 a1 M) (kC 0 [some (VR (some 0)), some (VI a0), some (VI a1), none, none, none, none] [] S M) (fun (q : Int × KM) => Sum.inr (some (VI q.1), S, q.2)) := by
  unfold f_X_all
  refine s_aload_n (dt_X_all 0 _ _ _ rfl) rfl ?_
  refine s_iconst (dt_X_all 1 _ _ _ rfl) rfl ?_
  refine s_putI (c := 0) (j := 16) (dt_X_all 2 _ _ _ rfl) kp_X_97 (sc_0 hS) ⟨rfl, rfl⟩ ?_
  refine s_letM (fun M1 => ?_)
  refine s_aload_n (dt_X_all 3 _ _ _ rfl) rfl ?_
  refine s_iload_n (dt_X_all 4 _ _ _ rfl) rfl ?_
  refine s_callO (y := y_X_isAlive) (Y' := Y_X_isAlive) (as := [VR (some 0), VI a0]) (r := fun q => some (VI q)) (M' := fun q => M1) (kInvV (dt_X_all 5 _ _ _ rfl) kin_X_isAlive 0 rfl (sc_0 hS) kse_X_isAlive rfl) kl_X_147 md_X_isAlive rfl rfl (fun q hq => c_X_isAlive hS a0 M1 q hq) (fun q2 => ?_)
  refine s_if_eq (tgt := 21) (dt_X_all 6 _ _ _ rfl) rfl ?_ ?_
  · refine s_iconst (dt_X_all 11 _ _ _ rfl) rfl ?_
    exact s_iret (dt_X_all 12 _ _ _ rfl) rfl rfl
  · refine s_aload_n (dt_X_all 7 _ _ _ rfl) rfl ?_
    refine s_iload_n (dt_X_all 8 _ _ _ rfl) rfl ?_
    refine s_callO (y := y_X_isRight) (Y' := Y_X_isRight) (as := [VR (some 0), VI a1]) (r := fun q => some (VI q)) (M' := fun q => M1) (kInvV (dt_X_all 9 _ _ _ rfl) kin_X_isRight 0 rfl (sc_0 hS) kse_X_isRight rfl) kl_X_156 md_X_isRight rfl rfl (fun q hq => c_X_isRight hS a1 M1 q hq) (fun q3 => ?_)
    refine s_if_ne (tgt := 23) (dt_X_all 10 _ _ _ rfl) rfl ?_ ?_
    · refine s_iconst (dt_X_all 11 _ _ _ rfl) rfl ?_
      exact s_iret (dt_X_all 12 _ _ _ rfl) rfl rfl
    · refine s_aload_n (dt_X_all 13 _ _ _ rfl) rfl ?_
      refine s_getR (c := 0) (j := 4) (o := (some 34)) (dt_X_all 14 _ _ _ rfl) (kf_X_34) (sc_0 hS) rfl rfl ?_
      refine s_getR (c := 10) (j := 0) (o := (some 35)) (dt_X_all 15 _ _ _ rfl) (kf_X_137) (sc_34 hS) rfl rfl ?_
      refine s_iload_n (dt_X_all 16 _ _ _ rfl) rfl ?_
      refine s_inv (y := y_X_at) (Y' := Y_X_at) (as := [VR (some 35), VI a0]) (r := some (VI (atM M1 35 8 a0))) (M' := M1) (kInvS (dt_X_all 17 _ _ _ rfl) kst_X_at rfl) kl_X_140 md_X_at rfl rfl (c_X_at hS ⟨(sc_35 hS), by decide⟩ a0 M1) ?_
      refine s_aload_n (dt_X_all 18 _ _ _ rfl) rfl ?_
      refine s_getR (c := 0) (j := 2) (o := (some 2)) (dt_X_all 19 _ _ _ rfl) (kf_X_20) (sc_0 hS) rfl rfl ?_
      refine s_getI (c := 12) (j := 12) (dt_X_all 20 _ _ _ rfl) (kf_X_177) (sc_2 hS) rfl ?_
      refine s_isub (dt_X_all 21 _ _ _ rfl) ?_
      refine s_letI (fun v4 => ?_)
      refine s_istore_n (dt_X_all 22 _ _ _ rfl) rfl ?_
      refine s_iconst (dt_X_all 23 _ _ _ rfl) rfl ?_
      refine s_istore (dt_X_all 24 _ _ _ rfl) rfl ?_
      refine s_iconst (dt_X_all 25 _ _ _ rfl) rfl ?_
      refine s_istore (dt_X_all 26 _ _ _ rfl) rfl ?_
      refine s_bd (κ := (Sum.elim (fun (e11 : KM) => kC 78 [some (VR (some 0)), none, none, none, none, none, none] [] S e11) (fun (e12 : KM) => kC 113 [some (VR (some 0)), none, none, none, none, none, none] [] S e12))) (s_mask [true, true, true, true, true, true, false] (s_while (c := fun s5 => kC 49 [some (VR (some 0)), some (VI a0), some (VI a1), some (VI s5.1), some (VI s5.2.1), some (VI s5.2.2.1), none] [] S s5.2.2.2) (fun s5 => ?_) (v4, (0 : Int), (0 : Int), M1))) ?_
      · refine s_iload (dt_X_all 27 _ _ _ rfl) rfl ?_
        refine s_aload_n (dt_X_all 28 _ _ _ rfl) rfl ?_
        refine s_getR (c := 0) (j := 2) (o := (some 2)) (dt_X_all 29 _ _ _ rfl) (kf_X_20) (sc_0 hS) rfl rfl ?_
        refine s_getI (c := 12) (j := 0) (dt_X_all 30 _ _ _ rfl) (kf_X_124) (sc_2 hS) rfl ?_
        refine s_if_icmp_ge (tgt := 113) (dt_X_all 31 _ _ _ rfl) rfl ?_ ?_
        · refine s_aload_n (dt_X_all 32 _ _ _ rfl) rfl ?_
          refine s_iload_n (dt_X_all 33 _ _ _ rfl) rfl ?_
          refine s_iload_n (dt_X_all 34 _ _ _ rfl) rfl ?_
          refine s_iload_n (dt_X_all 35 _ _ _ rfl) rfl ?_
          refine s_iload (dt_X_all 36 _ _ _ rfl) rfl ?_
          refine s_callO (y := y_X_cheapestToServe) (Y' := Y_X_cheapestToServe) (as := [VR (some 0), VI a0, VI a1, VI s5.1, VI s5.2.1]) (r := fun q => some (VI q.1)) (M' := fun q => q.2) (kInvV (dt_X_all 37 _ _ _ rfl) kin_X_cheapestToServe 0 rfl (sc_0 hS) kse_X_cheapestToServe rfl) kl_X_375 md_X_cheapestToServe rfl rfl (fun q hq => c_X_cheapestToServe hS a0 a1 s5.1 s5.2.1 s5.2.2.2 q hq) (fun q6 => ?_)
          refine s_istore (dt_X_all 38 _ _ _ rfl) rfl ?_
          refine s_iload (dt_X_all 39 _ _ _ rfl) rfl ?_
          refine s_iconst (dt_X_all 40 _ _ _ rfl) rfl ?_
          refine s_if_icmp_ne (tgt := 81) (dt_X_all 41 _ _ _ rfl) rfl ?_ ?_
          · exact s_mask [true, false, false, false, false, false, false] (s_ret0 rfl)
          · refine s_iload_n (dt_X_all 43 _ _ _ rfl) rfl ?_
            refine s_aload_n (dt_X_all 44 _ _ _ rfl) rfl ?_
            refine s_iload (dt_X_all 45 _ _ _ rfl) rfl ?_
            refine s_iload_n (dt_X_all 46 _ _ _ rfl) rfl ?_
            refine s_iload_n (dt_X_all 47 _ _ _ rfl) rfl ?_
            refine s_callO (y := y_X_fewestToHave) (Y' := Y_X_fewestToHave) (as := [VR (some 0), VI q6.1, VI a1, VI s5.1]) (r := fun q => some (VI q.1)) (M' := fun q => q.2) (kInvV (dt_X_all 48 _ _ _ rfl) kin_X_fewestToHave 0 rfl (sc_0 hS) kse_X_fewestToHave rfl) kl_X_363 md_X_fewestToHave rfl rfl (fun q hq => c_X_fewestToHave hS q6.1 a1 s5.1 q6.2 q hq) (fun q7 => ?_)
            refine s_isub (dt_X_all 49 _ _ _ rfl) ?_
            refine s_letI (fun v8 => ?_)
            refine s_istore_n (dt_X_all 50 _ _ _ rfl) rfl ?_
            refine s_iload (dt_X_all 51 _ _ _ rfl) rfl ?_
            refine s_iconst (dt_X_all 52 _ _ _ rfl) rfl ?_
            refine s_iload (dt_X_all 53 _ _ _ rfl) rfl ?_
            refine s_ishl (dt_X_all 54 _ _ _ rfl) ?_
            refine s_ior (dt_X_all 55 _ _ _ rfl) ?_
            refine s_letI (fun v9 => ?_)
            refine s_istore (dt_X_all 56 _ _ _ rfl) rfl ?_
            refine s_aload_n (dt_X_all 57 _ _ _ rfl) rfl ?_
            refine s_iload (dt_X_all 58 _ _ _ rfl) rfl ?_
            refine s_callO (y := y_X_lay) (Y' := Y_X_lay) (as := [VR (some 0), VI q6.1]) (r := fun q => none) (M' := fun q => q) (kInvV (dt_X_all 59 _ _ _ rfl) kin_X_lay 0 rfl (sc_0 hS) kse_X_lay rfl) kl_X_351 md_X_lay rfl rfl (fun q hq => c_X_lay hS q6.1 q7.2 q hq) (fun q10 => ?_)
            refine s_iinc (dt_X_all 60 _ _ _ rfl) rfl rfl ?_
            refine s_goto (tgt := 49) (dt_X_all 61 _ _ _ rfl) rfl ?_
            exact s_mask [true, true, true, true, true, true, false] (s_ret0 rfl)
        · exact s_mask [true, false, false, false, false, false, false] (s_ret0 rfl)
      refine s_elim (fun e11 => ?_) ?_
      · refine s_goto (tgt := 113) (dt_X_all 42 _ _ _ rfl) rfl ?_
        refine s_aload_n (dt_X_all 62 _ _ _ rfl) rfl ?_
        refine s_getI (c := 0) (j := 16) (dt_X_all 63 _ _ _ rfl) (kf_X_97) (sc_0 hS) rfl ?_
        exact s_iret (dt_X_all 64 _ _ _ rfl) rfl rfl
      intro e12
      refine s_aload_n (dt_X_all 62 _ _ _ rfl) rfl ?_
      refine s_getI (c := 0) (j := 16) (dt_X_all 63 _ _ _ rfl) (kf_X_97) (sc_0 hS) rfl ?_
      exact s_iret (dt_X_all 64 _ _ _ rfl) rfl rfl
theorem c_X_all {S : KS} (hS : KExt 382 S)  (a0 : Int) (a1 : Int) (M : KM) : ∀ q, f_X_all a0 a1 M = some q → Ctr y_X_all Y_X_all [VR (some 0), VI a0, VI a1] S M (some (VI q.1)) S (q.2) := fun q hq =>
  ctr_of md_X_all (Nat.le_of_ble_eq_true rfl) ⟨Nat.le_refl _, Nat.le_refl _⟩ 4 hq rfl (fun _ G => sim_X_all hS  a0 a1 M)
set_option maxRecDepth 100000 in
theorem sim_X_lies {G : Gam} {S : KS} (hS : KExt 382 S)  (a0 : Int) (M : KM) : Sim G Y_X_lies (f_X_lies a0 M) (kC 0 [some (VR (some 0)), some (VI a0)] [] S M) (fun (q : Int) => Sum.inr (some (VI q), S, M)) := by
  unfold f_X_lies
  refine s_iload_n (dt_X_lies 0 _ _ _ rfl) rfl ?_
  refine s_bd (κ := fun t1 => kC 25 [none, none] [VI t1] S M) ?_ (fun t1 => ?_)
  · refine s_if_lt (tgt := 23) (dt_X_lies 1 _ _ _ rfl) rfl ?_ ?_
    · refine s_ldc (n := (-1000000 : Int)) (kc_X_173) (dt_X_lies 11 _ _ _ rfl) rfl ?_
      exact s_mask [false, false] (s_ret0 rfl)
    · refine s_iload_n (dt_X_lies 2 _ _ _ rfl) rfl ?_
      refine s_aload_n (dt_X_lies 3 _ _ _ rfl) rfl ?_
      refine s_getI (c := 0) (j := 16) (dt_X_lies 4 _ _ _ rfl) (kf_X_97) (sc_0 hS) rfl ?_
      refine s_if_icmp_ge (tgt := 23) (dt_X_lies 5 _ _ _ rfl) rfl ?_ ?_
      · refine s_aload_n (dt_X_lies 6 _ _ _ rfl) rfl ?_
        refine s_getR (c := 0) (j := 15) (o := (some 360)) (dt_X_lies 7 _ _ _ rfl) (kf_X_94) (sc_0 hS) rfl rfl ?_
        refine s_iload_n (dt_X_lies 8 _ _ _ rfl) rfl ?_
        refine s_inv (y := y_X_at) (Y' := Y_X_at) (as := [VR (some 360), VI a0]) (r := some (VI (atM M 360 8 a0))) (M' := M) (kInvS (dt_X_lies 9 _ _ _ rfl) kst_X_at rfl) kl_X_140 md_X_at rfl rfl (c_X_at hS ⟨(sc_360 hS), by decide⟩ a0 M) ?_
        refine s_goto (tgt := 25) (dt_X_lies 10 _ _ _ rfl) rfl ?_
        exact s_mask [false, false] (s_ret0 rfl)
      · refine s_ldc (n := (-1000000 : Int)) (kc_X_173) (dt_X_lies 11 _ _ _ rfl) rfl ?_
        exact s_mask [false, false] (s_ret0 rfl)
  exact s_iret (dt_X_lies 12 _ _ _ rfl) rfl rfl
theorem c_X_lies {S : KS} (hS : KExt 382 S)  (a0 : Int) (M : KM) : ∀ q, f_X_lies a0 M = some q → Ctr y_X_lies Y_X_lies [VR (some 0), VI a0] S M (some (VI q)) S (M) := fun q hq =>
  ctr_of md_X_lies (Nat.le_of_ble_eq_true rfl) ⟨Nat.le_refl _, Nat.le_refl _⟩ 0 hq rfl (fun _ G => sim_X_lies hS  a0 M)
set_option maxRecDepth 100000 in
theorem sim_Faces_add {G : Gam} {S : KS} (hS : KExt 382 S)  (a0 : Int) (a1 : Int) (M : KM) : Sim G Y_Faces_add (f_Faces_add a0 a1 M) (kC 0 [some (VR (some 349)), some (VI a0), some (VI a1)] [] S M) (fun (q : Int × KM) => Sum.inr (some (VI q.1), S, q.2)) := by
  unfold f_Faces_add
  refine s_aload_n (dt_Faces_add 0 _ _ _ rfl) rfl ?_
  refine s_getR (c := 3) (j := 2) (o := (some 350)) (dt_Faces_add 1 _ _ _ rfl) (kf_Faces_18) (sc_349 hS) rfl rfl ?_
  refine s_aload_n (dt_Faces_add 2 _ _ _ rfl) rfl ?_
  refine s_getI (c := 3) (j := 0) (dt_Faces_add 3 _ _ _ rfl) (kf_Faces_9) (sc_349 hS) rfl ?_
  refine s_iload_n (dt_Faces_add 4 _ _ _ rfl) rfl ?_
  refine s_inv (y := y_X_put) (Y' := Y_X_put) (as := [VR (some 350), VI (M 349 0), VI a0]) (r := none) (M' := (putM M 350 30 (M 349 0) a0)) (kInvS (dt_Faces_add 5 _ _ _ rfl) kst_X_put rfl) kl_Faces_41 md_X_put rfl rfl (c_X_put hS ⟨(sc_350 hS), by decide⟩ (M 349 0) a0 M) ?_
  refine s_letM (fun M1 => ?_)
  refine s_aload_n (dt_Faces_add 6 _ _ _ rfl) rfl ?_
  refine s_getR (c := 3) (j := 3) (o := (some 351)) (dt_Faces_add 7 _ _ _ rfl) (kf_Faces_22) (sc_349 hS) rfl rfl ?_
  refine s_aload_n (dt_Faces_add 8 _ _ _ rfl) rfl ?_
  refine s_getI (c := 3) (j := 0) (dt_Faces_add 9 _ _ _ rfl) (kf_Faces_9) (sc_349 hS) rfl ?_
  refine s_iload_n (dt_Faces_add 10 _ _ _ rfl) rfl ?_
  refine s_inv (y := y_X_put) (Y' := Y_X_put) (as := [VR (some 351), VI (M1 349 0), VI a1]) (r := none) (M' := (putM M1 351 30 (M1 349 0) a1)) (kInvS (dt_Faces_add 11 _ _ _ rfl) kst_X_put rfl) kl_Faces_41 md_X_put rfl rfl (c_X_put hS ⟨(sc_351 hS), by decide⟩ (M1 349 0) a1 M1) ?_
  refine s_letM (fun M2 => ?_)
  refine s_aload_n (dt_Faces_add 12 _ _ _ rfl) rfl ?_
  refine s_getR (c := 3) (j := 4) (o := (some 352)) (dt_Faces_add 13 _ _ _ rfl) (kf_Faces_25) (sc_349 hS) rfl rfl ?_
  refine s_aload_n (dt_Faces_add 14 _ _ _ rfl) rfl ?_
  refine s_getI (c := 3) (j := 0) (dt_Faces_add 15 _ _ _ rfl) (kf_Faces_9) (sc_349 hS) rfl ?_
  refine s_aload_n (dt_Faces_add 16 _ _ _ rfl) rfl ?_
  refine s_getI (c := 3) (j := 1) (dt_Faces_add 17 _ _ _ rfl) (kf_Faces_15) (sc_349 hS) rfl ?_
  refine s_inv (y := y_X_put) (Y' := Y_X_put) (as := [VR (some 352), VI (M2 349 0), VI (M2 349 1)]) (r := none) (M' := (putM M2 352 30 (M2 349 0) (M2 349 1))) (kInvS (dt_Faces_add 18 _ _ _ rfl) kst_X_put rfl) kl_Faces_41 md_X_put rfl rfl (c_X_put hS ⟨(sc_352 hS), by decide⟩ (M2 349 0) (M2 349 1) M2) ?_
  refine s_letM (fun M3 => ?_)
  refine s_aload_n (dt_Faces_add 19 _ _ _ rfl) rfl ?_
  refine s_getR (c := 3) (j := 5) (o := (some 353)) (dt_Faces_add 20 _ _ _ rfl) (kf_Faces_28) (sc_349 hS) rfl rfl ?_
  refine s_aload_n (dt_Faces_add 21 _ _ _ rfl) rfl ?_
  refine s_getI (c := 3) (j := 0) (dt_Faces_add 22 _ _ _ rfl) (kf_Faces_9) (sc_349 hS) rfl ?_
  refine s_iconst (dt_Faces_add 23 _ _ _ rfl) rfl ?_
  refine s_inv (y := y_X_put) (Y' := Y_X_put) (as := [VR (some 353), VI (M3 349 0), VI (-1 : Int)]) (r := none) (M' := (putM M3 353 30 (M3 349 0) (-1 : Int))) (kInvS (dt_Faces_add 24 _ _ _ rfl) kst_X_put rfl) kl_Faces_41 md_X_put rfl rfl (c_X_put hS ⟨(sc_353 hS), by decide⟩ (M3 349 0) (-1 : Int) M3) ?_
  refine s_letM (fun M4 => ?_)
  refine s_aload_n (dt_Faces_add 25 _ _ _ rfl) rfl ?_
  refine s_dup (dt_Faces_add 26 _ _ _ rfl) rfl ?_
  refine s_getI (c := 3) (j := 0) (dt_Faces_add 27 _ _ _ rfl) (kf_Faces_9) (sc_349 hS) rfl ?_
  refine s_iconst (dt_Faces_add 28 _ _ _ rfl) rfl ?_
  refine s_iadd (dt_Faces_add 29 _ _ _ rfl) ?_
  refine s_putI (c := 3) (j := 0) (dt_Faces_add 30 _ _ _ rfl) kp_Faces_9 (sc_349 hS) ⟨rfl, rfl⟩ ?_
  refine s_letM (fun M5 => ?_)
  refine s_aload_n (dt_Faces_add 31 _ _ _ rfl) rfl ?_
  refine s_getI (c := 3) (j := 0) (dt_Faces_add 32 _ _ _ rfl) (kf_Faces_9) (sc_349 hS) rfl ?_
  refine s_iconst (dt_Faces_add 33 _ _ _ rfl) rfl ?_
  refine s_isub (dt_Faces_add 34 _ _ _ rfl) ?_
  exact s_iret (dt_Faces_add 35 _ _ _ rfl) rfl rfl
theorem c_Faces_add {S : KS} (hS : KExt 382 S)  (a0 : Int) (a1 : Int) (M : KM) : ∀ q, f_Faces_add a0 a1 M = some q → Ctr y_Faces_add Y_Faces_add [VR (some 349), VI a0, VI a1] S M (some (VI q.1)) S (q.2) := fun q hq =>
  ctr_of md_Faces_add (Nat.le_of_ble_eq_true rfl) ⟨Nat.le_refl _, Nat.le_refl _⟩ 0 hq rfl (fun _ G => sim_Faces_add hS  a0 a1 M)
set_option maxRecDepth 100000 in
theorem sim_X_face {G : Gam} {S : KS} (hS : KExt 382 S)  (a0 : Int) (a1 : Int) (M : KM) : Sim G Y_X_face (f_X_face a0 a1 M) (kC 0 [some (VR (some 0)), some (VI a0), some (VI a1)] [] S M) (fun (q : Int × KM) => Sum.inr (some (VI q.1), S, q.2)) := by
  unfold f_X_face
  refine s_aload_n (dt_X_face 0 _ _ _ rfl) rfl ?_
  refine s_iload_n (dt_X_face 1 _ _ _ rfl) rfl ?_
  refine s_callO (y := y_X_isPerson) (Y' := Y_X_isPerson) (as := [VR (some 0), VI a0]) (r := fun q => some (VI q)) (M' := fun q => M) (kInvV (dt_X_face 2 _ _ _ rfl) kin_X_isPerson 0 rfl (sc_0 hS) kse_X_isPerson rfl) kl_X_133 md_X_isPerson rfl rfl (fun q hq => c_X_isPerson hS a0 M q hq) (fun q1 => ?_)
  refine s_if_eq (tgt := 28) (dt_X_face 3 _ _ _ rfl) rfl ?_ ?_
  · refine s_iconst (dt_X_face 13 _ _ _ rfl) rfl ?_
    exact s_iret (dt_X_face 14 _ _ _ rfl) rfl rfl
  · refine s_aload_n (dt_X_face 4 _ _ _ rfl) rfl ?_
    refine s_iload_n (dt_X_face 5 _ _ _ rfl) rfl ?_
    refine s_callO (y := y_X_isAge) (Y' := Y_X_isAge) (as := [VR (some 0), VI a1]) (r := fun q => some (VI q)) (M' := fun q => M) (kInvV (dt_X_face 6 _ _ _ rfl) kin_X_isAge 0 rfl (sc_0 hS) kse_X_isAge rfl) kl_X_163 md_X_isAge rfl rfl (fun q hq => c_X_isAge hS a1 M q hq) (fun q2 => ?_)
    refine s_if_eq (tgt := 28) (dt_X_face 7 _ _ _ rfl) rfl ?_ ?_
    · refine s_iconst (dt_X_face 13 _ _ _ rfl) rfl ?_
      exact s_iret (dt_X_face 14 _ _ _ rfl) rfl rfl
    · refine s_aload_n (dt_X_face 8 _ _ _ rfl) rfl ?_
      refine s_getR (c := 0) (j := 13) (o := (some 349)) (dt_X_face 9 _ _ _ rfl) (kf_X_83) (sc_0 hS) rfl rfl ?_
      refine s_getI (c := 3) (j := 0) (dt_X_face 10 _ _ _ rfl) (kf_X_378) (sc_349 hS) rfl ?_
      refine s_bipush (dt_X_face 11 _ _ _ rfl) rfl ?_
      refine s_if_icmp_lt (tgt := 30) (dt_X_face 12 _ _ _ rfl) rfl ?_ ?_
      · refine s_aload_n (dt_X_face 15 _ _ _ rfl) rfl ?_
        refine s_getR (c := 0) (j := 13) (o := (some 349)) (dt_X_face 16 _ _ _ rfl) (kf_X_83) (sc_0 hS) rfl rfl ?_
        refine s_iload_n (dt_X_face 17 _ _ _ rfl) rfl ?_
        refine s_iload_n (dt_X_face 18 _ _ _ rfl) rfl ?_
        refine s_callO (y := y_Faces_add) (Y' := Y_Faces_add) (as := [VR (some 349), VI a0, VI a1]) (r := fun q => some (VI q.1)) (M' := fun q => q.2) (kInvV (dt_X_face 19 _ _ _ rfl) kin_Faces_add 3 rfl (sc_349 hS) kse_Faces_add rfl) kl_X_381 md_Faces_add rfl rfl (fun q hq => c_Faces_add hS a0 a1 M q hq) (fun q3 => ?_)
        exact s_iret (dt_X_face 20 _ _ _ rfl) rfl rfl
      · refine s_iconst (dt_X_face 13 _ _ _ rfl) rfl ?_
        exact s_iret (dt_X_face 14 _ _ _ rfl) rfl rfl
theorem c_X_face {S : KS} (hS : KExt 382 S)  (a0 : Int) (a1 : Int) (M : KM) : ∀ q, f_X_face a0 a1 M = some q → Ctr y_X_face Y_X_face [VR (some 0), VI a0, VI a1] S M (some (VI q.1)) S (q.2) := fun q hq =>
  ctr_of md_X_face (Nat.le_of_ble_eq_true rfl) ⟨Nat.le_refl _, Nat.le_refl _⟩ 0 hq rfl (fun _ G => sim_X_face hS  a0 a1 M)
set_option maxRecDepth 100000 in
theorem sim_Faces_takeBack {G : Gam} {S : KS} (hS : KExt 382 S)  (a0 : Int) (M : KM) : Sim G Y_Faces_takeBack (f_Faces_takeBack a0 M) (kC 0 [some (VR (some 349)), some (VI a0)] [] S M) (fun (q : Int × KM) => Sum.inr (some (VI q.1), S, q.2)) := by
  unfold f_Faces_takeBack
  refine s_iload_n (dt_Faces_takeBack 0 _ _ _ rfl) rfl ?_
  refine s_if_lt (tgt := 24) (dt_Faces_takeBack 1 _ _ _ rfl) rfl ?_ ?_
  · refine s_iconst (dt_Faces_takeBack 12 _ _ _ rfl) rfl ?_
    exact s_zret01 (dt_Faces_takeBack 13 _ _ _ rfl) rfl rfl rfl
  · refine s_iload_n (dt_Faces_takeBack 2 _ _ _ rfl) rfl ?_
    refine s_aload_n (dt_Faces_takeBack 3 _ _ _ rfl) rfl ?_
    refine s_getI (c := 3) (j := 0) (dt_Faces_takeBack 4 _ _ _ rfl) (kf_Faces_9) (sc_349 hS) rfl ?_
    refine s_if_icmp_ge (tgt := 24) (dt_Faces_takeBack 5 _ _ _ rfl) rfl ?_ ?_
    · refine s_aload_n (dt_Faces_takeBack 6 _ _ _ rfl) rfl ?_
      refine s_getR (c := 3) (j := 5) (o := (some 353)) (dt_Faces_takeBack 7 _ _ _ rfl) (kf_Faces_28) (sc_349 hS) rfl rfl ?_
      refine s_iload_n (dt_Faces_takeBack 8 _ _ _ rfl) rfl ?_
      refine s_inv (y := y_X_at) (Y' := Y_X_at) (as := [VR (some 353), VI a0]) (r := some (VI (atM M 353 30 a0))) (M' := M) (kInvS (dt_Faces_takeBack 9 _ _ _ rfl) kst_X_at rfl) kl_Faces_45 md_X_at rfl rfl (c_X_at hS ⟨(sc_353 hS), by decide⟩ a0 M) ?_
      refine s_iconst (dt_Faces_takeBack 10 _ _ _ rfl) rfl ?_
      refine s_if_icmp_eq (tgt := 26) (dt_Faces_takeBack 11 _ _ _ rfl) rfl ?_ ?_
      · refine s_aload_n (dt_Faces_takeBack 14 _ _ _ rfl) rfl ?_
        refine s_getR (c := 3) (j := 5) (o := (some 353)) (dt_Faces_takeBack 15 _ _ _ rfl) (kf_Faces_28) (sc_349 hS) rfl rfl ?_
        refine s_iload_n (dt_Faces_takeBack 16 _ _ _ rfl) rfl ?_
        refine s_aload_n (dt_Faces_takeBack 17 _ _ _ rfl) rfl ?_
        refine s_getI (c := 3) (j := 1) (dt_Faces_takeBack 18 _ _ _ rfl) (kf_Faces_15) (sc_349 hS) rfl ?_
        refine s_inv (y := y_X_put) (Y' := Y_X_put) (as := [VR (some 353), VI a0, VI (M 349 1)]) (r := none) (M' := (putM M 353 30 a0 (M 349 1))) (kInvS (dt_Faces_takeBack 19 _ _ _ rfl) kst_X_put rfl) kl_Faces_41 md_X_put rfl rfl (c_X_put hS ⟨(sc_353 hS), by decide⟩ a0 (M 349 1) M) ?_
        refine s_letM (fun M1 => ?_)
        refine s_iconst (dt_Faces_takeBack 20 _ _ _ rfl) rfl ?_
        exact s_zret01 (dt_Faces_takeBack 21 _ _ _ rfl) rfl rfl rfl
      · refine s_iconst (dt_Faces_takeBack 12 _ _ _ rfl) rfl ?_
        exact s_zret01 (dt_Faces_takeBack 13 _ _ _ rfl) rfl rfl rfl
    · refine s_iconst (dt_Faces_takeBack 12 _ _ _ rfl) rfl ?_
      exact s_zret01 (dt_Faces_takeBack 13 _ _ _ rfl) rfl rfl rfl
theorem c_Faces_takeBack {S : KS} (hS : KExt 382 S)  (a0 : Int) (M : KM) : ∀ q, f_Faces_takeBack a0 M = some q → Ctr y_Faces_takeBack Y_Faces_takeBack [VR (some 349), VI a0] S M (some (VI q.1)) S (q.2) := fun q hq =>
  ctr_of md_Faces_takeBack (Nat.le_of_ble_eq_true rfl) ⟨Nat.le_refl _, Nat.le_refl _⟩ 0 hq rfl (fun _ G => sim_Faces_takeBack hS  a0 M)
set_option maxRecDepth 100000 in
theorem sim_X_untell {G : Gam} {S : KS} (hS : KExt 382 S)  (a0 : Int) (M : KM) : Sim G Y_X_untell (f_X_untell a0 M) (kC 0 [some (VR (some 0)), some (VI a0)] [] S M) (fun (q : Int × KM) => Sum.inr (some (VI q.1), S, q.2)) := by
  unfold f_X_untell
  refine s_aload_n (dt_X_untell 0 _ _ _ rfl) rfl ?_
  refine s_getR (c := 0) (j := 13) (o := (some 349)) (dt_X_untell 1 _ _ _ rfl) (kf_X_83) (sc_0 hS) rfl rfl ?_
  refine s_iload_n (dt_X_untell 2 _ _ _ rfl) rfl ?_
  refine s_callO (y := y_Faces_takeBack) (Y' := Y_Faces_takeBack) (as := [VR (some 349), VI a0]) (r := fun q => some (VI q.1)) (M' := fun q => q.2) (kInvV (dt_X_untell 3 _ _ _ rfl) kin_Faces_takeBack 3 rfl (sc_349 hS) kse_Faces_takeBack rfl) kl_X_383 md_Faces_takeBack rfl rfl (fun q hq => c_Faces_takeBack hS a0 M q hq) (fun q1 => ?_)
  exact s_zret (dt_X_untell 4 _ _ _ rfl) rfl rfl
theorem c_X_untell {S : KS} (hS : KExt 382 S)  (a0 : Int) (M : KM) : ∀ q, f_X_untell a0 M = some q → Ctr y_X_untell Y_X_untell [VR (some 0), VI a0] S M (some (VI q.1)) S (q.2) := fun q hq =>
  ctr_of md_X_untell (Nat.le_of_ble_eq_true rfl) ⟨Nat.le_refl _, Nat.le_refl _⟩ 0 hq rfl (fun _ G => sim_X_untell hS  a0 M)
set_option maxRecDepth 100000 in
theorem sim_X_later {G : Gam} {S : KS} (hS : KExt 382 S)  (a0 : Int) (M : KM) : Sim G Y_X_later (f_X_later a0 M) (kC 0 [some (VR (some 0)), some (VI a0)] [] S M) (fun (q : Int × KM) => Sum.inr (some (VI q.1), S, q.2)) := by
  unfold f_X_later
  refine s_iload_n (dt_X_later 0 _ _ _ rfl) rfl ?_
  refine s_if_lt (tgt := 26) (dt_X_later 1 _ _ _ rfl) rfl ?_ ?_
  · refine s_iconst (dt_X_later 12 _ _ _ rfl) rfl ?_
    exact s_iret (dt_X_later 13 _ _ _ rfl) rfl rfl
  · refine s_iload_n (dt_X_later 2 _ _ _ rfl) rfl ?_
    refine s_sipush (dt_X_later 3 _ _ _ rfl) rfl ?_
    refine s_if_icmp_gt (tgt := 26) (dt_X_later 4 _ _ _ rfl) rfl ?_ ?_
    · refine s_aload_n (dt_X_later 5 _ _ _ rfl) rfl ?_
      refine s_getR (c := 0) (j := 13) (o := (some 349)) (dt_X_later 6 _ _ _ rfl) (kf_X_83) (sc_0 hS) rfl rfl ?_
      refine s_getI (c := 3) (j := 1) (dt_X_later 7 _ _ _ rfl) (kf_X_386) (sc_349 hS) rfl ?_
      refine s_iload_n (dt_X_later 8 _ _ _ rfl) rfl ?_
      refine s_iadd (dt_X_later 9 _ _ _ rfl) ?_
      refine s_ldcw (n := (100000 : Int)) (kc_X_389) (dt_X_later 10 _ _ _ rfl) rfl ?_
      refine s_if_icmp_le (tgt := 28) (dt_X_later 11 _ _ _ rfl) rfl ?_ ?_
      · refine s_aload_n (dt_X_later 14 _ _ _ rfl) rfl ?_
        refine s_getR (c := 0) (j := 13) (o := (some 349)) (dt_X_later 15 _ _ _ rfl) (kf_X_83) (sc_0 hS) rfl rfl ?_
        refine s_dup (dt_X_later 16 _ _ _ rfl) rfl ?_
        refine s_getI (c := 3) (j := 1) (dt_X_later 17 _ _ _ rfl) (kf_X_386) (sc_349 hS) rfl ?_
        refine s_iload_n (dt_X_later 18 _ _ _ rfl) rfl ?_
        refine s_iadd (dt_X_later 19 _ _ _ rfl) ?_
        refine s_putI (c := 3) (j := 1) (dt_X_later 20 _ _ _ rfl) kp_X_386 (sc_349 hS) ⟨rfl, rfl⟩ ?_
        refine s_letM (fun M1 => ?_)
        refine s_aload_n (dt_X_later 21 _ _ _ rfl) rfl ?_
        refine s_getR (c := 0) (j := 13) (o := (some 349)) (dt_X_later 22 _ _ _ rfl) (kf_X_83) (sc_0 hS) rfl rfl ?_
        refine s_getI (c := 3) (j := 1) (dt_X_later 23 _ _ _ rfl) (kf_X_386) (sc_349 hS) rfl ?_
        exact s_iret (dt_X_later 24 _ _ _ rfl) rfl rfl
      · refine s_iconst (dt_X_later 12 _ _ _ rfl) rfl ?_
        exact s_iret (dt_X_later 13 _ _ _ rfl) rfl rfl
    · refine s_iconst (dt_X_later 12 _ _ _ rfl) rfl ?_
      exact s_iret (dt_X_later 13 _ _ _ rfl) rfl rfl
theorem c_X_later {S : KS} (hS : KExt 382 S)  (a0 : Int) (M : KM) : ∀ q, f_X_later a0 M = some q → Ctr y_X_later Y_X_later [VR (some 0), VI a0] S M (some (VI q.1)) S (q.2) := fun q hq =>
  ctr_of md_X_later (Nat.le_of_ble_eq_true rfl) ⟨Nat.le_refl _, Nat.le_refl _⟩ 0 hq rfl (fun _ G => sim_X_later hS  a0 M)
set_option maxRecDepth 100000 in
theorem sim_Faces_ask {G : Gam} {S : KS} (hS : KExt 382 S)  (a0 : Int) (a1 : Int) (M : KM) : Sim G Y_Faces_ask (f_Faces_ask a0 a1 M) (kC 0 [some (VR (some 349)), some (VI a0), some (VI a1)] [] S M) (fun (q : KM) => Sum.inr (none, S, q)) := by
  unfold f_Faces_ask
  refine s_aload_n (dt_Faces_ask 0 _ _ _ rfl) rfl ?_
  refine s_dup (dt_Faces_ask 1 _ _ _ rfl) rfl ?_
  refine s_getI (c := 3) (j := 8) (dt_Faces_ask 2 _ _ _ rfl) (kf_Faces_37) (sc_349 hS) rfl ?_
  refine s_aload_n (dt_Faces_ask 3 _ _ _ rfl) rfl ?_
  refine s_getI (c := 3) (j := 6) (dt_Faces_ask 4 _ _ _ rfl) (kf_Faces_31) (sc_349 hS) rfl ?_
  refine s_iload_n (dt_Faces_ask 5 _ _ _ rfl) rfl ?_
  refine s_inv (y := y_X_isIn) (Y' := Y_X_isIn) (as := [VI (M 349 6), VI a0]) (r := some (VI (isInV (M 349 6) a0))) (M' := M) (kInvS (dt_Faces_ask 6 _ _ _ rfl) kst_X_isIn rfl) kl_Faces_53 md_X_isIn rfl rfl (c_X_isIn hS (M 349 6) a0 M) ?_
  refine s_bd (κ := fun t1 => kC 33 [some (VR (some 349)), some (VI a0), some (VI a1)] [VI t1, VI (M 349 8), VR (some 349)] S M) ?_ (fun t1 => ?_)
  · refine s_if_eq (tgt := 32) (dt_Faces_ask 7 _ _ _ rfl) rfl ?_ ?_
    · refine s_iconst (dt_Faces_ask 16 _ _ _ rfl) rfl ?_
      exact s_mask [true, true, true] (s_ret0 rfl)
    · refine s_aload_n (dt_Faces_ask 8 _ _ _ rfl) rfl ?_
      refine s_getR (c := 3) (j := 7) (o := (some 354)) (dt_Faces_ask 9 _ _ _ rfl) (kf_Faces_34) (sc_349 hS) rfl rfl ?_
      refine s_iload_n (dt_Faces_ask 10 _ _ _ rfl) rfl ?_
      refine s_inv (y := y_X_at) (Y' := Y_X_at) (as := [VR (some 354), VI a0]) (r := some (VI (atM M 354 8 a0))) (M' := M) (kInvS (dt_Faces_ask 11 _ _ _ rfl) kst_X_at rfl) kl_Faces_45 md_X_at rfl rfl (c_X_at hS ⟨(sc_354 hS), by decide⟩ a0 M) ?_
      refine s_iload_n (dt_Faces_ask 12 _ _ _ rfl) rfl ?_
      refine s_if_icmp_eq (tgt := 32) (dt_Faces_ask 13 _ _ _ rfl) rfl ?_ ?_
      · refine s_iconst (dt_Faces_ask 16 _ _ _ rfl) rfl ?_
        exact s_mask [true, true, true] (s_ret0 rfl)
      · refine s_iconst (dt_Faces_ask 14 _ _ _ rfl) rfl ?_
        refine s_goto (tgt := 33) (dt_Faces_ask 15 _ _ _ rfl) rfl ?_
        exact s_mask [true, true, true] (s_ret0 rfl)
  refine s_ior (dt_Faces_ask 17 _ _ _ rfl) ?_
  refine s_putZ (c := 3) (j := 8) (dt_Faces_ask 18 _ _ _ rfl) kp_Faces_37 (sc_349 hS) ⟨rfl, rfl⟩ ?_
  refine s_letM (fun M2 => ?_)
  refine s_aload_n (dt_Faces_ask 19 _ _ _ rfl) rfl ?_
  refine s_getR (c := 3) (j := 7) (o := (some 354)) (dt_Faces_ask 20 _ _ _ rfl) (kf_Faces_34) (sc_349 hS) rfl rfl ?_
  refine s_iload_n (dt_Faces_ask 21 _ _ _ rfl) rfl ?_
  refine s_iload_n (dt_Faces_ask 22 _ _ _ rfl) rfl ?_
  refine s_inv (y := y_X_put) (Y' := Y_X_put) (as := [VR (some 354), VI a0, VI a1]) (r := none) (M' := (putM M2 354 8 a0 a1)) (kInvS (dt_Faces_ask 23 _ _ _ rfl) kst_X_put rfl) kl_Faces_41 md_X_put rfl rfl (c_X_put hS ⟨(sc_354 hS), by decide⟩ a0 a1 M2) ?_
  refine s_letM (fun M3 => ?_)
  refine s_aload_n (dt_Faces_ask 24 _ _ _ rfl) rfl ?_
  refine s_dup (dt_Faces_ask 25 _ _ _ rfl) rfl ?_
  refine s_getI (c := 3) (j := 6) (dt_Faces_ask 26 _ _ _ rfl) (kf_Faces_31) (sc_349 hS) rfl ?_
  refine s_iconst (dt_Faces_ask 27 _ _ _ rfl) rfl ?_
  refine s_iload_n (dt_Faces_ask 28 _ _ _ rfl) rfl ?_
  refine s_ishl (dt_Faces_ask 29 _ _ _ rfl) ?_
  refine s_ior (dt_Faces_ask 30 _ _ _ rfl) ?_
  refine s_putI (c := 3) (j := 6) (dt_Faces_ask 31 _ _ _ rfl) kp_Faces_31 (sc_349 hS) ⟨rfl, rfl⟩ ?_
  refine s_letM (fun M4 => ?_)
  exact s_vret (dt_Faces_ask 32 _ _ _ rfl) rfl rfl
theorem c_Faces_ask {S : KS} (hS : KExt 382 S)  (a0 : Int) (a1 : Int) (M : KM) : ∀ q, f_Faces_ask a0 a1 M = some q → Ctr y_Faces_ask Y_Faces_ask [VR (some 349), VI a0, VI a1] S M (none) S (q) := fun q hq =>
  ctr_of md_Faces_ask (Nat.le_of_ble_eq_true rfl) ⟨Nat.le_refl _, Nat.le_refl _⟩ 0 hq rfl (fun _ G => sim_Faces_ask hS  a0 a1 M)
set_option maxRecDepth 100000 in
theorem sim_Faces_gather {G : Gam} {S : KS} (hS : KExt 382 S)  (a0 : Int) (M : KM) : Sim G Y_Faces_gather (f_Faces_gather a0 M) (kC 0 [some (VR (some 349)), some (VI a0), none, none] [] S M) (fun (q : KM) => Sum.inr (none, S, q)) := by
  unfold f_Faces_gather
  refine s_aload_n (dt_Faces_gather 0 _ _ _ rfl) rfl ?_
  refine s_iconst (dt_Faces_gather 1 _ _ _ rfl) rfl ?_
  refine s_putI (c := 3) (j := 6) (dt_Faces_gather 2 _ _ _ rfl) kp_Faces_31 (sc_349 hS) ⟨rfl, rfl⟩ ?_
  refine s_letM (fun M1 => ?_)
  refine s_aload_n (dt_Faces_gather 3 _ _ _ rfl) rfl ?_
  refine s_iconst (dt_Faces_gather 4 _ _ _ rfl) rfl ?_
  refine s_putZ (c := 3) (j := 8) (dt_Faces_gather 5 _ _ _ rfl) kp_Faces_37 (sc_349 hS) ⟨rfl, rfl⟩ ?_
  refine s_letM (fun M2 => ?_)
  refine s_iconst (dt_Faces_gather 6 _ _ _ rfl) rfl ?_
  refine s_istore_n (dt_Faces_gather 7 _ _ _ rfl) rfl ?_
  refine s_bd (κ := (fun (e8 : KM) => kC 77 [none, none, none, none] [] S e8)) (s_mask [true, true, true, false] (s_while (c := fun s3 => kC 12 [some (VR (some 349)), some (VI a0), some (VI s3.1), none] [] S s3.2) (fun s3 => ?_) ((0 : Int), M2))) ?_
  · refine s_iload_n (dt_Faces_gather 8 _ _ _ rfl) rfl ?_
    refine s_aload_n (dt_Faces_gather 9 _ _ _ rfl) rfl ?_
    refine s_getI (c := 3) (j := 0) (dt_Faces_gather 10 _ _ _ rfl) (kf_Faces_9) (sc_349 hS) rfl ?_
    refine s_if_icmp_ge (tgt := 77) (dt_Faces_gather 11 _ _ _ rfl) rfl ?_ ?_
    · refine s_aload_n (dt_Faces_gather 12 _ _ _ rfl) rfl ?_
      refine s_getR (c := 3) (j := 5) (o := (some 353)) (dt_Faces_gather 13 _ _ _ rfl) (kf_Faces_28) (sc_349 hS) rfl rfl ?_
      refine s_iload_n (dt_Faces_gather 14 _ _ _ rfl) rfl ?_
      refine s_inv (y := y_X_at) (Y' := Y_X_at) (as := [VR (some 353), VI s3.1]) (r := some (VI (atM s3.2 353 30 s3.1))) (M' := s3.2) (kInvS (dt_Faces_gather 15 _ _ _ rfl) kst_X_at rfl) kl_Faces_45 md_X_at rfl rfl (c_X_at hS ⟨(sc_353 hS), by decide⟩ s3.1 s3.2) ?_
      refine s_letI (fun v4 => ?_)
      refine s_istore_n (dt_Faces_gather 16 _ _ _ rfl) rfl ?_
      refine s_aload_n (dt_Faces_gather 17 _ _ _ rfl) rfl ?_
      refine s_getR (c := 3) (j := 4) (o := (some 352)) (dt_Faces_gather 18 _ _ _ rfl) (kf_Faces_25) (sc_349 hS) rfl rfl ?_
      refine s_iload_n (dt_Faces_gather 19 _ _ _ rfl) rfl ?_
      refine s_inv (y := y_X_at) (Y' := Y_X_at) (as := [VR (some 352), VI s3.1]) (r := some (VI (atM s3.2 352 30 s3.1))) (M' := s3.2) (kInvS (dt_Faces_gather 20 _ _ _ rfl) kst_X_at rfl) kl_Faces_45 md_X_at rfl rfl (c_X_at hS ⟨(sc_352 hS), by decide⟩ s3.1 s3.2) ?_
      refine s_iload_n (dt_Faces_gather 21 _ _ _ rfl) rfl ?_
      refine s_bd (κ := fun t7 => kC 71 [some (VR (some 349)), some (VI a0), some (VI s3.1), none] [] S t7) ?_ (fun t7 => ?_)
      · refine s_if_icmp_gt (tgt := 71) (dt_Faces_gather 22 _ _ _ rfl) rfl ?_ ?_
        · refine s_iload_n (dt_Faces_gather 23 _ _ _ rfl) rfl ?_
          refine s_iconst (dt_Faces_gather 24 _ _ _ rfl) rfl ?_
          refine s_if_icmp_eq (tgt := 51) (dt_Faces_gather 25 _ _ _ rfl) rfl ?_ ?_
          · refine s_aload_n (dt_Faces_gather 29 _ _ _ rfl) rfl ?_
            refine s_aload_n (dt_Faces_gather 30 _ _ _ rfl) rfl ?_
            refine s_getR (c := 3) (j := 2) (o := (some 350)) (dt_Faces_gather 31 _ _ _ rfl) (kf_Faces_18) (sc_349 hS) rfl rfl ?_
            refine s_iload_n (dt_Faces_gather 32 _ _ _ rfl) rfl ?_
            refine s_inv (y := y_X_at) (Y' := Y_X_at) (as := [VR (some 350), VI s3.1]) (r := some (VI (atM s3.2 350 30 s3.1))) (M' := s3.2) (kInvS (dt_Faces_gather 33 _ _ _ rfl) kst_X_at rfl) kl_Faces_45 md_X_at rfl rfl (c_X_at hS ⟨(sc_350 hS), by decide⟩ s3.1 s3.2) ?_
            refine s_aload_n (dt_Faces_gather 34 _ _ _ rfl) rfl ?_
            refine s_getR (c := 3) (j := 3) (o := (some 351)) (dt_Faces_gather 35 _ _ _ rfl) (kf_Faces_22) (sc_349 hS) rfl rfl ?_
            refine s_iload_n (dt_Faces_gather 36 _ _ _ rfl) rfl ?_
            refine s_inv (y := y_X_at) (Y' := Y_X_at) (as := [VR (some 351), VI s3.1]) (r := some (VI (atM s3.2 351 30 s3.1))) (M' := s3.2) (kInvS (dt_Faces_gather 37 _ _ _ rfl) kst_X_at rfl) kl_Faces_45 md_X_at rfl rfl (c_X_at hS ⟨(sc_351 hS), by decide⟩ s3.1 s3.2) ?_
            refine s_callO (y := y_Faces_ask) (Y' := Y_Faces_ask) (as := [VR (some 349), VI (atM s3.2 350 30 s3.1), VI (atM s3.2 351 30 s3.1)]) (r := fun q => none) (M' := fun q => q) (kInvV (dt_Faces_gather 38 _ _ _ rfl) kin_Faces_ask 3 rfl (sc_349 hS) kse_Faces_ask rfl) kl_Faces_49 md_Faces_ask rfl rfl (fun q hq => c_Faces_ask hS (atM s3.2 350 30 s3.1) (atM s3.2 351 30 s3.1) s3.2 q hq) (fun q5 => ?_)
            exact s_mask [true, true, true, false] (s_ret0 rfl)
          · refine s_iload_n (dt_Faces_gather 26 _ _ _ rfl) rfl ?_
            refine s_iload_n (dt_Faces_gather 27 _ _ _ rfl) rfl ?_
            refine s_if_icmp_le (tgt := 71) (dt_Faces_gather 28 _ _ _ rfl) rfl ?_ ?_
            · exact s_mask [true, true, true, false] (s_ret0 rfl)
            · refine s_aload_n (dt_Faces_gather 29 _ _ _ rfl) rfl ?_
              refine s_aload_n (dt_Faces_gather 30 _ _ _ rfl) rfl ?_
              refine s_getR (c := 3) (j := 2) (o := (some 350)) (dt_Faces_gather 31 _ _ _ rfl) (kf_Faces_18) (sc_349 hS) rfl rfl ?_
              refine s_iload_n (dt_Faces_gather 32 _ _ _ rfl) rfl ?_
              refine s_inv (y := y_X_at) (Y' := Y_X_at) (as := [VR (some 350), VI s3.1]) (r := some (VI (atM s3.2 350 30 s3.1))) (M' := s3.2) (kInvS (dt_Faces_gather 33 _ _ _ rfl) kst_X_at rfl) kl_Faces_45 md_X_at rfl rfl (c_X_at hS ⟨(sc_350 hS), by decide⟩ s3.1 s3.2) ?_
              refine s_aload_n (dt_Faces_gather 34 _ _ _ rfl) rfl ?_
              refine s_getR (c := 3) (j := 3) (o := (some 351)) (dt_Faces_gather 35 _ _ _ rfl) (kf_Faces_22) (sc_349 hS) rfl rfl ?_
              refine s_iload_n (dt_Faces_gather 36 _ _ _ rfl) rfl ?_
              refine s_inv (y := y_X_at) (Y' := Y_X_at) (as := [VR (some 351), VI s3.1]) (r := some (VI (atM s3.2 351 30 s3.1))) (M' := s3.2) (kInvS (dt_Faces_gather 37 _ _ _ rfl) kst_X_at rfl) kl_Faces_45 md_X_at rfl rfl (c_X_at hS ⟨(sc_351 hS), by decide⟩ s3.1 s3.2) ?_
              refine s_callO (y := y_Faces_ask) (Y' := Y_Faces_ask) (as := [VR (some 349), VI (atM s3.2 350 30 s3.1), VI (atM s3.2 351 30 s3.1)]) (r := fun q => none) (M' := fun q => q) (kInvV (dt_Faces_gather 38 _ _ _ rfl) kin_Faces_ask 3 rfl (sc_349 hS) kse_Faces_ask rfl) kl_Faces_49 md_Faces_ask rfl rfl (fun q hq => c_Faces_ask hS (atM s3.2 350 30 s3.1) (atM s3.2 351 30 s3.1) s3.2 q hq) (fun q6 => ?_)
              exact s_mask [true, true, true, false] (s_ret0 rfl)
        · exact s_mask [true, true, true, false] (s_ret0 rfl)
      refine s_iinc (dt_Faces_gather 39 _ _ _ rfl) rfl rfl ?_
      refine s_goto (tgt := 12) (dt_Faces_gather 40 _ _ _ rfl) rfl ?_
      exact s_mask [true, true, true, false] (s_ret0 rfl)
    · exact s_mask [false, false, false, false] (s_ret0 rfl)
  intro e8
  exact s_vret (dt_Faces_gather 41 _ _ _ rfl) rfl rfl
theorem c_Faces_gather {S : KS} (hS : KExt 382 S)  (a0 : Int) (M : KM) : ∀ q, f_Faces_gather a0 M = some q → Ctr y_Faces_gather Y_Faces_gather [VR (some 349), VI a0] S M (none) S (q) := fun q hq =>
  ctr_of md_Faces_gather (Nat.le_of_ble_eq_true rfl) ⟨Nat.le_refl _, Nat.le_refl _⟩ 2 hq rfl (fun _ G => sim_Faces_gather hS  a0 M)
