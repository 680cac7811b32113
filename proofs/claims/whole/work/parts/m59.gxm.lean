set_option maxRecDepth 100000 in
theorem sim_Gifts_note {G : Gam} {S : KS} (hS : KExt 382 S)  (a0 : Int) (a1 : Int) (M : KM) : Sim G Y_Gifts_note (f_Gifts_note a0 a1 M) (kC 0 [some (VR (some 355)), some (VI a0), some (VI a1), none] [] S M) (fun (q : KM) => Sum.inr (none, S, q)) := by
  unfold f_Gifts_note
  refine s_aload_n (dt_Gifts_note 0 _ _ _ rfl) rfl ?_
  refine s_getI (c := 5) (j := 9) (dt_Gifts_note 1 _ _ _ rfl) (kf_Gifts_79) (sc_355 hS) rfl ?_
  refine s_if_le (tgt := 8) (dt_Gifts_note 2 _ _ _ rfl) rfl ?_ ?_
  · refine s_aload_n (dt_Gifts_note 4 _ _ _ rfl) rfl ?_
    refine s_getR (c := 5) (j := 6) (o := (some 358)) (dt_Gifts_note 5 _ _ _ rfl) (kf_Gifts_18) (sc_355 hS) rfl rfl ?_
    refine s_iload_n (dt_Gifts_note 6 _ _ _ rfl) rfl ?_
    refine s_inv (y := y_X_at) (Y' := Y_X_at) (as := [VR (some 358), VI a1]) (r := some (VI (atM M 358 8 a1))) (M' := M) (kInvS (dt_Gifts_note 7 _ _ _ rfl) kst_X_at rfl) kl_Gifts_92 md_X_at rfl rfl (c_X_at hS ⟨(sc_358 hS), by decide⟩ a1 M) ?_
    refine s_letI (fun v1 => ?_)
    refine s_istore_n (dt_Gifts_note 8 _ _ _ rfl) rfl ?_
    refine s_aload_n (dt_Gifts_note 9 _ _ _ rfl) rfl ?_
    refine s_dup (dt_Gifts_note 10 _ _ _ rfl) rfl ?_
    refine s_getI (c := 5) (j := 4) (dt_Gifts_note 11 _ _ _ rfl) (kf_Gifts_64) (sc_355 hS) rfl ?_
    refine s_aload_n (dt_Gifts_note 12 _ _ _ rfl) rfl ?_
    refine s_getI (c := 5) (j := 0) (dt_Gifts_note 13 _ _ _ rfl) (kf_Gifts_55) (sc_355 hS) rfl ?_
    refine s_bd (κ := fun t2 => kC 42 [some (VR (some 355)), some (VI a0), none, some (VI v1)] [VI t2, VI (M 355 4), VR (some 355)] S M) ?_ (fun t2 => ?_)
    · refine s_if_le (tgt := 41) (dt_Gifts_note 14 _ _ _ rfl) rfl ?_ ?_
      · refine s_iconst (dt_Gifts_note 21 _ _ _ rfl) rfl ?_
        exact s_mask [true, true, false, true] (s_ret0 rfl)
      · refine s_iload_n (dt_Gifts_note 15 _ _ _ rfl) rfl ?_
        refine s_aload_n (dt_Gifts_note 16 _ _ _ rfl) rfl ?_
        refine s_getI (c := 5) (j := 3) (dt_Gifts_note 17 _ _ _ rfl) (kf_Gifts_61) (sc_355 hS) rfl ?_
        refine s_if_icmp_eq (tgt := 41) (dt_Gifts_note 18 _ _ _ rfl) rfl ?_ ?_
        · refine s_iconst (dt_Gifts_note 21 _ _ _ rfl) rfl ?_
          exact s_mask [true, true, false, true] (s_ret0 rfl)
        · refine s_iconst (dt_Gifts_note 19 _ _ _ rfl) rfl ?_
          refine s_goto (tgt := 42) (dt_Gifts_note 20 _ _ _ rfl) rfl ?_
          exact s_mask [true, true, false, true] (s_ret0 rfl)
    refine s_ior (dt_Gifts_note 22 _ _ _ rfl) ?_
    refine s_putZ (c := 5) (j := 4) (dt_Gifts_note 23 _ _ _ rfl) kp_Gifts_64 (sc_355 hS) ⟨rfl, rfl⟩ ?_
    refine s_letM (fun M3 => ?_)
    refine s_aload_n (dt_Gifts_note 24 _ _ _ rfl) rfl ?_
    refine s_iload_n (dt_Gifts_note 25 _ _ _ rfl) rfl ?_
    refine s_putI (c := 5) (j := 3) (dt_Gifts_note 26 _ _ _ rfl) kp_Gifts_61 (sc_355 hS) ⟨rfl, rfl⟩ ?_
    refine s_letM (fun M4 => ?_)
    refine s_aload_n (dt_Gifts_note 27 _ _ _ rfl) rfl ?_
    refine s_getI (c := 5) (j := 0) (dt_Gifts_note 28 _ _ _ rfl) (kf_Gifts_55) (sc_355 hS) rfl ?_
    refine s_bd (κ := fun t9 => kC 82 [some (VR (some 355)), none, none, none] [] S t9) ?_ (fun t9 => ?_)
    · refine s_if_eq (tgt := 66) (dt_Gifts_note 29 _ _ _ rfl) rfl ?_ ?_
      · refine s_aload_n (dt_Gifts_note 34 _ _ _ rfl) rfl ?_
        refine s_iload_n (dt_Gifts_note 35 _ _ _ rfl) rfl ?_
        refine s_putI (c := 5) (j := 1) (dt_Gifts_note 36 _ _ _ rfl) kp_Gifts_58 (sc_355 hS) ⟨rfl, rfl⟩ ?_
        refine s_letM (fun M5 => ?_)
        refine s_aload_n (dt_Gifts_note 37 _ _ _ rfl) rfl ?_
        refine s_getR (c := 5) (j := 5) (o := (some 357)) (dt_Gifts_note 38 _ _ _ rfl) (kf_Gifts_15) (sc_355 hS) rfl rfl ?_
        refine s_aload_n (dt_Gifts_note 39 _ _ _ rfl) rfl ?_
        refine s_getR (c := 5) (j := 2) (o := (some 356)) (dt_Gifts_note 40 _ _ _ rfl) (kf_Gifts_9) (sc_355 hS) rfl rfl ?_
        refine s_inv (y := y_X_copyRow) (Y' := Y_X_copyRow) (as := [VR (some 357), VR (some 356)]) (r := none) (M' := (mcp M5 357 356 (min 4 4))) (kInvS (dt_Gifts_note 41 _ _ _ rfl) kst_X_copyRow rfl) kl_Gifts_72 md_X_copyRow rfl rfl (c_X_copyRow hS ⟨(sc_357 hS), by decide⟩ ⟨(sc_356 hS), by decide⟩ M5) ?_
        refine s_letM (fun M6 => ?_)
        exact s_mask [true, false, false, false] (s_ret0 rfl)
      · refine s_iload_n (dt_Gifts_note 30 _ _ _ rfl) rfl ?_
        refine s_aload_n (dt_Gifts_note 31 _ _ _ rfl) rfl ?_
        refine s_getI (c := 5) (j := 1) (dt_Gifts_note 32 _ _ _ rfl) (kf_Gifts_58) (sc_355 hS) rfl ?_
        refine s_if_icmp_ge (tgt := 82) (dt_Gifts_note 33 _ _ _ rfl) rfl ?_ ?_
        · refine s_aload_n (dt_Gifts_note 34 _ _ _ rfl) rfl ?_
          refine s_iload_n (dt_Gifts_note 35 _ _ _ rfl) rfl ?_
          refine s_putI (c := 5) (j := 1) (dt_Gifts_note 36 _ _ _ rfl) kp_Gifts_58 (sc_355 hS) ⟨rfl, rfl⟩ ?_
          refine s_letM (fun M7 => ?_)
          refine s_aload_n (dt_Gifts_note 37 _ _ _ rfl) rfl ?_
          refine s_getR (c := 5) (j := 5) (o := (some 357)) (dt_Gifts_note 38 _ _ _ rfl) (kf_Gifts_15) (sc_355 hS) rfl rfl ?_
          refine s_aload_n (dt_Gifts_note 39 _ _ _ rfl) rfl ?_
          refine s_getR (c := 5) (j := 2) (o := (some 356)) (dt_Gifts_note 40 _ _ _ rfl) (kf_Gifts_9) (sc_355 hS) rfl rfl ?_
          refine s_inv (y := y_X_copyRow) (Y' := Y_X_copyRow) (as := [VR (some 357), VR (some 356)]) (r := none) (M' := (mcp M7 357 356 (min 4 4))) (kInvS (dt_Gifts_note 41 _ _ _ rfl) kst_X_copyRow rfl) kl_Gifts_72 md_X_copyRow rfl rfl (c_X_copyRow hS ⟨(sc_357 hS), by decide⟩ ⟨(sc_356 hS), by decide⟩ M7) ?_
          refine s_letM (fun M8 => ?_)
          exact s_mask [true, false, false, false] (s_ret0 rfl)
        · exact s_mask [true, false, false, false] (s_ret0 rfl)
    refine s_aload_n (dt_Gifts_note 42 _ _ _ rfl) rfl ?_
    refine s_dup (dt_Gifts_note 43 _ _ _ rfl) rfl ?_
    refine s_getI (c := 5) (j := 0) (dt_Gifts_note 44 _ _ _ rfl) (kf_Gifts_55) (sc_355 hS) rfl ?_
    refine s_iconst (dt_Gifts_note 45 _ _ _ rfl) rfl ?_
    refine s_iadd (dt_Gifts_note 46 _ _ _ rfl) ?_
    refine s_putI (c := 5) (j := 0) (dt_Gifts_note 47 _ _ _ rfl) kp_Gifts_55 (sc_355 hS) ⟨rfl, rfl⟩ ?_
    refine s_letM (fun M10 => ?_)
    exact s_vret (dt_Gifts_note 48 _ _ _ rfl) rfl rfl
  · exact s_vret (dt_Gifts_note 3 _ _ _ rfl) rfl rfl
theorem c_Gifts_note {S : KS} (hS : KExt 382 S)  (a0 : Int) (a1 : Int) (M : KM) : ∀ q, f_Gifts_note a0 a1 M = some q → Ctr y_Gifts_note Y_Gifts_note [VR (some 355), VI a0, VI a1] S M (none) S (q) := fun q hq =>
  ctr_of md_Gifts_note (Nat.le_of_ble_eq_true rfl) ⟨Nat.le_refl _, Nat.le_refl _⟩ 1 hq rfl (fun _ G => sim_Gifts_note hS  a0 a1 M)
set_option maxRecDepth 100000 in
theorem sim_Gifts_isWrong {G : Gam} {S : KS} (hS : KExt 382 S)  (a0 : Int) (M : KM) : Sim G Y_Gifts_isWrong (f_Gifts_isWrong a0 M) (kC 0 [some (VR (some 355)), some (VI a0)] [] S M) (fun (q : Int) => Sum.inr (some (VI q), S, M)) := by
  unfold f_Gifts_isWrong
  refine s_aload_n (dt_Gifts_isWrong 0 _ _ _ rfl) rfl ?_
  refine s_getI (c := 5) (j := 8) (dt_Gifts_isWrong 1 _ _ _ rfl) (kf_Gifts_70) (sc_355 hS) rfl ?_
  refine s_iload_n (dt_Gifts_isWrong 2 _ _ _ rfl) rfl ?_
  refine s_inv (y := y_X_isIn) (Y' := Y_X_isIn) (as := [VI (M 355 8), VI a0]) (r := some (VI (isInV (M 355 8) a0))) (M' := M) (kInvS (dt_Gifts_isWrong 3 _ _ _ rfl) kst_X_isIn rfl) kl_Gifts_102 md_X_isIn rfl rfl (c_X_isIn hS (M 355 8) a0 M) ?_
  refine s_bd (κ := fun t1 => kC 35 [none, none] [VI t1] S M) ?_ (fun t1 => ?_)
  · refine s_if_eq (tgt := 34) (dt_Gifts_isWrong 4 _ _ _ rfl) rfl ?_ ?_
    · refine s_iconst (dt_Gifts_isWrong 16 _ _ _ rfl) rfl ?_
      exact s_mask [false, false] (s_ret0 rfl)
    · refine s_aload_n (dt_Gifts_isWrong 5 _ _ _ rfl) rfl ?_
      refine s_getR (c := 5) (j := 6) (o := (some 358)) (dt_Gifts_isWrong 6 _ _ _ rfl) (kf_Gifts_18) (sc_355 hS) rfl rfl ?_
      refine s_iload_n (dt_Gifts_isWrong 7 _ _ _ rfl) rfl ?_
      refine s_inv (y := y_X_at) (Y' := Y_X_at) (as := [VR (some 358), VI a0]) (r := some (VI (atM M 358 8 a0))) (M' := M) (kInvS (dt_Gifts_isWrong 8 _ _ _ rfl) kst_X_at rfl) kl_Gifts_92 md_X_at rfl rfl (c_X_at hS ⟨(sc_358 hS), by decide⟩ a0 M) ?_
      refine s_aload_n (dt_Gifts_isWrong 9 _ _ _ rfl) rfl ?_
      refine s_getR (c := 5) (j := 7) (o := (some 359)) (dt_Gifts_isWrong 10 _ _ _ rfl) (kf_Gifts_21) (sc_355 hS) rfl rfl ?_
      refine s_iload_n (dt_Gifts_isWrong 11 _ _ _ rfl) rfl ?_
      refine s_inv (y := y_X_at) (Y' := Y_X_at) (as := [VR (some 359), VI a0]) (r := some (VI (atM M 359 8 a0))) (M' := M) (kInvS (dt_Gifts_isWrong 12 _ _ _ rfl) kst_X_at rfl) kl_Gifts_92 md_X_at rfl rfl (c_X_at hS ⟨(sc_359 hS), by decide⟩ a0 M) ?_
      refine s_if_icmp_eq (tgt := 34) (dt_Gifts_isWrong 13 _ _ _ rfl) rfl ?_ ?_
      · refine s_iconst (dt_Gifts_isWrong 16 _ _ _ rfl) rfl ?_
        exact s_mask [false, false] (s_ret0 rfl)
      · refine s_iconst (dt_Gifts_isWrong 14 _ _ _ rfl) rfl ?_
        refine s_goto (tgt := 35) (dt_Gifts_isWrong 15 _ _ _ rfl) rfl ?_
        exact s_mask [false, false] (s_ret0 rfl)
  exact s_zret (dt_Gifts_isWrong 17 _ _ _ rfl) rfl rfl
theorem c_Gifts_isWrong {S : KS} (hS : KExt 382 S)  (a0 : Int) (M : KM) : ∀ q, f_Gifts_isWrong a0 M = some q → Ctr y_Gifts_isWrong Y_Gifts_isWrong [VR (some 355), VI a0] S M (some (VI q)) S (M) := fun q hq =>
  ctr_of md_Gifts_isWrong (Nat.le_of_ble_eq_true rfl) ⟨Nat.le_refl _, Nat.le_refl _⟩ 0 hq rfl (fun _ G => sim_Gifts_isWrong hS  a0 M)
set_option maxRecDepth 100000 in
theorem sim_Gifts_grow {G : Gam} {S : KS} (hS : KExt 382 S)  (a0 : Int) (a1 : Int) (M : KM) : Sim G Y_Gifts_grow (f_Gifts_grow a0 a1 M) (kC 0 [some (VR (some 355)), some (VI a0), some (VI a1)] [] S M) (fun (q : KM) => Sum.inr (none, S, q)) := by
  unfold f_Gifts_grow
  refine s_aload_n (dt_Gifts_grow 0 _ _ _ rfl) rfl ?_
  refine s_dup (dt_Gifts_grow 1 _ _ _ rfl) rfl ?_
  refine s_getI (c := 5) (j := 9) (dt_Gifts_grow 2 _ _ _ rfl) (kf_Gifts_79) (sc_355 hS) rfl ?_
  refine s_aload_n (dt_Gifts_grow 3 _ _ _ rfl) rfl ?_
  refine s_iload_n (dt_Gifts_grow 4 _ _ _ rfl) rfl ?_
  refine s_callO (y := y_Gifts_isWrong) (Y' := Y_Gifts_isWrong) (as := [VR (some 355), VI a0]) (r := fun q => some (VI q)) (M' := fun q => M) (kInvV (dt_Gifts_grow 5 _ _ _ rfl) kin_Gifts_isWrong 5 rfl (sc_355 hS) kse_Gifts_isWrong rfl) kl_Gifts_85 md_Gifts_isWrong rfl rfl (fun q hq => c_Gifts_isWrong hS a0 M q hq) (fun q1 => ?_)
  refine s_bd (κ := fun t2 => kC 18 [some (VR (some 355)), some (VI a0), some (VI a1)] [VI t2, VI (M 355 9), VR (some 355)] S M) ?_ (fun t2 => ?_)
  · refine s_if_eq (tgt := 17) (dt_Gifts_grow 6 _ _ _ rfl) rfl ?_ ?_
    · refine s_iconst (dt_Gifts_grow 9 _ _ _ rfl) rfl ?_
      exact s_mask [true, true, true] (s_ret0 rfl)
    · refine s_iconst (dt_Gifts_grow 7 _ _ _ rfl) rfl ?_
      refine s_goto (tgt := 18) (dt_Gifts_grow 8 _ _ _ rfl) rfl ?_
      exact s_mask [true, true, true] (s_ret0 rfl)
  refine s_isub (dt_Gifts_grow 10 _ _ _ rfl) ?_
  refine s_putI (c := 5) (j := 9) (dt_Gifts_grow 11 _ _ _ rfl) kp_Gifts_79 (sc_355 hS) ⟨rfl, rfl⟩ ?_
  refine s_letM (fun M3 => ?_)
  refine s_aload_n (dt_Gifts_grow 12 _ _ _ rfl) rfl ?_
  refine s_getR (c := 5) (j := 6) (o := (some 358)) (dt_Gifts_grow 13 _ _ _ rfl) (kf_Gifts_18) (sc_355 hS) rfl rfl ?_
  refine s_iload_n (dt_Gifts_grow 14 _ _ _ rfl) rfl ?_
  refine s_aload_n (dt_Gifts_grow 15 _ _ _ rfl) rfl ?_
  refine s_getR (c := 5) (j := 6) (o := (some 358)) (dt_Gifts_grow 16 _ _ _ rfl) (kf_Gifts_18) (sc_355 hS) rfl rfl ?_
  refine s_iload_n (dt_Gifts_grow 17 _ _ _ rfl) rfl ?_
  refine s_inv (y := y_X_at) (Y' := Y_X_at) (as := [VR (some 358), VI a0]) (r := some (VI (atM M3 358 8 a0))) (M' := M3) (kInvS (dt_Gifts_grow 18 _ _ _ rfl) kst_X_at rfl) kl_Gifts_92 md_X_at rfl rfl (c_X_at hS ⟨(sc_358 hS), by decide⟩ a0 M3) ?_
  refine s_iload_n (dt_Gifts_grow 19 _ _ _ rfl) rfl ?_
  refine s_iadd (dt_Gifts_grow 20 _ _ _ rfl) ?_
  refine s_inv (y := y_X_put) (Y' := Y_X_put) (as := [VR (some 358), VI a0, VI (w32 ((atM M3 358 8 a0) + a1))]) (r := none) (M' := (putM M3 358 8 a0 (w32 ((atM M3 358 8 a0) + a1)))) (kInvS (dt_Gifts_grow 21 _ _ _ rfl) kst_X_put rfl) kl_Gifts_48 md_X_put rfl rfl (c_X_put hS ⟨(sc_358 hS), by decide⟩ a0 (w32 ((atM M3 358 8 a0) + a1)) M3) ?_
  refine s_letM (fun M4 => ?_)
  refine s_aload_n (dt_Gifts_grow 22 _ _ _ rfl) rfl ?_
  refine s_dup (dt_Gifts_grow 23 _ _ _ rfl) rfl ?_
  refine s_getI (c := 5) (j := 9) (dt_Gifts_grow 24 _ _ _ rfl) (kf_Gifts_79) (sc_355 hS) rfl ?_
  refine s_aload_n (dt_Gifts_grow 25 _ _ _ rfl) rfl ?_
  refine s_iload_n (dt_Gifts_grow 26 _ _ _ rfl) rfl ?_
  refine s_callO (y := y_Gifts_isWrong) (Y' := Y_Gifts_isWrong) (as := [VR (some 355), VI a0]) (r := fun q => some (VI q)) (M' := fun q => M4) (kInvV (dt_Gifts_grow 27 _ _ _ rfl) kin_Gifts_isWrong 5 rfl (sc_355 hS) kse_Gifts_isWrong rfl) kl_Gifts_85 md_Gifts_isWrong rfl rfl (fun q hq => c_Gifts_isWrong hS a0 M4 q hq) (fun q5 => ?_)
  refine s_bd (κ := fun t6 => kC 58 [none, none, none] [VI t6, VI (M4 355 9), VR (some 355)] S M4) ?_ (fun t6 => ?_)
  · refine s_if_eq (tgt := 57) (dt_Gifts_grow 28 _ _ _ rfl) rfl ?_ ?_
    · refine s_iconst (dt_Gifts_grow 31 _ _ _ rfl) rfl ?_
      exact s_mask [false, false, false] (s_ret0 rfl)
    · refine s_iconst (dt_Gifts_grow 29 _ _ _ rfl) rfl ?_
      refine s_goto (tgt := 58) (dt_Gifts_grow 30 _ _ _ rfl) rfl ?_
      exact s_mask [false, false, false] (s_ret0 rfl)
  refine s_iadd (dt_Gifts_grow 32 _ _ _ rfl) ?_
  refine s_putI (c := 5) (j := 9) (dt_Gifts_grow 33 _ _ _ rfl) kp_Gifts_79 (sc_355 hS) ⟨rfl, rfl⟩ ?_
  refine s_letM (fun M7 => ?_)
  exact s_vret (dt_Gifts_grow 34 _ _ _ rfl) rfl rfl
theorem c_Gifts_grow {S : KS} (hS : KExt 382 S)  (a0 : Int) (a1 : Int) (M : KM) : ∀ q, f_Gifts_grow a0 a1 M = some q → Ctr y_Gifts_grow Y_Gifts_grow [VR (some 355), VI a0, VI a1] S M (none) S (q) := fun q hq =>
  ctr_of md_Gifts_grow (Nat.le_of_ble_eq_true rfl) ⟨Nat.le_refl _, Nat.le_refl _⟩ 0 hq rfl (fun _ G => sim_Gifts_grow hS  a0 a1 M)
set_option maxRecDepth 100000 in
theorem sim_Gifts_shift {G : Gam} {S : KS} (hS : KExt 382 S)  (a1 : Int) (a2 : Int) (M : KM) : Sim G Y_Gifts_shift (f_Gifts_shift a1 a2 M) (kC 0 [some (VR (some 355)), some (VR (some 2)), some (VI a1), some (VI a2)] [] S M) (fun (q : KM) => Sum.inr (none, S, q)) := by
  unfold f_Gifts_shift
  refine s_aload_n (dt_Gifts_shift 0 _ _ _ rfl) rfl ?_
  refine s_aload_n (dt_Gifts_shift 1 _ _ _ rfl) rfl ?_
  refine s_getR (c := 12) (j := 6) (o := (some 7)) (dt_Gifts_shift 2 _ _ _ rfl) (kf_Gifts_89) (sc_2 hS) rfl rfl ?_
  refine s_iload_n (dt_Gifts_shift 3 _ _ _ rfl) rfl ?_
  refine s_inv (y := y_X_at) (Y' := Y_X_at) (as := [VR (some 7), VI a1]) (r := some (VI (atM M 7 20 a1))) (M' := M) (kInvS (dt_Gifts_shift 4 _ _ _ rfl) kst_X_at rfl) kl_Gifts_92 md_X_at rfl rfl (c_X_at hS ⟨(sc_7 hS), by decide⟩ a1 M) ?_
  refine s_iload_n (dt_Gifts_shift 5 _ _ _ rfl) rfl ?_
  refine s_ineg (dt_Gifts_shift 6 _ _ _ rfl) ?_
  refine s_callO (y := y_Gifts_grow) (Y' := Y_Gifts_grow) (as := [VR (some 355), VI (atM M 7 20 a1), VI (w32 (-a2))]) (r := fun q => none) (M' := fun q => q) (kInvV (dt_Gifts_shift 7 _ _ _ rfl) kin_Gifts_grow 5 rfl (sc_355 hS) kse_Gifts_grow rfl) kl_Gifts_96 md_Gifts_grow rfl rfl (fun q hq => c_Gifts_grow hS (atM M 7 20 a1) (w32 (-a2)) M q hq) (fun q1 => ?_)
  refine s_aload_n (dt_Gifts_shift 8 _ _ _ rfl) rfl ?_
  refine s_aload_n (dt_Gifts_shift 9 _ _ _ rfl) rfl ?_
  refine s_getR (c := 12) (j := 7) (o := (some 8)) (dt_Gifts_shift 10 _ _ _ rfl) (kf_Gifts_99) (sc_2 hS) rfl rfl ?_
  refine s_iload_n (dt_Gifts_shift 11 _ _ _ rfl) rfl ?_
  refine s_inv (y := y_X_at) (Y' := Y_X_at) (as := [VR (some 8), VI a1]) (r := some (VI (atM q1 8 20 a1))) (M' := q1) (kInvS (dt_Gifts_shift 12 _ _ _ rfl) kst_X_at rfl) kl_Gifts_92 md_X_at rfl rfl (c_X_at hS ⟨(sc_8 hS), by decide⟩ a1 q1) ?_
  refine s_iload_n (dt_Gifts_shift 13 _ _ _ rfl) rfl ?_
  refine s_callO (y := y_Gifts_grow) (Y' := Y_Gifts_grow) (as := [VR (some 355), VI (atM q1 8 20 a1), VI a2]) (r := fun q => none) (M' := fun q => q) (kInvV (dt_Gifts_shift 14 _ _ _ rfl) kin_Gifts_grow 5 rfl (sc_355 hS) kse_Gifts_grow rfl) kl_Gifts_96 md_Gifts_grow rfl rfl (fun q hq => c_Gifts_grow hS (atM q1 8 20 a1) a2 q1 q hq) (fun q2 => ?_)
  exact s_vret (dt_Gifts_shift 15 _ _ _ rfl) rfl rfl
theorem c_Gifts_shift {S : KS} (hS : KExt 382 S)  (a1 : Int) (a2 : Int) (M : KM) : ∀ q, f_Gifts_shift a1 a2 M = some q → Ctr y_Gifts_shift Y_Gifts_shift [VR (some 355), VR (some 2), VI a1, VI a2] S M (none) S (q) := fun q hq =>
  ctr_of md_Gifts_shift (Nat.le_of_ble_eq_true rfl) ⟨Nat.le_refl _, Nat.le_refl _⟩ 0 hq rfl (fun _ G => sim_Gifts_shift hS  a1 a2 M)
set_option maxRecDepth 100000 in
theorem sim_Gifts_addSecond {G : Gam} {S : KS} (hS : KExt 382 S)  (a1 : Int) (a2 : Int) (M : KM) : Sim G Y_Gifts_addSecond (f_Gifts_addSecond a1 a2 M) (kC 0 [some (VR (some 355)), some (VR (some 2)), some (VI a1), some (VI a2), none, none] [] S M) (fun (q : KM) => Sum.inr (none, S, q)) := by
  unfold f_Gifts_addSecond
  refine s_aload_n (dt_Gifts_addSecond 0 _ _ _ rfl) rfl ?_
  refine s_getI (c := 5) (j := 9) (dt_Gifts_addSecond 1 _ _ _ rfl) (kf_Gifts_79) (sc_355 hS) rfl ?_
  refine s_iconst (dt_Gifts_addSecond 2 _ _ _ rfl) rfl ?_
  refine s_if_icmp_le (tgt := 9) (dt_Gifts_addSecond 3 _ _ _ rfl) rfl ?_ ?_
  · refine s_iload_n (dt_Gifts_addSecond 5 _ _ _ rfl) rfl ?_
    refine s_istore (dt_Gifts_addSecond 6 _ _ _ rfl) rfl ?_
    refine s_bd (κ := (fun (e9 : KM) => kC 86 [none, none, none, none, none, none] [] S e9)) (s_mask [true, true, false, true, true, false] (s_while (c := fun s1 => kC 12 [some (VR (some 355)), some (VR (some 2)), none, some (VI a2), some (VI s1.1), none] [] S s1.2) (fun s1 => ?_) (a1, M))) ?_
    · refine s_iload (dt_Gifts_addSecond 7 _ _ _ rfl) rfl ?_
      refine s_aload_n (dt_Gifts_addSecond 8 _ _ _ rfl) rfl ?_
      refine s_getI (c := 12) (j := 5) (dt_Gifts_addSecond 9 _ _ _ rfl) (kf_Gifts_38) (sc_2 hS) rfl ?_
      refine s_if_icmp_ge (tgt := 86) (dt_Gifts_addSecond 10 _ _ _ rfl) rfl ?_ ?_
      · refine s_iconst (dt_Gifts_addSecond 11 _ _ _ rfl) rfl ?_
        refine s_istore (dt_Gifts_addSecond 12 _ _ _ rfl) rfl ?_
        refine s_bd (κ := (fun (e7 : KM) => kC 71 [some (VR (some 355)), some (VR (some 2)), none, some (VI a2), some (VI s1.1), none] [] S e7)) (s_mask [true, true, false, true, true, true] (s_while (c := fun s2 => kC 24 [some (VR (some 355)), some (VR (some 2)), none, some (VI a2), some (VI s1.1), some (VI s2.1)] [] S s2.2) (fun s2 => ?_) ((1 : Int), s1.2))) ?_
        · refine s_iload (dt_Gifts_addSecond 13 _ _ _ rfl) rfl ?_
          refine s_bipush (dt_Gifts_addSecond 14 _ _ _ rfl) rfl ?_
          refine s_if_icmp_gt (tgt := 71) (dt_Gifts_addSecond 15 _ _ _ rfl) rfl ?_ ?_
          · refine s_aload_n (dt_Gifts_addSecond 16 _ _ _ rfl) rfl ?_
            refine s_aload_n (dt_Gifts_addSecond 17 _ _ _ rfl) rfl ?_
            refine s_iload (dt_Gifts_addSecond 18 _ _ _ rfl) rfl ?_
            refine s_iconst (dt_Gifts_addSecond 19 _ _ _ rfl) rfl ?_
            refine s_callO (y := y_Gifts_shift) (Y' := Y_Gifts_shift) (as := [VR (some 355), VR (some 2), VI s1.1, VI (1 : Int)]) (r := fun q => none) (M' := fun q => q) (kInvV (dt_Gifts_addSecond 20 _ _ _ rfl) kin_Gifts_shift 5 rfl (sc_355 hS) kse_Gifts_shift rfl) kl_Gifts_44 md_Gifts_shift rfl rfl (fun q hq => c_Gifts_shift hS s1.1 (1 : Int) s2.2 q hq) (fun q3 => ?_)
            refine s_aload_n (dt_Gifts_addSecond 21 _ _ _ rfl) rfl ?_
            refine s_getR (c := 5) (j := 5) (o := (some 357)) (dt_Gifts_addSecond 22 _ _ _ rfl) (kf_Gifts_15) (sc_355 hS) rfl rfl ?_
            refine s_iconst (dt_Gifts_addSecond 23 _ _ _ rfl) rfl ?_
            refine s_iload (dt_Gifts_addSecond 24 _ _ _ rfl) rfl ?_
            refine s_inv (y := y_X_put) (Y' := Y_X_put) (as := [VR (some 357), VI (2 : Int), VI s1.1]) (r := none) (M' := (putM q3 357 4 (2 : Int) s1.1)) (kInvS (dt_Gifts_addSecond 25 _ _ _ rfl) kst_X_put rfl) kl_Gifts_48 md_X_put rfl rfl (c_X_put hS ⟨(sc_357 hS), by decide⟩ (2 : Int) s1.1 q3) ?_
            refine s_letM (fun M4 => ?_)
            refine s_aload_n (dt_Gifts_addSecond 26 _ _ _ rfl) rfl ?_
            refine s_getR (c := 5) (j := 5) (o := (some 357)) (dt_Gifts_addSecond 27 _ _ _ rfl) (kf_Gifts_15) (sc_355 hS) rfl rfl ?_
            refine s_iconst (dt_Gifts_addSecond 28 _ _ _ rfl) rfl ?_
            refine s_iload (dt_Gifts_addSecond 29 _ _ _ rfl) rfl ?_
            refine s_inv (y := y_X_put) (Y' := Y_X_put) (as := [VR (some 357), VI (3 : Int), VI s2.1]) (r := none) (M' := (putM M4 357 4 (3 : Int) s2.1)) (kInvS (dt_Gifts_addSecond 30 _ _ _ rfl) kst_X_put rfl) kl_Gifts_48 md_X_put rfl rfl (c_X_put hS ⟨(sc_357 hS), by decide⟩ (3 : Int) s2.1 M4) ?_
            refine s_letM (fun M5 => ?_)
            refine s_aload_n (dt_Gifts_addSecond 31 _ _ _ rfl) rfl ?_
            refine s_iconst (dt_Gifts_addSecond 32 _ _ _ rfl) rfl ?_
            refine s_iload_n (dt_Gifts_addSecond 33 _ _ _ rfl) rfl ?_
            refine s_callO (y := y_Gifts_note) (Y' := Y_Gifts_note) (as := [VR (some 355), VI (4 : Int), VI a2]) (r := fun q => none) (M' := fun q => q) (kInvV (dt_Gifts_addSecond 34 _ _ _ rfl) kin_Gifts_note 5 rfl (sc_355 hS) kse_Gifts_note rfl) kl_Gifts_34 md_Gifts_note rfl rfl (fun q hq => c_Gifts_note hS (4 : Int) a2 M5 q hq) (fun q6 => ?_)
            refine s_iinc (dt_Gifts_addSecond 35 _ _ _ rfl) rfl rfl ?_
            refine s_goto (tgt := 24) (dt_Gifts_addSecond 36 _ _ _ rfl) rfl ?_
            exact s_mask [true, true, false, true, true, true] (s_ret0 rfl)
          · exact s_mask [true, true, false, true, true, false] (s_ret0 rfl)
        intro e7
        refine s_aload_n (dt_Gifts_addSecond 37 _ _ _ rfl) rfl ?_
        refine s_aload_n (dt_Gifts_addSecond 38 _ _ _ rfl) rfl ?_
        refine s_iload (dt_Gifts_addSecond 39 _ _ _ rfl) rfl ?_
        refine s_bipush (dt_Gifts_addSecond 40 _ _ _ rfl) rfl ?_
        refine s_callO (y := y_Gifts_shift) (Y' := Y_Gifts_shift) (as := [VR (some 355), VR (some 2), VI s1.1, VI (-9 : Int)]) (r := fun q => none) (M' := fun q => q) (kInvV (dt_Gifts_addSecond 41 _ _ _ rfl) kin_Gifts_shift 5 rfl (sc_355 hS) kse_Gifts_shift rfl) kl_Gifts_44 md_Gifts_shift rfl rfl (fun q hq => c_Gifts_shift hS s1.1 (-9 : Int) e7 q hq) (fun q8 => ?_)
        refine s_iinc (dt_Gifts_addSecond 42 _ _ _ rfl) rfl rfl ?_
        refine s_goto (tgt := 12) (dt_Gifts_addSecond 43 _ _ _ rfl) rfl ?_
        exact s_mask [true, true, false, true, true, false] (s_ret0 rfl)
      · exact s_mask [false, false, false, false, false, false] (s_ret0 rfl)
    intro e9
    exact s_vret (dt_Gifts_addSecond 44 _ _ _ rfl) rfl rfl
  · exact s_vret (dt_Gifts_addSecond 4 _ _ _ rfl) rfl rfl
theorem c_Gifts_addSecond {S : KS} (hS : KExt 382 S)  (a1 : Int) (a2 : Int) (M : KM) : ∀ q, f_Gifts_addSecond a1 a2 M = some q → Ctr y_Gifts_addSecond Y_Gifts_addSecond [VR (some 355), VR (some 2), VI a1, VI a2] S M (none) S (q) := fun q hq =>
  ctr_of md_Gifts_addSecond (Nat.le_of_ble_eq_true rfl) ⟨Nat.le_refl _, Nat.le_refl _⟩ 2 hq rfl (fun _ G => sim_Gifts_addSecond hS  a1 a2 M)
set_option maxRecDepth 100000 in
theorem sim_Gifts_begin {G : Gam} {S : KS} (hS : KExt 382 S)   (M : KM) : Sim G Y_Gifts_begin (f_Gifts_begin  M) (kC 0 [some (VR (some 355)), some (VR (some 2)), some (VR (some 349)), none] [] S M) (fun (q : KM) => Sum.inr (none, S, q)) := by
  unfold f_Gifts_begin
  refine s_aload_n (dt_Gifts_begin 0 _ _ _ rfl) rfl ?_
  refine s_iconst (dt_Gifts_begin 1 _ _ _ rfl) rfl ?_
  refine s_putI (c := 5) (j := 0) (dt_Gifts_begin 2 _ _ _ rfl) kp_Gifts_55 (sc_355 hS) ⟨rfl, rfl⟩ ?_
  refine s_letM (fun M1 => ?_)
  refine s_aload_n (dt_Gifts_begin 3 _ _ _ rfl) rfl ?_
  refine s_iconst (dt_Gifts_begin 4 _ _ _ rfl) rfl ?_
  refine s_putI (c := 5) (j := 1) (dt_Gifts_begin 5 _ _ _ rfl) kp_Gifts_58 (sc_355 hS) ⟨rfl, rfl⟩ ?_
  refine s_letM (fun M2 => ?_)
  refine s_aload_n (dt_Gifts_begin 6 _ _ _ rfl) rfl ?_
  refine s_iconst (dt_Gifts_begin 7 _ _ _ rfl) rfl ?_
  refine s_putI (c := 5) (j := 3) (dt_Gifts_begin 8 _ _ _ rfl) kp_Gifts_61 (sc_355 hS) ⟨rfl, rfl⟩ ?_
  refine s_letM (fun M3 => ?_)
  refine s_aload_n (dt_Gifts_begin 9 _ _ _ rfl) rfl ?_
  refine s_iconst (dt_Gifts_begin 10 _ _ _ rfl) rfl ?_
  refine s_putZ (c := 5) (j := 4) (dt_Gifts_begin 11 _ _ _ rfl) kp_Gifts_64 (sc_355 hS) ⟨rfl, rfl⟩ ?_
  refine s_letM (fun M4 => ?_)
  refine s_aload_n (dt_Gifts_begin 12 _ _ _ rfl) rfl ?_
  refine s_aload_n (dt_Gifts_begin 13 _ _ _ rfl) rfl ?_
  refine s_getI (c := 3) (j := 6) (dt_Gifts_begin 14 _ _ _ rfl) (kf_Gifts_67) (sc_349 hS) rfl ?_
  refine s_putI (c := 5) (j := 8) (dt_Gifts_begin 15 _ _ _ rfl) kp_Gifts_70 (sc_355 hS) ⟨rfl, rfl⟩ ?_
  refine s_letM (fun M5 => ?_)
  refine s_aload_n (dt_Gifts_begin 16 _ _ _ rfl) rfl ?_
  refine s_getR (c := 3) (j := 7) (o := (some 354)) (dt_Gifts_begin 17 _ _ _ rfl) (kf_Gifts_71) (sc_349 hS) rfl rfl ?_
  refine s_aload_n (dt_Gifts_begin 18 _ _ _ rfl) rfl ?_
  refine s_getR (c := 5) (j := 7) (o := (some 359)) (dt_Gifts_begin 19 _ _ _ rfl) (kf_Gifts_21) (sc_355 hS) rfl rfl ?_
  refine s_inv (y := y_X_copyRow) (Y' := Y_X_copyRow) (as := [VR (some 354), VR (some 359)]) (r := none) (M' := (mcp M5 354 359 (min 8 8))) (kInvS (dt_Gifts_begin 20 _ _ _ rfl) kst_X_copyRow rfl) kl_Gifts_72 md_X_copyRow rfl rfl (c_X_copyRow hS ⟨(sc_354 hS), by decide⟩ ⟨(sc_359 hS), by decide⟩ M5) ?_
  refine s_letM (fun M6 => ?_)
  refine s_aload_n (dt_Gifts_begin 21 _ _ _ rfl) rfl ?_
  refine s_getR (c := 12) (j := 1) (o := (some 3)) (dt_Gifts_begin 22 _ _ _ rfl) (kf_Gifts_76) (sc_2 hS) rfl rfl ?_
  refine s_aload_n (dt_Gifts_begin 23 _ _ _ rfl) rfl ?_
  refine s_getR (c := 5) (j := 6) (o := (some 358)) (dt_Gifts_begin 24 _ _ _ rfl) (kf_Gifts_18) (sc_355 hS) rfl rfl ?_
  refine s_inv (y := y_X_copyRow) (Y' := Y_X_copyRow) (as := [VR (some 3), VR (some 358)]) (r := none) (M' := (mcp M6 3 358 (min 8 8))) (kInvS (dt_Gifts_begin 25 _ _ _ rfl) kst_X_copyRow rfl) kl_Gifts_72 md_X_copyRow rfl rfl (c_X_copyRow hS ⟨(sc_3 hS), by decide⟩ ⟨(sc_358 hS), by decide⟩ M6) ?_
  refine s_letM (fun M7 => ?_)
  refine s_aload_n (dt_Gifts_begin 26 _ _ _ rfl) rfl ?_
  refine s_iconst (dt_Gifts_begin 27 _ _ _ rfl) rfl ?_
  refine s_putI (c := 5) (j := 9) (dt_Gifts_begin 28 _ _ _ rfl) kp_Gifts_79 (sc_355 hS) ⟨rfl, rfl⟩ ?_
  refine s_letM (fun M8 => ?_)
  refine s_iconst (dt_Gifts_begin 29 _ _ _ rfl) rfl ?_
  refine s_istore_n (dt_Gifts_begin 30 _ _ _ rfl) rfl ?_
  refine s_bd (κ := (fun (e13 : KM) => kC 93 [none, none, none, none] [] S e13)) (s_mask [true, true, false, true] (s_while (c := fun s9 => kC 57 [some (VR (some 355)), some (VR (some 2)), none, some (VI s9.1)] [] S s9.2) (fun s9 => ?_) ((0 : Int), M8))) ?_
  · refine s_iload_n (dt_Gifts_begin 31 _ _ _ rfl) rfl ?_
    refine s_aload_n (dt_Gifts_begin 32 _ _ _ rfl) rfl ?_
    refine s_getI (c := 12) (j := 0) (dt_Gifts_begin 33 _ _ _ rfl) (kf_Gifts_82) (sc_2 hS) rfl ?_
    refine s_if_icmp_ge (tgt := 93) (dt_Gifts_begin 34 _ _ _ rfl) rfl ?_ ?_
    · refine s_aload_n (dt_Gifts_begin 35 _ _ _ rfl) rfl ?_
      refine s_dup (dt_Gifts_begin 36 _ _ _ rfl) rfl ?_
      refine s_getI (c := 5) (j := 9) (dt_Gifts_begin 37 _ _ _ rfl) (kf_Gifts_79) (sc_355 hS) rfl ?_
      refine s_aload_n (dt_Gifts_begin 38 _ _ _ rfl) rfl ?_
      refine s_iload_n (dt_Gifts_begin 39 _ _ _ rfl) rfl ?_
      refine s_callO (y := y_Gifts_isWrong) (Y' := Y_Gifts_isWrong) (as := [VR (some 355), VI s9.1]) (r := fun q => some (VI q)) (M' := fun q => s9.2) (kInvV (dt_Gifts_begin 40 _ _ _ rfl) kin_Gifts_isWrong 5 rfl (sc_355 hS) kse_Gifts_isWrong rfl) kl_Gifts_85 md_Gifts_isWrong rfl rfl (fun q hq => c_Gifts_isWrong hS s9.1 s9.2 q hq) (fun q10 => ?_)
      refine s_bd (κ := fun t11 => kC 83 [some (VR (some 355)), some (VR (some 2)), none, some (VI s9.1)] [VI t11, VI (s9.2 355 9), VR (some 355)] S s9.2) ?_ (fun t11 => ?_)
      · refine s_if_eq (tgt := 82) (dt_Gifts_begin 41 _ _ _ rfl) rfl ?_ ?_
        · refine s_iconst (dt_Gifts_begin 44 _ _ _ rfl) rfl ?_
          exact s_mask [true, true, false, true] (s_ret0 rfl)
        · refine s_iconst (dt_Gifts_begin 42 _ _ _ rfl) rfl ?_
          refine s_goto (tgt := 83) (dt_Gifts_begin 43 _ _ _ rfl) rfl ?_
          exact s_mask [true, true, false, true] (s_ret0 rfl)
      refine s_iadd (dt_Gifts_begin 45 _ _ _ rfl) ?_
      refine s_putI (c := 5) (j := 9) (dt_Gifts_begin 46 _ _ _ rfl) kp_Gifts_79 (sc_355 hS) ⟨rfl, rfl⟩ ?_
      refine s_letM (fun M12 => ?_)
      refine s_iinc (dt_Gifts_begin 47 _ _ _ rfl) rfl rfl ?_
      refine s_goto (tgt := 57) (dt_Gifts_begin 48 _ _ _ rfl) rfl ?_
      exact s_mask [true, true, false, true] (s_ret0 rfl)
    · exact s_mask [false, false, false, false] (s_ret0 rfl)
  intro e13
  exact s_vret (dt_Gifts_begin 49 _ _ _ rfl) rfl rfl
theorem c_Gifts_begin {S : KS} (hS : KExt 382 S)   (M : KM) : ∀ q, f_Gifts_begin  M = some q → Ctr y_Gifts_begin Y_Gifts_begin [VR (some 355), VR (some 2), VR (some 349)] S M (none) S (q) := fun q hq =>
  ctr_of md_Gifts_begin (Nat.le_of_ble_eq_true rfl) ⟨Nat.le_refl _, Nat.le_refl _⟩ 1 hq rfl (fun _ G => sim_Gifts_begin hS   M)
set_option maxRecDepth 100000 in
theorem sim_Gifts_search {G : Gam} {S : KS} (hS : KExt 382 S)  (a2 : Int) (M : KM) : Sim G Y_Gifts_search (f_Gifts_search a2 M) (kC 0 [some (VR (some 355)), some (VR (some 2)), some (VR (some 349)), some (VI a2), none, none] [] S M) (fun (q : KM) => Sum.inr (none, S, q)) := by
  unfold f_Gifts_search
  refine s_aload_n (dt_Gifts_search 0 _ _ _ rfl) rfl ?_
  refine s_aload_n (dt_Gifts_search 1 _ _ _ rfl) rfl ?_
  refine s_aload_n (dt_Gifts_search 2 _ _ _ rfl) rfl ?_
  refine s_callO (y := y_Gifts_begin) (Y' := Y_Gifts_begin) (as := [VR (some 355), VR (some 2), VR (some 349)]) (r := fun q => none) (M' := fun q => q) (kInvV (dt_Gifts_search 3 _ _ _ rfl) kin_Gifts_begin 5 rfl (sc_355 hS) kse_Gifts_begin rfl) kl_Gifts_24 md_Gifts_begin rfl rfl (fun q hq => c_Gifts_begin hS M q hq) (fun q1 => ?_)
  refine s_aload_n (dt_Gifts_search 4 _ _ _ rfl) rfl ?_
  refine s_getI (c := 3) (j := 8) (dt_Gifts_search 5 _ _ _ rfl) (kf_Gifts_28) (sc_349 hS) rfl ?_
  refine s_if_eq (tgt := 14) (dt_Gifts_search 6 _ _ _ rfl) rfl ?_ ?_
  · refine s_aload_n (dt_Gifts_search 8 _ _ _ rfl) rfl ?_
    refine s_iconst (dt_Gifts_search 9 _ _ _ rfl) rfl ?_
    refine s_iload_n (dt_Gifts_search 10 _ _ _ rfl) rfl ?_
    refine s_callO (y := y_Gifts_note) (Y' := Y_Gifts_note) (as := [VR (some 355), VI (0 : Int), VI a2]) (r := fun q => none) (M' := fun q => q) (kInvV (dt_Gifts_search 11 _ _ _ rfl) kin_Gifts_note 5 rfl (sc_355 hS) kse_Gifts_note rfl) kl_Gifts_34 md_Gifts_note rfl rfl (fun q hq => c_Gifts_note hS (0 : Int) a2 q1 q hq) (fun q2 => ?_)
    refine s_iconst (dt_Gifts_search 12 _ _ _ rfl) rfl ?_
    refine s_istore (dt_Gifts_search 13 _ _ _ rfl) rfl ?_
    refine s_bd (κ := (fun (e12 : KM) => kC 107 [none, none, none, none, none, none] [] S e12)) (s_mask [true, true, false, true, true, false] (s_while (c := fun s3 => kC 23 [some (VR (some 355)), some (VR (some 2)), none, some (VI a2), some (VI s3.1), none] [] S s3.2) (fun s3 => ?_) ((0 : Int), q2))) ?_
    · refine s_iload (dt_Gifts_search 14 _ _ _ rfl) rfl ?_
      refine s_aload_n (dt_Gifts_search 15 _ _ _ rfl) rfl ?_
      refine s_getI (c := 12) (j := 5) (dt_Gifts_search 16 _ _ _ rfl) (kf_Gifts_38) (sc_2 hS) rfl ?_
      refine s_if_icmp_ge (tgt := 107) (dt_Gifts_search 17 _ _ _ rfl) rfl ?_ ?_
      · refine s_iconst (dt_Gifts_search 18 _ _ _ rfl) rfl ?_
        refine s_istore (dt_Gifts_search 19 _ _ _ rfl) rfl ?_
        refine s_bd (κ := (fun (e10 : KM) => kC 92 [some (VR (some 355)), some (VR (some 2)), none, some (VI a2), some (VI s3.1), none] [] S e10)) (s_mask [true, true, false, true, true, true] (s_while (c := fun s4 => kC 35 [some (VR (some 355)), some (VR (some 2)), none, some (VI a2), some (VI s3.1), some (VI s4.1)] [] S s4.2) (fun s4 => ?_) ((1 : Int), s3.2))) ?_
        · refine s_iload (dt_Gifts_search 20 _ _ _ rfl) rfl ?_
          refine s_bipush (dt_Gifts_search 21 _ _ _ rfl) rfl ?_
          refine s_if_icmp_gt (tgt := 92) (dt_Gifts_search 22 _ _ _ rfl) rfl ?_ ?_
          · refine s_aload_n (dt_Gifts_search 23 _ _ _ rfl) rfl ?_
            refine s_aload_n (dt_Gifts_search 24 _ _ _ rfl) rfl ?_
            refine s_iload (dt_Gifts_search 25 _ _ _ rfl) rfl ?_
            refine s_iconst (dt_Gifts_search 26 _ _ _ rfl) rfl ?_
            refine s_callO (y := y_Gifts_shift) (Y' := Y_Gifts_shift) (as := [VR (some 355), VR (some 2), VI s3.1, VI (1 : Int)]) (r := fun q => none) (M' := fun q => q) (kInvV (dt_Gifts_search 27 _ _ _ rfl) kin_Gifts_shift 5 rfl (sc_355 hS) kse_Gifts_shift rfl) kl_Gifts_44 md_Gifts_shift rfl rfl (fun q hq => c_Gifts_shift hS s3.1 (1 : Int) s4.2 q hq) (fun q5 => ?_)
            refine s_aload_n (dt_Gifts_search 28 _ _ _ rfl) rfl ?_
            refine s_getR (c := 5) (j := 5) (o := (some 357)) (dt_Gifts_search 29 _ _ _ rfl) (kf_Gifts_15) (sc_355 hS) rfl rfl ?_
            refine s_iconst (dt_Gifts_search 30 _ _ _ rfl) rfl ?_
            refine s_iload (dt_Gifts_search 31 _ _ _ rfl) rfl ?_
            refine s_inv (y := y_X_put) (Y' := Y_X_put) (as := [VR (some 357), VI (0 : Int), VI s3.1]) (r := none) (M' := (putM q5 357 4 (0 : Int) s3.1)) (kInvS (dt_Gifts_search 32 _ _ _ rfl) kst_X_put rfl) kl_Gifts_48 md_X_put rfl rfl (c_X_put hS ⟨(sc_357 hS), by decide⟩ (0 : Int) s3.1 q5) ?_
            refine s_letM (fun M6 => ?_)
            refine s_aload_n (dt_Gifts_search 33 _ _ _ rfl) rfl ?_
            refine s_getR (c := 5) (j := 5) (o := (some 357)) (dt_Gifts_search 34 _ _ _ rfl) (kf_Gifts_15) (sc_355 hS) rfl rfl ?_
            refine s_iconst (dt_Gifts_search 35 _ _ _ rfl) rfl ?_
            refine s_iload (dt_Gifts_search 36 _ _ _ rfl) rfl ?_
            refine s_inv (y := y_X_put) (Y' := Y_X_put) (as := [VR (some 357), VI (1 : Int), VI s4.1]) (r := none) (M' := (putM M6 357 4 (1 : Int) s4.1)) (kInvS (dt_Gifts_search 37 _ _ _ rfl) kst_X_put rfl) kl_Gifts_48 md_X_put rfl rfl (c_X_put hS ⟨(sc_357 hS), by decide⟩ (1 : Int) s4.1 M6) ?_
            refine s_letM (fun M7 => ?_)
            refine s_aload_n (dt_Gifts_search 38 _ _ _ rfl) rfl ?_
            refine s_iconst (dt_Gifts_search 39 _ _ _ rfl) rfl ?_
            refine s_iload_n (dt_Gifts_search 40 _ _ _ rfl) rfl ?_
            refine s_callO (y := y_Gifts_note) (Y' := Y_Gifts_note) (as := [VR (some 355), VI (2 : Int), VI a2]) (r := fun q => none) (M' := fun q => q) (kInvV (dt_Gifts_search 41 _ _ _ rfl) kin_Gifts_note 5 rfl (sc_355 hS) kse_Gifts_note rfl) kl_Gifts_34 md_Gifts_note rfl rfl (fun q hq => c_Gifts_note hS (2 : Int) a2 M7 q hq) (fun q8 => ?_)
            refine s_aload_n (dt_Gifts_search 42 _ _ _ rfl) rfl ?_
            refine s_aload_n (dt_Gifts_search 43 _ _ _ rfl) rfl ?_
            refine s_iload (dt_Gifts_search 44 _ _ _ rfl) rfl ?_
            refine s_iconst (dt_Gifts_search 45 _ _ _ rfl) rfl ?_
            refine s_iadd (dt_Gifts_search 46 _ _ _ rfl) ?_
            refine s_iload_n (dt_Gifts_search 47 _ _ _ rfl) rfl ?_
            refine s_callO (y := y_Gifts_addSecond) (Y' := Y_Gifts_addSecond) (as := [VR (some 355), VR (some 2), VI (w32 (s3.1 + (1 : Int))), VI a2]) (r := fun q => none) (M' := fun q => q) (kInvV (dt_Gifts_search 48 _ _ _ rfl) kin_Gifts_addSecond 5 rfl (sc_355 hS) kse_Gifts_addSecond rfl) kl_Gifts_52 md_Gifts_addSecond rfl rfl (fun q hq => c_Gifts_addSecond hS (w32 (s3.1 + (1 : Int))) a2 q8 q hq) (fun q9 => ?_)
            refine s_iinc (dt_Gifts_search 49 _ _ _ rfl) rfl rfl ?_
            refine s_goto (tgt := 35) (dt_Gifts_search 50 _ _ _ rfl) rfl ?_
            exact s_mask [true, true, false, true, true, true] (s_ret0 rfl)
          · exact s_mask [true, true, false, true, true, false] (s_ret0 rfl)
        intro e10
        refine s_aload_n (dt_Gifts_search 51 _ _ _ rfl) rfl ?_
        refine s_aload_n (dt_Gifts_search 52 _ _ _ rfl) rfl ?_
        refine s_iload (dt_Gifts_search 53 _ _ _ rfl) rfl ?_
        refine s_bipush (dt_Gifts_search 54 _ _ _ rfl) rfl ?_
        refine s_callO (y := y_Gifts_shift) (Y' := Y_Gifts_shift) (as := [VR (some 355), VR (some 2), VI s3.1, VI (-9 : Int)]) (r := fun q => none) (M' := fun q => q) (kInvV (dt_Gifts_search 55 _ _ _ rfl) kin_Gifts_shift 5 rfl (sc_355 hS) kse_Gifts_shift rfl) kl_Gifts_44 md_Gifts_shift rfl rfl (fun q hq => c_Gifts_shift hS s3.1 (-9 : Int) e10 q hq) (fun q11 => ?_)
        refine s_iinc (dt_Gifts_search 56 _ _ _ rfl) rfl rfl ?_
        refine s_goto (tgt := 23) (dt_Gifts_search 57 _ _ _ rfl) rfl ?_
        exact s_mask [true, true, false, true, true, false] (s_ret0 rfl)
      · exact s_mask [false, false, false, false, false, false] (s_ret0 rfl)
    intro e12
    exact s_vret (dt_Gifts_search 58 _ _ _ rfl) rfl rfl
  · exact s_vret (dt_Gifts_search 7 _ _ _ rfl) rfl rfl
theorem c_Gifts_search {S : KS} (hS : KExt 382 S)  (a2 : Int) (M : KM) : ∀ q, f_Gifts_search a2 M = some q → Ctr y_Gifts_search Y_Gifts_search [VR (some 355), VR (some 2), VR (some 349), VI a2] S M (none) S (q) := fun q hq =>
  ctr_of md_Gifts_search (Nat.le_of_ble_eq_true rfl) ⟨Nat.le_refl _, Nat.le_refl _⟩ 2 hq rfl (fun _ G => sim_Gifts_search hS  a2 M)
set_option maxRecDepth 100000 in
theorem sim_X_explained {G : Gam} {S : KS} (hS : KExt 382 S)  (a0 : Int) (M : KM) : Sim G Y_X_explained (f_X_explained a0 M) (kC 0 [some (VR (some 0)), some (VI a0), none] [] S M) (fun (q : Int × KM) => Sum.inr (some (VI q.1), S, q.2)) := by
  unfold f_X_explained
  refine s_aload_n (dt_X_explained 0 _ _ _ rfl) rfl ?_
  refine s_iconst (dt_X_explained 1 _ _ _ rfl) rfl ?_
  refine s_putI (c := 0) (j := 16) (dt_X_explained 2 _ _ _ rfl) kp_X_97 (sc_0 hS) ⟨rfl, rfl⟩ ?_
  refine s_letM (fun M1 => ?_)
  refine s_aload_n (dt_X_explained 3 _ _ _ rfl) rfl ?_
  refine s_getR (c := 0) (j := 13) (o := (some 349)) (dt_X_explained 4 _ _ _ rfl) (kf_X_83) (sc_0 hS) rfl rfl ?_
  refine s_iload_n (dt_X_explained 5 _ _ _ rfl) rfl ?_
  refine s_callO (y := y_Faces_gather) (Y' := Y_Faces_gather) (as := [VR (some 349), VI a0]) (r := fun q => none) (M' := fun q => q) (kInvV (dt_X_explained 6 _ _ _ rfl) kin_Faces_gather 3 rfl (sc_349 hS) kse_Faces_gather rfl) kl_X_390 md_Faces_gather rfl rfl (fun q hq => c_Faces_gather hS a0 M1 q hq) (fun q2 => ?_)
  refine s_aload_n (dt_X_explained 7 _ _ _ rfl) rfl ?_
  refine s_getR (c := 0) (j := 14) (o := (some 355)) (dt_X_explained 8 _ _ _ rfl) (kf_X_90) (sc_0 hS) rfl rfl ?_
  refine s_aload_n (dt_X_explained 9 _ _ _ rfl) rfl ?_
  refine s_getR (c := 0) (j := 2) (o := (some 2)) (dt_X_explained 10 _ _ _ rfl) (kf_X_20) (sc_0 hS) rfl rfl ?_
  refine s_aload_n (dt_X_explained 11 _ _ _ rfl) rfl ?_
  refine s_getR (c := 0) (j := 13) (o := (some 349)) (dt_X_explained 12 _ _ _ rfl) (kf_X_83) (sc_0 hS) rfl rfl ?_
  refine s_iconst (dt_X_explained 13 _ _ _ rfl) rfl ?_
  refine s_callO (y := y_Gifts_search) (Y' := Y_Gifts_search) (as := [VR (some 355), VR (some 2), VR (some 349), VI (-1 : Int)]) (r := fun q => none) (M' := fun q => q) (kInvV (dt_X_explained 14 _ _ _ rfl) kin_Gifts_search 5 rfl (sc_355 hS) kse_Gifts_search rfl) kl_X_392 md_Gifts_search rfl rfl (fun q hq => c_Gifts_search hS (-1 : Int) q2 q hq) (fun q3 => ?_)
  refine s_iconst (dt_X_explained 15 _ _ _ rfl) rfl ?_
  refine s_istore_n (dt_X_explained 16 _ _ _ rfl) rfl ?_
  refine s_bd (κ := (fun (e6 : KM) => kC 63 [some (VR (some 0)), none, none] [] S e6)) (s_mask [true, false, true] (s_while (c := fun s4 => kC 31 [some (VR (some 0)), none, some (VI s4.1)] [] S s4.2) (fun s4 => ?_) ((0 : Int), q3))) ?_
  · refine s_iload_n (dt_X_explained 17 _ _ _ rfl) rfl ?_
    refine s_aload_n (dt_X_explained 18 _ _ _ rfl) rfl ?_
    refine s_getR (c := 0) (j := 14) (o := (some 355)) (dt_X_explained 19 _ _ _ rfl) (kf_X_90) (sc_0 hS) rfl rfl ?_
    refine s_getI (c := 5) (j := 1) (dt_X_explained 20 _ _ _ rfl) (kf_X_396) (sc_355 hS) rfl ?_
    refine s_if_icmp_ge (tgt := 63) (dt_X_explained 21 _ _ _ rfl) rfl ?_ ?_
    · refine s_aload_n (dt_X_explained 22 _ _ _ rfl) rfl ?_
      refine s_aload_n (dt_X_explained 23 _ _ _ rfl) rfl ?_
      refine s_getR (c := 0) (j := 14) (o := (some 355)) (dt_X_explained 24 _ _ _ rfl) (kf_X_90) (sc_0 hS) rfl rfl ?_
      refine s_getR (c := 5) (j := 2) (o := (some 356)) (dt_X_explained 25 _ _ _ rfl) (kf_X_399) (sc_355 hS) rfl rfl ?_
      refine s_iload_n (dt_X_explained 26 _ _ _ rfl) rfl ?_
      refine s_inv (y := y_X_at) (Y' := Y_X_at) (as := [VR (some 356), VI s4.1]) (r := some (VI (atM s4.2 356 4 s4.1))) (M' := s4.2) (kInvS (dt_X_explained 27 _ _ _ rfl) kst_X_at rfl) kl_X_140 md_X_at rfl rfl (c_X_at hS ⟨(sc_356 hS), by decide⟩ s4.1 s4.2) ?_
      refine s_callO (y := y_X_lay) (Y' := Y_X_lay) (as := [VR (some 0), VI (atM s4.2 356 4 s4.1)]) (r := fun q => none) (M' := fun q => q) (kInvV (dt_X_explained 28 _ _ _ rfl) kin_X_lay 0 rfl (sc_0 hS) kse_X_lay rfl) kl_X_351 md_X_lay rfl rfl (fun q hq => c_X_lay hS (atM s4.2 356 4 s4.1) s4.2 q hq) (fun q5 => ?_)
      refine s_iinc (dt_X_explained 29 _ _ _ rfl) rfl rfl ?_
      refine s_goto (tgt := 31) (dt_X_explained 30 _ _ _ rfl) rfl ?_
      exact s_mask [true, false, true] (s_ret0 rfl)
    · exact s_mask [true, false, false] (s_ret0 rfl)
  intro e6
  refine s_aload_n (dt_X_explained 31 _ _ _ rfl) rfl ?_
  refine s_getR (c := 0) (j := 14) (o := (some 355)) (dt_X_explained 32 _ _ _ rfl) (kf_X_90) (sc_0 hS) rfl rfl ?_
  refine s_getI (c := 5) (j := 0) (dt_X_explained 33 _ _ _ rfl) (kf_X_402) (sc_355 hS) rfl ?_
  exact s_iret (dt_X_explained 34 _ _ _ rfl) rfl rfl
theorem c_X_explained {S : KS} (hS : KExt 382 S)  (a0 : Int) (M : KM) : ∀ q, f_X_explained a0 M = some q → Ctr y_X_explained Y_X_explained [VR (some 0), VI a0] S M (some (VI q.1)) S (q.2) := fun q hq =>
  ctr_of md_X_explained (Nat.le_of_ble_eq_true rfl) ⟨Nat.le_refl _, Nat.le_refl _⟩ 1 hq rfl (fun _ G => sim_X_explained hS  a0 M)
set_option maxRecDepth 100000 in
theorem sim_X_sure {G : Gam} {S : KS} (hS : KExt 382 S)  (a0 : Int) (a1 : Int) (M : KM) : Sim G Y_X_sure (f_X_sure a0 a1 M) (kC 0 [some (VR (some 0)), some (VI a0), some (VI a1)] [] S M) (fun (q : Int × KM) => Sum.inr (some (VI q.1), S, q.2)) := by
  unfold f_X_sure
  refine s_aload_n (dt_X_sure 0 _ _ _ rfl) rfl ?_
  refine s_iload_n (dt_X_sure 1 _ _ _ rfl) rfl ?_
  refine s_callO (y := y_X_isPerson) (Y' := Y_X_isPerson) (as := [VR (some 0), VI a0]) (r := fun q => some (VI q)) (M' := fun q => M) (kInvV (dt_X_sure 2 _ _ _ rfl) kin_X_isPerson 0 rfl (sc_0 hS) kse_X_isPerson rfl) kl_X_133 md_X_isPerson rfl rfl (fun q hq => c_X_isPerson hS a0 M q hq) (fun q1 => ?_)
  refine s_if_ne (tgt := 10) (dt_X_sure 3 _ _ _ rfl) rfl ?_ ?_
  · refine s_iconst (dt_X_sure 4 _ _ _ rfl) rfl ?_
    exact s_iret (dt_X_sure 5 _ _ _ rfl) rfl rfl
  · refine s_aload_n (dt_X_sure 6 _ _ _ rfl) rfl ?_
    refine s_getR (c := 0) (j := 13) (o := (some 349)) (dt_X_sure 7 _ _ _ rfl) (kf_X_83) (sc_0 hS) rfl rfl ?_
    refine s_iload_n (dt_X_sure 8 _ _ _ rfl) rfl ?_
    refine s_callO (y := y_Faces_gather) (Y' := Y_Faces_gather) (as := [VR (some 349), VI a1]) (r := fun q => none) (M' := fun q => q) (kInvV (dt_X_sure 9 _ _ _ rfl) kin_Faces_gather 3 rfl (sc_349 hS) kse_Faces_gather rfl) kl_X_390 md_Faces_gather rfl rfl (fun q hq => c_Faces_gather hS a1 M q hq) (fun q2 => ?_)
    refine s_aload_n (dt_X_sure 10 _ _ _ rfl) rfl ?_
    refine s_getR (c := 0) (j := 14) (o := (some 355)) (dt_X_sure 11 _ _ _ rfl) (kf_X_90) (sc_0 hS) rfl rfl ?_
    refine s_aload_n (dt_X_sure 12 _ _ _ rfl) rfl ?_
    refine s_getR (c := 0) (j := 2) (o := (some 2)) (dt_X_sure 13 _ _ _ rfl) (kf_X_20) (sc_0 hS) rfl rfl ?_
    refine s_aload_n (dt_X_sure 14 _ _ _ rfl) rfl ?_
    refine s_getR (c := 0) (j := 13) (o := (some 349)) (dt_X_sure 15 _ _ _ rfl) (kf_X_83) (sc_0 hS) rfl rfl ?_
    refine s_iload_n (dt_X_sure 16 _ _ _ rfl) rfl ?_
    refine s_callO (y := y_Gifts_search) (Y' := Y_Gifts_search) (as := [VR (some 355), VR (some 2), VR (some 349), VI a0]) (r := fun q => none) (M' := fun q => q) (kInvV (dt_X_sure 17 _ _ _ rfl) kin_Gifts_search 5 rfl (sc_355 hS) kse_Gifts_search rfl) kl_X_392 md_Gifts_search rfl rfl (fun q hq => c_Gifts_search hS a0 q2 q hq) (fun q3 => ?_)
    refine s_aload_n (dt_X_sure 18 _ _ _ rfl) rfl ?_
    refine s_getR (c := 0) (j := 14) (o := (some 355)) (dt_X_sure 19 _ _ _ rfl) (kf_X_90) (sc_0 hS) rfl rfl ?_
    refine s_getI (c := 5) (j := 0) (dt_X_sure 20 _ _ _ rfl) (kf_X_402) (sc_355 hS) rfl ?_
    refine s_if_ne (tgt := 46) (dt_X_sure 21 _ _ _ rfl) rfl ?_ ?_
    · refine s_iconst (dt_X_sure 22 _ _ _ rfl) rfl ?_
      exact s_iret (dt_X_sure 23 _ _ _ rfl) rfl rfl
    · refine s_aload_n (dt_X_sure 24 _ _ _ rfl) rfl ?_
      refine s_getR (c := 0) (j := 14) (o := (some 355)) (dt_X_sure 25 _ _ _ rfl) (kf_X_90) (sc_0 hS) rfl rfl ?_
      refine s_getI (c := 5) (j := 4) (dt_X_sure 26 _ _ _ rfl) (kf_X_405) (sc_355 hS) rfl ?_
      refine s_bd (κ := fun t4 => kC 68 [none, none, none] [VI t4] S q3) ?_ (fun t4 => ?_)
      · refine s_if_eq (tgt := 61) (dt_X_sure 27 _ _ _ rfl) rfl ?_ ?_
        · refine s_aload_n (dt_X_sure 30 _ _ _ rfl) rfl ?_
          refine s_getR (c := 0) (j := 14) (o := (some 355)) (dt_X_sure 31 _ _ _ rfl) (kf_X_90) (sc_0 hS) rfl rfl ?_
          refine s_getI (c := 5) (j := 3) (dt_X_sure 32 _ _ _ rfl) (kf_X_409) (sc_355 hS) rfl ?_
          exact s_mask [false, false, false] (s_ret0 rfl)
        · refine s_bipush (dt_X_sure 28 _ _ _ rfl) rfl ?_
          refine s_goto (tgt := 68) (dt_X_sure 29 _ _ _ rfl) rfl ?_
          exact s_mask [false, false, false] (s_ret0 rfl)
      exact s_iret (dt_X_sure 33 _ _ _ rfl) rfl rfl
theorem c_X_sure {S : KS} (hS : KExt 382 S)  (a0 : Int) (a1 : Int) (M : KM) : ∀ q, f_X_sure a0 a1 M = some q → Ctr y_X_sure Y_X_sure [VR (some 0), VI a0, VI a1] S M (some (VI q.1)) S (q.2) := fun q hq =>
  ctr_of md_X_sure (Nat.le_of_ble_eq_true rfl) ⟨Nat.le_refl _, Nat.le_refl _⟩ 0 hq rfl (fun _ G => sim_X_sure hS  a0 a1 M)
set_option maxRecDepth 100000 in
theorem sim_Faces_forgedBy {G : Gam} {S : KS} (hS : KExt 382 S)   (M : KM) : Sim G Y_Faces_forgedBy (f_Faces_forgedBy  M) (kC 0 [some (VR (some 349)), some (VR (some 2)), none, none] [] S M) (fun (q : Int) => Sum.inr (some (VI q), S, M)) := by
  unfold f_Faces_forgedBy
  refine s_iconst (dt_Faces_forgedBy 0 _ _ _ rfl) rfl ?_
  refine s_istore_n (dt_Faces_forgedBy 1 _ _ _ rfl) rfl ?_
  refine s_iconst (dt_Faces_forgedBy 2 _ _ _ rfl) rfl ?_
  refine s_istore_n (dt_Faces_forgedBy 3 _ _ _ rfl) rfl ?_
  refine s_bd (κ := (fun (e4 : Int) => kC 54 [some (VR (some 349)), none, some (VI e4), none] [] S M)) (s_mask [true, true, true, true] (s_while (c := fun s1 => kC 4 [some (VR (some 349)), some (VR (some 2)), some (VI s1.1), some (VI s1.2)] [] S M) (fun s1 => ?_) ((0 : Int), (0 : Int)))) ?_
  · refine s_iload_n (dt_Faces_forgedBy 4 _ _ _ rfl) rfl ?_
    refine s_aload_n (dt_Faces_forgedBy 5 _ _ _ rfl) rfl ?_
    refine s_getI (c := 12) (j := 0) (dt_Faces_forgedBy 6 _ _ _ rfl) (kf_Faces_57) (sc_2 hS) rfl ?_
    refine s_if_icmp_ge (tgt := 54) (dt_Faces_forgedBy 7 _ _ _ rfl) rfl ?_ ?_
    · refine s_aload_n (dt_Faces_forgedBy 8 _ _ _ rfl) rfl ?_
      refine s_getI (c := 3) (j := 6) (dt_Faces_forgedBy 9 _ _ _ rfl) (kf_Faces_31) (sc_349 hS) rfl ?_
      refine s_iload_n (dt_Faces_forgedBy 10 _ _ _ rfl) rfl ?_
      refine s_inv (y := y_X_isIn) (Y' := Y_X_isIn) (as := [VI (M 349 6), VI s1.2]) (r := some (VI (isInV (M 349 6) s1.2))) (M' := M) (kInvS (dt_Faces_forgedBy 11 _ _ _ rfl) kst_X_isIn rfl) kl_Faces_53 md_X_isIn rfl rfl (c_X_isIn hS (M 349 6) s1.2 M) ?_
      refine s_bd (κ := fun t3 => kC 48 [some (VR (some 349)), some (VR (some 2)), some (VI t3), some (VI s1.2)] [] S M) ?_ (fun t3 => ?_)
      · refine s_if_eq (tgt := 48) (dt_Faces_forgedBy 12 _ _ _ rfl) rfl ?_ ?_
        · exact s_mask [true, true, true, true] (s_ret0 rfl)
        · refine s_aload_n (dt_Faces_forgedBy 13 _ _ _ rfl) rfl ?_
          refine s_getR (c := 3) (j := 7) (o := (some 354)) (dt_Faces_forgedBy 14 _ _ _ rfl) (kf_Faces_34) (sc_349 hS) rfl rfl ?_
          refine s_iload_n (dt_Faces_forgedBy 15 _ _ _ rfl) rfl ?_
          refine s_inv (y := y_X_at) (Y' := Y_X_at) (as := [VR (some 354), VI s1.2]) (r := some (VI (atM M 354 8 s1.2))) (M' := M) (kInvS (dt_Faces_forgedBy 16 _ _ _ rfl) kst_X_at rfl) kl_Faces_45 md_X_at rfl rfl (c_X_at hS ⟨(sc_354 hS), by decide⟩ s1.2 M) ?_
          refine s_aload_n (dt_Faces_forgedBy 17 _ _ _ rfl) rfl ?_
          refine s_getR (c := 12) (j := 1) (o := (some 3)) (dt_Faces_forgedBy 18 _ _ _ rfl) (kf_Faces_62) (sc_2 hS) rfl rfl ?_
          refine s_iload_n (dt_Faces_forgedBy 19 _ _ _ rfl) rfl ?_
          refine s_inv (y := y_X_at) (Y' := Y_X_at) (as := [VR (some 3), VI s1.2]) (r := some (VI (atM M 3 8 s1.2))) (M' := M) (kInvS (dt_Faces_forgedBy 20 _ _ _ rfl) kst_X_at rfl) kl_Faces_45 md_X_at rfl rfl (c_X_at hS ⟨(sc_3 hS), by decide⟩ s1.2 M) ?_
          refine s_if_icmp_eq (tgt := 48) (dt_Faces_forgedBy 21 _ _ _ rfl) rfl ?_ ?_
          · exact s_mask [true, true, true, true] (s_ret0 rfl)
          · refine s_iload_n (dt_Faces_forgedBy 22 _ _ _ rfl) rfl ?_
            refine s_iconst (dt_Faces_forgedBy 23 _ _ _ rfl) rfl ?_
            refine s_iload_n (dt_Faces_forgedBy 24 _ _ _ rfl) rfl ?_
            refine s_ishl (dt_Faces_forgedBy 25 _ _ _ rfl) ?_
            refine s_ior (dt_Faces_forgedBy 26 _ _ _ rfl) ?_
            refine s_letI (fun v2 => ?_)
            refine s_istore_n (dt_Faces_forgedBy 27 _ _ _ rfl) rfl ?_
            exact s_mask [true, true, true, true] (s_ret0 rfl)
      refine s_iinc (dt_Faces_forgedBy 28 _ _ _ rfl) rfl rfl ?_
      refine s_goto (tgt := 4) (dt_Faces_forgedBy 29 _ _ _ rfl) rfl ?_
      exact s_mask [true, true, true, true] (s_ret0 rfl)
    · exact s_mask [true, false, true, false] (s_ret0 rfl)
  intro e4
  refine s_aload_n (dt_Faces_forgedBy 30 _ _ _ rfl) rfl ?_
  refine s_getI (c := 3) (j := 8) (dt_Faces_forgedBy 31 _ _ _ rfl) (kf_Faces_37) (sc_349 hS) rfl ?_
  refine s_bd (κ := fun t6 => kC 74 [none, none, none, none] [VI t6] S M) ?_ (fun t6 => ?_)
  · refine s_if_ne (tgt := 73) (dt_Faces_forgedBy 32 _ _ _ rfl) rfl ?_ ?_
    · refine s_iload_n (dt_Faces_forgedBy 33 _ _ _ rfl) rfl ?_
      refine s_callO (y := y_JI_bitCount) (Y' := Y_JI_bitCount) (as := [VI e4]) (r := fun q => some (VI q)) (M' := fun q => M) (kInvS (dt_Faces_forgedBy 34 _ _ _ rfl) kst_JI_bitCount rfl) kl_Faces_63 md_JI_bitCount rfl rfl (fun q hq => c_JI_bitCount hS e4 M q hq) (fun q5 => ?_)
      refine s_iconst (dt_Faces_forgedBy 35 _ _ _ rfl) rfl ?_
      refine s_if_icmp_ne (tgt := 73) (dt_Faces_forgedBy 36 _ _ _ rfl) rfl ?_ ?_
      · refine s_iload_n (dt_Faces_forgedBy 37 _ _ _ rfl) rfl ?_
        refine s_goto (tgt := 74) (dt_Faces_forgedBy 38 _ _ _ rfl) rfl ?_
        exact s_mask [false, false, false, false] (s_ret0 rfl)
      · refine s_iconst (dt_Faces_forgedBy 39 _ _ _ rfl) rfl ?_
        exact s_mask [false, false, false, false] (s_ret0 rfl)
    · refine s_iconst (dt_Faces_forgedBy 39 _ _ _ rfl) rfl ?_
      exact s_mask [false, false, false, false] (s_ret0 rfl)
  exact s_iret (dt_Faces_forgedBy 40 _ _ _ rfl) rfl rfl
theorem c_Faces_forgedBy {S : KS} (hS : KExt 382 S)   (M : KM) : ∀ q, f_Faces_forgedBy  M = some q → Ctr y_Faces_forgedBy Y_Faces_forgedBy [VR (some 349), VR (some 2)] S M (some (VI q)) S (M) := fun q hq =>
  ctr_of md_Faces_forgedBy (Nat.le_of_ble_eq_true rfl) ⟨Nat.le_refl _, Nat.le_refl _⟩ 2 hq rfl (fun _ G => sim_Faces_forgedBy hS   M)
set_option maxRecDepth 100000 in
theorem sim_X_forged {G : Gam} {S : KS} (hS : KExt 382 S)  (a0 : Int) (M : KM) : Sim G Y_X_forged (f_X_forged a0 M) (kC 0 [some (VR (some 0)), some (VI a0)] [] S M) (fun (q : Int × KM) => Sum.inr (some (VI q.1), S, q.2)) := by
  unfold f_X_forged
  refine s_aload_n (dt_X_forged 0 _ _ _ rfl) rfl ?_
  refine s_getR (c := 0) (j := 13) (o := (some 349)) (dt_X_forged 1 _ _ _ rfl) (kf_X_83) (sc_0 hS) rfl rfl ?_
  refine s_iload_n (dt_X_forged 2 _ _ _ rfl) rfl ?_
  refine s_callO (y := y_Faces_gather) (Y' := Y_Faces_gather) (as := [VR (some 349), VI a0]) (r := fun q => none) (M' := fun q => q) (kInvV (dt_X_forged 3 _ _ _ rfl) kin_Faces_gather 3 rfl (sc_349 hS) kse_Faces_gather rfl) kl_X_390 md_Faces_gather rfl rfl (fun q hq => c_Faces_gather hS a0 M q hq) (fun q1 => ?_)
  refine s_aload_n (dt_X_forged 4 _ _ _ rfl) rfl ?_
  refine s_getR (c := 0) (j := 13) (o := (some 349)) (dt_X_forged 5 _ _ _ rfl) (kf_X_83) (sc_0 hS) rfl rfl ?_
  refine s_aload_n (dt_X_forged 6 _ _ _ rfl) rfl ?_
  refine s_getR (c := 0) (j := 2) (o := (some 2)) (dt_X_forged 7 _ _ _ rfl) (kf_X_20) (sc_0 hS) rfl rfl ?_
  refine s_callO (y := y_Faces_forgedBy) (Y' := Y_Faces_forgedBy) (as := [VR (some 349), VR (some 2)]) (r := fun q => some (VI q)) (M' := fun q => q1) (kInvV (dt_X_forged 8 _ _ _ rfl) kin_Faces_forgedBy 3 rfl (sc_349 hS) kse_Faces_forgedBy rfl) kl_X_412 md_Faces_forgedBy rfl rfl (fun q hq => c_Faces_forgedBy hS q1 q hq) (fun q2 => ?_)
  exact s_iret (dt_X_forged 9 _ _ _ rfl) rfl rfl
theorem c_X_forged {S : KS} (hS : KExt 382 S)  (a0 : Int) (M : KM) : ∀ q, f_X_forged a0 M = some q → Ctr y_X_forged Y_X_forged [VR (some 0), VI a0] S M (some (VI q.1)) S (q.2) := fun q hq =>
  ctr_of md_X_forged (Nat.le_of_ble_eq_true rfl) ⟨Nat.le_refl _, Nat.le_refl _⟩ 0 hq rfl (fun _ G => sim_X_forged hS  a0 M)
