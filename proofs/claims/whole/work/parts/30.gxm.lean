noncomputable def f_Gifts_addSecond (a1 : Int) (a2 : Int) (M : KM) : Option (KM) := (if M 355 9 ≤ 2 then Option.bind (whileO (σ := Int × KM) (ε := KM) (fun s1 => (if s1.1 < s1.2 2 5 then Option.bind (whileO (σ := Int × KM) (ε := KM) (fun s2 => (if s2.1 ≤ 9 then Option.bind (f_Gifts_shift s1.1 1 s2.2) (fun q3 => letM_ (putM q3 357 4 2 s1.1) (fun M4 => letM_ (putM M4 357 4 3 s2.1) (fun M5 => Option.bind (f_Gifts_note 4 a2 M5) (fun q6 => some (Sum.inl (w32 (s2.1 + 1), q6)))))) else some (Sum.inr s2.2))) (1, s1.2)) (fun e7 => Option.bind (f_Gifts_shift s1.1 (-9) e7) (fun q8 => some (Sum.inl (w32 (s1.1 + 1), q8)))) else some (Sum.inr s1.2))) (a1, M)) (fun e9 => some e9) else some M)
set_option maxRecDepth 100000 in
theorem sim_Gifts_addSecond {G : Gam} {S : KS} (hS : KExt 382 S)  (a1 : Int) (a2 : Int) (M : KM) : Sim G Y_Gifts_addSecond (f_Gifts_addSecond a1 a2 M) (kC 0 [some (VR (some 355)), some (VR (some 2)), some (VI a1), some (VI a2), none, none] [] S M) (fun (q : KM) => Sum.inr (none, S, q)) := by
  unfold f_Gifts_addSecond
  refine s_aload_n (dt_Gifts_addSecond 0 _ _ _ rfl) rfl ?_
  refine s_getI (dt_Gifts_addSecond 1 _ _ _ rfl) (kf_Gifts_79) (sc_355 hS) rfl ?_
  refine s_iconst (dt_Gifts_addSecond 2 _ _ _ rfl) rfl ?_
  refine s_if_icmp_le (tgt := 9) (dt_Gifts_addSecond 3 _ _ _ rfl) rfl ?_ ?_
  · refine s_iload_n (dt_Gifts_addSecond 5 _ _ _ rfl) rfl ?_
    refine s_istore (dt_Gifts_addSecond 6 _ _ _ rfl) rfl ?_
    refine s_bd (κ := (fun (e9 : KM) => kC 86 [none, none, none, none, none, none] [] S e9)) (s_mask [true, true, false, true, true, false] (s_while (c := fun s1 => kC 12 [some (VR (some 355)), some (VR (some 2)), none, some (VI a2), some (VI s1.1), none] [] S s1.2) (fun s1 => ?_) (a1, M))) ?_
    · refine s_iload (dt_Gifts_addSecond 7 _ _ _ rfl) rfl ?_
      refine s_aload_n (dt_Gifts_addSecond 8 _ _ _ rfl) rfl ?_
      refine s_getI (dt_Gifts_addSecond 9 _ _ _ rfl) (kf_Gifts_38) (sc_2 hS) rfl ?_
      refine s_if_icmp_ge (tgt := 86) (dt_Gifts_addSecond 10 _ _ _ rfl) rfl ?_ ?_
      · refine s_iconst (dt_Gifts_addSecond 11 _ _ _ rfl) rfl ?_
        refine s_istore (dt_Gifts_addSecond 12 _ _ _ rfl) rfl ?_
        refine s_bd (κ := (fun (e7 : KM) => kC 71 [some (VR (some 355)), some (VR (some 2)), none, some (VI a2), some (VI s1.1), none] [] S e7)) (s_mask [true, true, false, true, true, true] (s_while (c := fun s2 => kC 24 [some (VR (some 355)), some (VR (some 2)), none, some (VI a2), some (VI s1.1), some (VI s2.1)] [] S s2.2) (fun s2 => ?_) (1, s1.2))) ?_
        · refine s_iload (dt_Gifts_addSecond 13 _ _ _ rfl) rfl ?_
          refine s_bipush (dt_Gifts_addSecond 14 _ _ _ rfl) rfl ?_
          refine s_if_icmp_gt (tgt := 71) (dt_Gifts_addSecond 15 _ _ _ rfl) rfl ?_ ?_
          · refine s_aload_n (dt_Gifts_addSecond 16 _ _ _ rfl) rfl ?_
            refine s_aload_n (dt_Gifts_addSecond 17 _ _ _ rfl) rfl ?_
            refine s_iload (dt_Gifts_addSecond 18 _ _ _ rfl) rfl ?_
            refine s_iconst (dt_Gifts_addSecond 19 _ _ _ rfl) rfl ?_
            refine s_callO (y := y_Gifts_shift) (Y' := Y_Gifts_shift) (as := [VR (some 355), VR (some 2), VI s1.1, VI 1]) (r := fun q => none) (M' := fun q => q) (kInvV (dt_Gifts_addSecond 20 _ _ _ rfl) kin_Gifts_shift 5 rfl (sc_355 hS) kse_Gifts_shift rfl) kl_Gifts_44 md_Gifts_shift rfl rfl (fun q hq => c_Gifts_shift hS s1.1 1 s2.2 q hq) (fun q3 => ?_)
            refine s_aload_n (dt_Gifts_addSecond 21 _ _ _ rfl) rfl ?_
            refine s_getR (o := (some 357)) (dt_Gifts_addSecond 22 _ _ _ rfl) (kf_Gifts_15) (sc_355 hS) rfl rfl ?_
            refine s_iconst (dt_Gifts_addSecond 23 _ _ _ rfl) rfl ?_
            refine s_iload (dt_Gifts_addSecond 24 _ _ _ rfl) rfl ?_
            refine s_inv (y := y_X_put) (Y' := Y_X_put) (as := [VR (some 357), VI 2, VI s1.1]) (r := none) (M' := (putM q3 357 4 2 s1.1)) (kInvS (dt_Gifts_addSecond 25 _ _ _ rfl) kst_X_put rfl) kl_Gifts_48 md_X_put rfl rfl (c_X_put hS ⟨(sc_357 hS), by decide⟩ 2 s1.1 q3) ?_
            refine s_letM (fun M4 => ?_)
            refine s_aload_n (dt_Gifts_addSecond 26 _ _ _ rfl) rfl ?_
            refine s_getR (o := (some 357)) (dt_Gifts_addSecond 27 _ _ _ rfl) (kf_Gifts_15) (sc_355 hS) rfl rfl ?_
            refine s_iconst (dt_Gifts_addSecond 28 _ _ _ rfl) rfl ?_
            refine s_iload (dt_Gifts_addSecond 29 _ _ _ rfl) rfl ?_
            refine s_inv (y := y_X_put) (Y' := Y_X_put) (as := [VR (some 357), VI 3, VI s2.1]) (r := none) (M' := (putM M4 357 4 3 s2.1)) (kInvS (dt_Gifts_addSecond 30 _ _ _ rfl) kst_X_put rfl) kl_Gifts_48 md_X_put rfl rfl (c_X_put hS ⟨(sc_357 hS), by decide⟩ 3 s2.1 M4) ?_
            refine s_letM (fun M5 => ?_)
            refine s_aload_n (dt_Gifts_addSecond 31 _ _ _ rfl) rfl ?_
            refine s_iconst (dt_Gifts_addSecond 32 _ _ _ rfl) rfl ?_
            refine s_iload_n (dt_Gifts_addSecond 33 _ _ _ rfl) rfl ?_
            refine s_callO (y := y_Gifts_note) (Y' := Y_Gifts_note) (as := [VR (some 355), VI 4, VI a2]) (r := fun q => none) (M' := fun q => q) (kInvV (dt_Gifts_addSecond 34 _ _ _ rfl) kin_Gifts_note 5 rfl (sc_355 hS) kse_Gifts_note rfl) kl_Gifts_34 md_Gifts_note rfl rfl (fun q hq => c_Gifts_note hS 4 a2 M5 q hq) (fun q6 => ?_)
            refine s_iinc (dt_Gifts_addSecond 35 _ _ _ rfl) rfl rfl ?_
            refine s_goto (tgt := 24) (dt_Gifts_addSecond 36 _ _ _ rfl) rfl ?_
            exact s_mask [true, true, false, true, true, true] (s_ret0 rfl)
          · exact s_mask [true, true, false, true, true, false] (s_ret0 rfl)
        intro e7
        refine s_aload_n (dt_Gifts_addSecond 37 _ _ _ rfl) rfl ?_
        refine s_aload_n (dt_Gifts_addSecond 38 _ _ _ rfl) rfl ?_
        refine s_iload (dt_Gifts_addSecond 39 _ _ _ rfl) rfl ?_
        refine s_bipush (dt_Gifts_addSecond 40 _ _ _ rfl) rfl ?_
        refine s_callO (y := y_Gifts_shift) (Y' := Y_Gifts_shift) (as := [VR (some 355), VR (some 2), VI s1.1, VI (-9)]) (r := fun q => none) (M' := fun q => q) (kInvV (dt_Gifts_addSecond 41 _ _ _ rfl) kin_Gifts_shift 5 rfl (sc_355 hS) kse_Gifts_shift rfl) kl_Gifts_44 md_Gifts_shift rfl rfl (fun q hq => c_Gifts_shift hS s1.1 (-9) e7 q hq) (fun q8 => ?_)
        refine s_iinc (dt_Gifts_addSecond 42 _ _ _ rfl) rfl rfl ?_
        refine s_goto (tgt := 12) (dt_Gifts_addSecond 43 _ _ _ rfl) rfl ?_
        exact s_mask [true, true, false, true, true, false] (s_ret0 rfl)
      · exact s_mask [false, false, false, false, false, false] (s_ret0 rfl)
    intro e9
    exact s_vret (dt_Gifts_addSecond 44 _ _ _ rfl) rfl rfl
  · exact s_vret (dt_Gifts_addSecond 4 _ _ _ rfl) rfl rfl
theorem c_Gifts_addSecond {S : KS} (hS : KExt 382 S)  (a1 : Int) (a2 : Int) (M : KM) : ∀ q, f_Gifts_addSecond a1 a2 M = some q → Ctr y_Gifts_addSecond Y_Gifts_addSecond [VR (some 355), VR (some 2), VI a1, VI a2] S M (none) S (q) := fun q hq =>
  ctr_of md_Gifts_addSecond (Nat.le_of_ble_eq_true rfl) ⟨Nat.le_refl _, Nat.le_refl _⟩ 2 hq rfl (fun _ G => sim_Gifts_addSecond hS  a1 a2 M)
noncomputable def f_Gifts_begin  (M : KM) : Option (KM) := letM_ (mupd M 355 0 0) (fun M1 => letM_ (mupd M1 355 1 0) (fun M2 => letM_ (mupd M2 355 3 0) (fun M3 => (if 0 ≤ 0 ∧ 0 ≤ 1 then letM_ (mupd M3 355 4 0) (fun M4 => letM_ (mupd M4 355 8 (M4 349 6)) (fun M5 => letM_ (mcp M5 354 359 (min 8 8)) (fun M6 => letM_ (mcp M6 3 358 (min 8 8)) (fun M7 => letM_ (mupd M7 355 9 0) (fun M8 => Option.bind (whileO (σ := Int × KM) (ε := KM) (fun s9 => (if s9.1 < s9.2 2 0 then Option.bind (f_Gifts_isWrong s9.1 s9.2) (fun q10 => Option.bind ((if q10 = 0 then some 0 else some 1) : Option (Int)) (fun t11 => letM_ (mupd s9.2 355 9 (w32 ((s9.2 355 9) + t11))) (fun M12 => some (Sum.inl (w32 (s9.1 + 1), M12))))) else some (Sum.inr s9.2))) (0, M8)) (fun e13 => some e13)))))) else none))))
set_option maxRecDepth 100000 in
theorem sim_Gifts_begin {G : Gam} {S : KS} (hS : KExt 382 S)   (M : KM) : Sim G Y_Gifts_begin (f_Gifts_begin  M) (kC 0 [some (VR (some 355)), some (VR (some 2)), some (VR (some 349)), none] [] S M) (fun (q : KM) => Sum.inr (none, S, q)) := by
  unfold f_Gifts_begin
  refine s_aload_n (dt_Gifts_begin 0 _ _ _ rfl) rfl ?_
  refine s_iconst (dt_Gifts_begin 1 _ _ _ rfl) rfl ?_
  refine s_putI (dt_Gifts_begin 2 _ _ _ rfl) kp_Gifts_55 (sc_355 hS) ⟨rfl, rfl⟩ ?_
  refine s_letM (fun M1 => ?_)
  refine s_aload_n (dt_Gifts_begin 3 _ _ _ rfl) rfl ?_
  refine s_iconst (dt_Gifts_begin 4 _ _ _ rfl) rfl ?_
  refine s_putI (dt_Gifts_begin 5 _ _ _ rfl) kp_Gifts_58 (sc_355 hS) ⟨rfl, rfl⟩ ?_
  refine s_letM (fun M2 => ?_)
  refine s_aload_n (dt_Gifts_begin 6 _ _ _ rfl) rfl ?_
  refine s_iconst (dt_Gifts_begin 7 _ _ _ rfl) rfl ?_
  refine s_putI (dt_Gifts_begin 8 _ _ _ rfl) kp_Gifts_61 (sc_355 hS) ⟨rfl, rfl⟩ ?_
  refine s_letM (fun M3 => ?_)
  refine s_aload_n (dt_Gifts_begin 9 _ _ _ rfl) rfl ?_
  refine s_iconst (dt_Gifts_begin 10 _ _ _ rfl) rfl ?_
  refine s_putZ (dt_Gifts_begin 11 _ _ _ rfl) kp_Gifts_64 (sc_355 hS) ⟨rfl, rfl⟩ ?_
  refine s_letM (fun M4 => ?_)
  refine s_aload_n (dt_Gifts_begin 12 _ _ _ rfl) rfl ?_
  refine s_aload_n (dt_Gifts_begin 13 _ _ _ rfl) rfl ?_
  refine s_getI (dt_Gifts_begin 14 _ _ _ rfl) (kf_Gifts_67) (sc_349 hS) rfl ?_
  refine s_putI (dt_Gifts_begin 15 _ _ _ rfl) kp_Gifts_70 (sc_355 hS) ⟨rfl, rfl⟩ ?_
  refine s_letM (fun M5 => ?_)
  refine s_aload_n (dt_Gifts_begin 16 _ _ _ rfl) rfl ?_
  refine s_getR (o := (some 354)) (dt_Gifts_begin 17 _ _ _ rfl) (kf_Gifts_71) (sc_349 hS) rfl rfl ?_
  refine s_aload_n (dt_Gifts_begin 18 _ _ _ rfl) rfl ?_
  refine s_getR (o := (some 359)) (dt_Gifts_begin 19 _ _ _ rfl) (kf_Gifts_21) (sc_355 hS) rfl rfl ?_
  refine s_inv (y := y_X_copyRow) (Y' := Y_X_copyRow) (as := [VR (some 354), VR (some 359)]) (r := none) (M' := (mcp M5 354 359 (min 8 8))) (kInvS (dt_Gifts_begin 20 _ _ _ rfl) kst_X_copyRow rfl) kl_Gifts_72 md_X_copyRow rfl rfl (c_X_copyRow hS ⟨(sc_354 hS), by decide⟩ ⟨(sc_359 hS), by decide⟩ M5) ?_
  refine s_letM (fun M6 => ?_)
  refine s_aload_n (dt_Gifts_begin 21 _ _ _ rfl) rfl ?_
  refine s_getR (o := (some 3)) (dt_Gifts_begin 22 _ _ _ rfl) (kf_Gifts_76) (sc_2 hS) rfl rfl ?_
  refine s_aload_n (dt_Gifts_begin 23 _ _ _ rfl) rfl ?_
  refine s_getR (o := (some 358)) (dt_Gifts_begin 24 _ _ _ rfl) (kf_Gifts_18) (sc_355 hS) rfl rfl ?_
  refine s_inv (y := y_X_copyRow) (Y' := Y_X_copyRow) (as := [VR (some 3), VR (some 358)]) (r := none) (M' := (mcp M6 3 358 (min 8 8))) (kInvS (dt_Gifts_begin 25 _ _ _ rfl) kst_X_copyRow rfl) kl_Gifts_72 md_X_copyRow rfl rfl (c_X_copyRow hS ⟨(sc_3 hS), by decide⟩ ⟨(sc_358 hS), by decide⟩ M6) ?_
  refine s_letM (fun M7 => ?_)
  refine s_aload_n (dt_Gifts_begin 26 _ _ _ rfl) rfl ?_
  refine s_iconst (dt_Gifts_begin 27 _ _ _ rfl) rfl ?_
  refine s_putI (dt_Gifts_begin 28 _ _ _ rfl) kp_Gifts_79 (sc_355 hS) ⟨rfl, rfl⟩ ?_
  refine s_letM (fun M8 => ?_)
  refine s_iconst (dt_Gifts_begin 29 _ _ _ rfl) rfl ?_
  refine s_istore_n (dt_Gifts_begin 30 _ _ _ rfl) rfl ?_
  refine s_bd (κ := (fun (e13 : KM) => kC 93 [none, none, none, none] [] S e13)) (s_mask [true, true, false, true] (s_while (c := fun s9 => kC 57 [some (VR (some 355)), some (VR (some 2)), none, some (VI s9.1)] [] S s9.2) (fun s9 => ?_) (0, M8))) ?_
  · refine s_iload_n (dt_Gifts_begin 31 _ _ _ rfl) rfl ?_
    refine s_aload_n (dt_Gifts_begin 32 _ _ _ rfl) rfl ?_
    refine s_getI (dt_Gifts_begin 33 _ _ _ rfl) (kf_Gifts_82) (sc_2 hS) rfl ?_
    refine s_if_icmp_ge (tgt := 93) (dt_Gifts_begin 34 _ _ _ rfl) rfl ?_ ?_
    · refine s_aload_n (dt_Gifts_begin 35 _ _ _ rfl) rfl ?_
      refine s_dup (dt_Gifts_begin 36 _ _ _ rfl) rfl ?_
      refine s_getI (dt_Gifts_begin 37 _ _ _ rfl) (kf_Gifts_79) (sc_355 hS) rfl ?_
      refine s_aload_n (dt_Gifts_begin 38 _ _ _ rfl) rfl ?_
      refine s_iload_n (dt_Gifts_begin 39 _ _ _ rfl) rfl ?_
      refine s_callO (y := y_Gifts_isWrong) (Y' := Y_Gifts_isWrong) (as := [VR (some 355), VI s9.1]) (r := fun q => some (VI q)) (M' := fun q => s9.2) (kInvV (dt_Gifts_begin 40 _ _ _ rfl) kin_Gifts_isWrong 5 rfl (sc_355 hS) kse_Gifts_isWrong rfl) kl_Gifts_85 md_Gifts_isWrong rfl rfl (fun q hq => c_Gifts_isWrong hS s9.1 s9.2 q hq) (fun q10 => ?_)
      refine s_bd (κ := fun t11 => kC 83 [some (VR (some 355)), some (VR (some 2)), none, some (VI s9.1)] [VI t11, VI (s9.2 355 9), VR (some 355)] S s9.2) ?_ (fun t11 => ?_)
      · refine s_if_eq (tgt := 82) (dt_Gifts_begin 41 _ _ _ rfl) rfl ?_ ?_
        · refine s_iconst (dt_Gifts_begin 44 _ _ _ rfl) rfl ?_
          exact s_mask [true, true, false, true] (s_ret0 rfl)
        · refine s_iconst (dt_Gifts_begin 42 _ _ _ rfl) rfl ?_
          refine s_goto (tgt := 83) (dt_Gifts_begin 43 _ _ _ rfl) rfl ?_
          exact s_mask [true, true, false, true] (s_ret0 rfl)
      refine s_iadd (dt_Gifts_begin 45 _ _ _ rfl) ?_
      refine s_putI (dt_Gifts_begin 46 _ _ _ rfl) kp_Gifts_79 (sc_355 hS) ⟨rfl, rfl⟩ ?_
      refine s_letM (fun M12 => ?_)
      refine s_iinc (dt_Gifts_begin 47 _ _ _ rfl) rfl rfl ?_
      refine s_goto (tgt := 57) (dt_Gifts_begin 48 _ _ _ rfl) rfl ?_
      exact s_mask [true, true, false, true] (s_ret0 rfl)
    · exact s_mask [false, false, false, false] (s_ret0 rfl)
  intro e13
  exact s_vret (dt_Gifts_begin 49 _ _ _ rfl) rfl rfl
theorem c_Gifts_begin {S : KS} (hS : KExt 382 S)   (M : KM) : ∀ q, f_Gifts_begin  M = some q → Ctr y_Gifts_begin Y_Gifts_begin [VR (some 355), VR (some 2), VR (some 349)] S M (none) S (q) := fun q hq =>
  ctr_of md_Gifts_begin (Nat.le_of_ble_eq_true rfl) ⟨Nat.le_refl _, Nat.le_refl _⟩ 1 hq rfl (fun _ G => sim_Gifts_begin hS   M)
noncomputable def f_Gifts_search (a2 : Int) (M : KM) : Option (KM) := Option.bind (f_Gifts_begin M) (fun q1 => (if q1 349 8 = 0 then Option.bind (f_Gifts_note 0 a2 q1) (fun q2 => Option.bind (whileO (σ := Int × KM) (ε := KM) (fun s3 => (if s3.1 < s3.2 2 5 then Option.bind (whileO (σ := Int × KM) (ε := KM) (fun s4 => (if s4.1 ≤ 9 then Option.bind (f_Gifts_shift s3.1 1 s4.2) (fun q5 => letM_ (putM q5 357 4 0 s3.1) (fun M6 => letM_ (putM M6 357 4 1 s4.1) (fun M7 => Option.bind (f_Gifts_note 2 a2 M7) (fun q8 => Option.bind (f_Gifts_addSecond (w32 (s3.1 + 1)) a2 q8) (fun q9 => some (Sum.inl (w32 (s4.1 + 1), q9))))))) else some (Sum.inr s4.2))) (1, s3.2)) (fun e10 => Option.bind (f_Gifts_shift s3.1 (-9) e10) (fun q11 => some (Sum.inl (w32 (s3.1 + 1), q11)))) else some (Sum.inr s3.2))) (0, q2)) (fun e12 => some e12)) else some q1))
set_option maxRecDepth 100000 in
theorem sim_Gifts_search {G : Gam} {S : KS} (hS : KExt 382 S)  (a2 : Int) (M : KM) : Sim G Y_Gifts_search (f_Gifts_search a2 M) (kC 0 [some (VR (some 355)), some (VR (some 2)), some (VR (some 349)), some (VI a2), none, none] [] S M) (fun (q : KM) => Sum.inr (none, S, q)) := by
  unfold f_Gifts_search
  refine s_aload_n (dt_Gifts_search 0 _ _ _ rfl) rfl ?_
  refine s_aload_n (dt_Gifts_search 1 _ _ _ rfl) rfl ?_
  refine s_aload_n (dt_Gifts_search 2 _ _ _ rfl) rfl ?_
  refine s_callO (y := y_Gifts_begin) (Y' := Y_Gifts_begin) (as := [VR (some 355), VR (some 2), VR (some 349)]) (r := fun q => none) (M' := fun q => q) (kInvV (dt_Gifts_search 3 _ _ _ rfl) kin_Gifts_begin 5 rfl (sc_355 hS) kse_Gifts_begin rfl) kl_Gifts_24 md_Gifts_begin rfl rfl (fun q hq => c_Gifts_begin hS M q hq) (fun q1 => ?_)
  refine s_aload_n (dt_Gifts_search 4 _ _ _ rfl) rfl ?_
  refine s_getI (dt_Gifts_search 5 _ _ _ rfl) (kf_Gifts_28) (sc_349 hS) rfl ?_
  refine s_if_eq (tgt := 14) (dt_Gifts_search 6 _ _ _ rfl) rfl ?_ ?_
  · refine s_aload_n (dt_Gifts_search 8 _ _ _ rfl) rfl ?_
    refine s_iconst (dt_Gifts_search 9 _ _ _ rfl) rfl ?_
    refine s_iload_n (dt_Gifts_search 10 _ _ _ rfl) rfl ?_
    refine s_callO (y := y_Gifts_note) (Y' := Y_Gifts_note) (as := [VR (some 355), VI 0, VI a2]) (r := fun q => none) (M' := fun q => q) (kInvV (dt_Gifts_search 11 _ _ _ rfl) kin_Gifts_note 5 rfl (sc_355 hS) kse_Gifts_note rfl) kl_Gifts_34 md_Gifts_note rfl rfl (fun q hq => c_Gifts_note hS 0 a2 q1 q hq) (fun q2 => ?_)
    refine s_iconst (dt_Gifts_search 12 _ _ _ rfl) rfl ?_
    refine s_istore (dt_Gifts_search 13 _ _ _ rfl) rfl ?_
    refine s_bd (κ := (fun (e12 : KM) => kC 107 [none, none, none, none, none, none] [] S e12)) (s_mask [true, true, false, true, true, false] (s_while (c := fun s3 => kC 23 [some (VR (some 355)), some (VR (some 2)), none, some (VI a2), some (VI s3.1), none] [] S s3.2) (fun s3 => ?_) (0, q2))) ?_
    · refine s_iload (dt_Gifts_search 14 _ _ _ rfl) rfl ?_
      refine s_aload_n (dt_Gifts_search 15 _ _ _ rfl) rfl ?_
      refine s_getI (dt_Gifts_search 16 _ _ _ rfl) (kf_Gifts_38) (sc_2 hS) rfl ?_
      refine s_if_icmp_ge (tgt := 107) (dt_Gifts_search 17 _ _ _ rfl) rfl ?_ ?_
      · refine s_iconst (dt_Gifts_search 18 _ _ _ rfl) rfl ?_
        refine s_istore (dt_Gifts_search 19 _ _ _ rfl) rfl ?_
        refine s_bd (κ := (fun (e10 : KM) => kC 92 [some (VR (some 355)), some (VR (some 2)), none, some (VI a2), some (VI s3.1), none] [] S e10)) (s_mask [true, true, false, true, true, true] (s_while (c := fun s4 => kC 35 [some (VR (some 355)), some (VR (some 2)), none, some (VI a2), some (VI s3.1), some (VI s4.1)] [] S s4.2) (fun s4 => ?_) (1, s3.2))) ?_
        · refine s_iload (dt_Gifts_search 20 _ _ _ rfl) rfl ?_
          refine s_bipush (dt_Gifts_search 21 _ _ _ rfl) rfl ?_
          refine s_if_icmp_gt (tgt := 92) (dt_Gifts_search 22 _ _ _ rfl) rfl ?_ ?_
          · refine s_aload_n (dt_Gifts_search 23 _ _ _ rfl) rfl ?_
            refine s_aload_n (dt_Gifts_search 24 _ _ _ rfl) rfl ?_
            refine s_iload (dt_Gifts_search 25 _ _ _ rfl) rfl ?_
            refine s_iconst (dt_Gifts_search 26 _ _ _ rfl) rfl ?_
            refine s_callO (y := y_Gifts_shift) (Y' := Y_Gifts_shift) (as := [VR (some 355), VR (some 2), VI s3.1, VI 1]) (r := fun q => none) (M' := fun q => q) (kInvV (dt_Gifts_search 27 _ _ _ rfl) kin_Gifts_shift 5 rfl (sc_355 hS) kse_Gifts_shift rfl) kl_Gifts_44 md_Gifts_shift rfl rfl (fun q hq => c_Gifts_shift hS s3.1 1 s4.2 q hq) (fun q5 => ?_)
            refine s_aload_n (dt_Gifts_search 28 _ _ _ rfl) rfl ?_
            refine s_getR (o := (some 357)) (dt_Gifts_search 29 _ _ _ rfl) (kf_Gifts_15) (sc_355 hS) rfl rfl ?_
            refine s_iconst (dt_Gifts_search 30 _ _ _ rfl) rfl ?_
            refine s_iload (dt_Gifts_search 31 _ _ _ rfl) rfl ?_
            refine s_inv (y := y_X_put) (Y' := Y_X_put) (as := [VR (some 357), VI 0, VI s3.1]) (r := none) (M' := (putM q5 357 4 0 s3.1)) (kInvS (dt_Gifts_search 32 _ _ _ rfl) kst_X_put rfl) kl_Gifts_48 md_X_put rfl rfl (c_X_put hS ⟨(sc_357 hS), by decide⟩ 0 s3.1 q5) ?_
            refine s_letM (fun M6 => ?_)
            refine s_aload_n (dt_Gifts_search 33 _ _ _ rfl) rfl ?_
            refine s_getR (o := (some 357)) (dt_Gifts_search 34 _ _ _ rfl) (kf_Gifts_15) (sc_355 hS) rfl rfl ?_
            refine s_iconst (dt_Gifts_search 35 _ _ _ rfl) rfl ?_
            refine s_iload (dt_Gifts_search 36 _ _ _ rfl) rfl ?_
            refine s_inv (y := y_X_put) (Y' := Y_X_put) (as := [VR (some 357), VI 1, VI s4.1]) (r := none) (M' := (putM M6 357 4 1 s4.1)) (kInvS (dt_Gifts_search 37 _ _ _ rfl) kst_X_put rfl) kl_Gifts_48 md_X_put rfl rfl (c_X_put hS ⟨(sc_357 hS), by decide⟩ 1 s4.1 M6) ?_
            refine s_letM (fun M7 => ?_)
            refine s_aload_n (dt_Gifts_search 38 _ _ _ rfl) rfl ?_
            refine s_iconst (dt_Gifts_search 39 _ _ _ rfl) rfl ?_
            refine s_iload_n (dt_Gifts_search 40 _ _ _ rfl) rfl ?_
            refine s_callO (y := y_Gifts_note) (Y' := Y_Gifts_note) (as := [VR (some 355), VI 2, VI a2]) (r := fun q => none) (M' := fun q => q) (kInvV (dt_Gifts_search 41 _ _ _ rfl) kin_Gifts_note 5 rfl (sc_355 hS) kse_Gifts_note rfl) kl_Gifts_34 md_Gifts_note rfl rfl (fun q hq => c_Gifts_note hS 2 a2 M7 q hq) (fun q8 => ?_)
            refine s_aload_n (dt_Gifts_search 42 _ _ _ rfl) rfl ?_
            refine s_aload_n (dt_Gifts_search 43 _ _ _ rfl) rfl ?_
            refine s_iload (dt_Gifts_search 44 _ _ _ rfl) rfl ?_
            refine s_iconst (dt_Gifts_search 45 _ _ _ rfl) rfl ?_
            refine s_iadd (dt_Gifts_search 46 _ _ _ rfl) ?_
            refine s_iload_n (dt_Gifts_search 47 _ _ _ rfl) rfl ?_
            refine s_callO (y := y_Gifts_addSecond) (Y' := Y_Gifts_addSecond) (as := [VR (some 355), VR (some 2), VI (w32 (s3.1 + 1)), VI a2]) (r := fun q => none) (M' := fun q => q) (kInvV (dt_Gifts_search 48 _ _ _ rfl) kin_Gifts_addSecond 5 rfl (sc_355 hS) kse_Gifts_addSecond rfl) kl_Gifts_52 md_Gifts_addSecond rfl rfl (fun q hq => c_Gifts_addSecond hS (w32 (s3.1 + 1)) a2 q8 q hq) (fun q9 => ?_)
            refine s_iinc (dt_Gifts_search 49 _ _ _ rfl) rfl rfl ?_
            refine s_goto (tgt := 35) (dt_Gifts_search 50 _ _ _ rfl) rfl ?_
            exact s_mask [true, true, false, true, true, true] (s_ret0 rfl)
          · exact s_mask [true, true, false, true, true, false] (s_ret0 rfl)
        intro e10
        refine s_aload_n (dt_Gifts_search 51 _ _ _ rfl) rfl ?_
        refine s_aload_n (dt_Gifts_search 52 _ _ _ rfl) rfl ?_
        refine s_iload (dt_Gifts_search 53 _ _ _ rfl) rfl ?_
        refine s_bipush (dt_Gifts_search 54 _ _ _ rfl) rfl ?_
        refine s_callO (y := y_Gifts_shift) (Y' := Y_Gifts_shift) (as := [VR (some 355), VR (some 2), VI s3.1, VI (-9)]) (r := fun q => none) (M' := fun q => q) (kInvV (dt_Gifts_search 55 _ _ _ rfl) kin_Gifts_shift 5 rfl (sc_355 hS) kse_Gifts_shift rfl) kl_Gifts_44 md_Gifts_shift rfl rfl (fun q hq => c_Gifts_shift hS s3.1 (-9) e10 q hq) (fun q11 => ?_)
        refine s_iinc (dt_Gifts_search 56 _ _ _ rfl) rfl rfl ?_
        refine s_goto (tgt := 23) (dt_Gifts_search 57 _ _ _ rfl) rfl ?_
        exact s_mask [true, true, false, true, true, false] (s_ret0 rfl)
      · exact s_mask [false, false, false, false, false, false] (s_ret0 rfl)
    intro e12
    exact s_vret (dt_Gifts_search 58 _ _ _ rfl) rfl rfl
  · exact s_vret (dt_Gifts_search 7 _ _ _ rfl) rfl rfl
theorem c_Gifts_search {S : KS} (hS : KExt 382 S)  (a2 : Int) (M : KM) : ∀ q, f_Gifts_search a2 M = some q → Ctr y_Gifts_search Y_Gifts_search [VR (some 355), VR (some 2), VR (some 349), VI a2] S M (none) S (q) := fun q hq =>
  ctr_of md_Gifts_search (Nat.le_of_ble_eq_true rfl) ⟨Nat.le_refl _, Nat.le_refl _⟩ 2 hq rfl (fun _ G => sim_Gifts_search hS  a2 M)
noncomputable def f_X_explained (a0 : Int) (M : KM) : Option (Int × KM) := letM_ (mupd M 0 16 0) (fun M1 => Option.bind (f_Faces_gather a0 M1) (fun q2 => Option.bind (f_Gifts_search (-1) q2) (fun q3 => Option.bind (whileO (σ := Int × KM) (ε := KM) (fun s4 => (if s4.1 < s4.2 355 1 then Option.bind (f_X_lay (atM s4.2 356 4 s4.1) s4.2) (fun q5 => some (Sum.inl (w32 (s4.1 + 1), q5))) else some (Sum.inr s4.2))) (0, q3)) (fun e6 => some (e6 355 0, e6)))))
set_option maxRecDepth 100000 in
theorem sim_X_explained {G : Gam} {S : KS} (hS : KExt 382 S)  (a0 : Int) (M : KM) : Sim G Y_X_explained (f_X_explained a0 M) (kC 0 [some (VR (some 0)), some (VI a0), none] [] S M) (fun (q : Int × KM) => Sum.inr (some (VI q.1), S, q.2)) := by
  unfold f_X_explained
  refine s_aload_n (dt_X_explained 0 _ _ _ rfl) rfl ?_
  refine s_iconst (dt_X_explained 1 _ _ _ rfl) rfl ?_
  refine s_putI (dt_X_explained 2 _ _ _ rfl) kp_X_97 (sc_0 hS) ⟨rfl, rfl⟩ ?_
  refine s_letM (fun M1 => ?_)
  refine s_aload_n (dt_X_explained 3 _ _ _ rfl) rfl ?_
  refine s_getR (o := (some 349)) (dt_X_explained 4 _ _ _ rfl) (kf_X_83) (sc_0 hS) rfl rfl ?_
  refine s_iload_n (dt_X_explained 5 _ _ _ rfl) rfl ?_
  refine s_callO (y := y_Faces_gather) (Y' := Y_Faces_gather) (as := [VR (some 349), VI a0]) (r := fun q => none) (M' := fun q => q) (kInvV (dt_X_explained 6 _ _ _ rfl) kin_Faces_gather 3 rfl (sc_349 hS) kse_Faces_gather rfl) kl_X_390 md_Faces_gather rfl rfl (fun q hq => c_Faces_gather hS a0 M1 q hq) (fun q2 => ?_)
  refine s_aload_n (dt_X_explained 7 _ _ _ rfl) rfl ?_
  refine s_getR (o := (some 355)) (dt_X_explained 8 _ _ _ rfl) (kf_X_90) (sc_0 hS) rfl rfl ?_
  refine s_aload_n (dt_X_explained 9 _ _ _ rfl) rfl ?_
  refine s_getR (o := (some 2)) (dt_X_explained 10 _ _ _ rfl) (kf_X_20) (sc_0 hS) rfl rfl ?_
  refine s_aload_n (dt_X_explained 11 _ _ _ rfl) rfl ?_
  refine s_getR (o := (some 349)) (dt_X_explained 12 _ _ _ rfl) (kf_X_83) (sc_0 hS) rfl rfl ?_
  refine s_iconst (dt_X_explained 13 _ _ _ rfl) rfl ?_
  refine s_callO (y := y_Gifts_search) (Y' := Y_Gifts_search) (as := [VR (some 355), VR (some 2), VR (some 349), VI (-1)]) (r := fun q => none) (M' := fun q => q) (kInvV (dt_X_explained 14 _ _ _ rfl) kin_Gifts_search 5 rfl (sc_355 hS) kse_Gifts_search rfl) kl_X_392 md_Gifts_search rfl rfl (fun q hq => c_Gifts_search hS (-1) q2 q hq) (fun q3 => ?_)
  refine s_iconst (dt_X_explained 15 _ _ _ rfl) rfl ?_
  refine s_istore_n (dt_X_explained 16 _ _ _ rfl) rfl ?_
  refine s_bd (κ := (fun (e6 : KM) => kC 63 [some (VR (some 0)), none, none] [] S e6)) (s_mask [true, false, true] (s_while (c := fun s4 => kC 31 [some (VR (some 0)), none, some (VI s4.1)] [] S s4.2) (fun s4 => ?_) (0, q3))) ?_
  · refine s_iload_n (dt_X_explained 17 _ _ _ rfl) rfl ?_
    refine s_aload_n (dt_X_explained 18 _ _ _ rfl) rfl ?_
    refine s_getR (o := (some 355)) (dt_X_explained 19 _ _ _ rfl) (kf_X_90) (sc_0 hS) rfl rfl ?_
    refine s_getI (dt_X_explained 20 _ _ _ rfl) (kf_X_396) (sc_355 hS) rfl ?_
    refine s_if_icmp_ge (tgt := 63) (dt_X_explained 21 _ _ _ rfl) rfl ?_ ?_
    · refine s_aload_n (dt_X_explained 22 _ _ _ rfl) rfl ?_
      refine s_aload_n (dt_X_explained 23 _ _ _ rfl) rfl ?_
      refine s_getR (o := (some 355)) (dt_X_explained 24 _ _ _ rfl) (kf_X_90) (sc_0 hS) rfl rfl ?_
      refine s_getR (o := (some 356)) (dt_X_explained 25 _ _ _ rfl) (kf_X_399) (sc_355 hS) rfl rfl ?_
      refine s_iload_n (dt_X_explained 26 _ _ _ rfl) rfl ?_
      refine s_inv (y := y_X_at) (Y' := Y_X_at) (as := [VR (some 356), VI s4.1]) (r := some (VI (atM s4.2 356 4 s4.1))) (M' := s4.2) (kInvS (dt_X_explained 27 _ _ _ rfl) kst_X_at rfl) kl_X_140 md_X_at rfl rfl (c_X_at hS ⟨(sc_356 hS), by decide⟩ s4.1 s4.2) ?_
      refine s_callO (y := y_X_lay) (Y' := Y_X_lay) (as := [VR (some 0), VI (atM s4.2 356 4 s4.1)]) (r := fun q => none) (M' := fun q => q) (kInvV (dt_X_explained 28 _ _ _ rfl) kin_X_lay 0 rfl (sc_0 hS) kse_X_lay rfl) kl_X_351 md_X_lay rfl rfl (fun q hq => c_X_lay hS (atM s4.2 356 4 s4.1) s4.2 q hq) (fun q5 => ?_)
      refine s_iinc (dt_X_explained 29 _ _ _ rfl) rfl rfl ?_
      refine s_goto (tgt := 31) (dt_X_explained 30 _ _ _ rfl) rfl ?_
      exact s_mask [true, false, true] (s_ret0 rfl)
    · exact s_mask [true, false, false] (s_ret0 rfl)
  intro e6
  refine s_aload_n (dt_X_explained 31 _ _ _ rfl) rfl ?_
  refine s_getR (o := (some 355)) (dt_X_explained 32 _ _ _ rfl) (kf_X_90) (sc_0 hS) rfl rfl ?_
  refine s_getI (dt_X_explained 33 _ _ _ rfl) (kf_X_402) (sc_355 hS) rfl ?_
  exact s_iret (dt_X_explained 34 _ _ _ rfl) rfl rfl
theorem c_X_explained {S : KS} (hS : KExt 382 S)  (a0 : Int) (M : KM) : ∀ q, f_X_explained a0 M = some q → Ctr y_X_explained Y_X_explained [VR (some 0), VI a0] S M (some (VI q.1)) S (q.2) := fun q hq =>
  ctr_of md_X_explained (Nat.le_of_ble_eq_true rfl) ⟨Nat.le_refl _, Nat.le_refl _⟩ 1 hq rfl (fun _ G => sim_X_explained hS  a0 M)
noncomputable def f_X_sure (a0 : Int) (a1 : Int) (M : KM) : Option (Int × KM) := Option.bind (f_X_isPerson a0 M) (fun q1 => (if q1 = 0 then some ((-1), M) else Option.bind (f_Faces_gather a1 M) (fun q2 => Option.bind (f_Gifts_search a0 q2) (fun q3 => (if q3 355 0 = 0 then some ((-1), q3) else Option.bind ((if q3 355 4 = 0 then some (q3 355 3) else some (-2)) : Option (Int)) (fun t4 => some (t4, q3)))))))
set_option maxRecDepth 100000 in
theorem sim_X_sure {G : Gam} {S : KS} (hS : KExt 382 S)  (a0 : Int) (a1 : Int) (M : KM) : Sim G Y_X_sure (f_X_sure a0 a1 M) (kC 0 [some (VR (some 0)), some (VI a0), some (VI a1)] [] S M) (fun (q : Int × KM) => Sum.inr (some (VI q.1), S, q.2)) := by
  unfold f_X_sure
  refine s_aload_n (dt_X_sure 0 _ _ _ rfl) rfl ?_
  refine s_iload_n (dt_X_sure 1 _ _ _ rfl) rfl ?_
  refine s_callO (y := y_X_isPerson) (Y' := Y_X_isPerson) (as := [VR (some 0), VI a0]) (r := fun q => some (VI q)) (M' := fun q => M) (kInvV (dt_X_sure 2 _ _ _ rfl) kin_X_isPerson 0 rfl (sc_0 hS) kse_X_isPerson rfl) kl_X_133 md_X_isPerson rfl rfl (fun q hq => c_X_isPerson hS a0 M q hq) (fun q1 => ?_)
  refine s_if_ne (tgt := 10) (dt_X_sure 3 _ _ _ rfl) rfl ?_ ?_
  · refine s_iconst (dt_X_sure 4 _ _ _ rfl) rfl ?_
    exact s_iret (dt_X_sure 5 _ _ _ rfl) rfl rfl
  · refine s_aload_n (dt_X_sure 6 _ _ _ rfl) rfl ?_
    refine s_getR (o := (some 349)) (dt_X_sure 7 _ _ _ rfl) (kf_X_83) (sc_0 hS) rfl rfl ?_
    refine s_iload_n (dt_X_sure 8 _ _ _ rfl) rfl ?_
    refine s_callO (y := y_Faces_gather) (Y' := Y_Faces_gather) (as := [VR (some 349), VI a1]) (r := fun q => none) (M' := fun q => q) (kInvV (dt_X_sure 9 _ _ _ rfl) kin_Faces_gather 3 rfl (sc_349 hS) kse_Faces_gather rfl) kl_X_390 md_Faces_gather rfl rfl (fun q hq => c_Faces_gather hS a1 M q hq) (fun q2 => ?_)
    refine s_aload_n (dt_X_sure 10 _ _ _ rfl) rfl ?_
    refine s_getR (o := (some 355)) (dt_X_sure 11 _ _ _ rfl) (kf_X_90) (sc_0 hS) rfl rfl ?_
    refine s_aload_n (dt_X_sure 12 _ _ _ rfl) rfl ?_
    refine s_getR (o := (some 2)) (dt_X_sure 13 _ _ _ rfl) (kf_X_20) (sc_0 hS) rfl rfl ?_
    refine s_aload_n (dt_X_sure 14 _ _ _ rfl) rfl ?_
    refine s_getR (o := (some 349)) (dt_X_sure 15 _ _ _ rfl) (kf_X_83) (sc_0 hS) rfl rfl ?_
    refine s_iload_n (dt_X_sure 16 _ _ _ rfl) rfl ?_
    refine s_callO (y := y_Gifts_search) (Y' := Y_Gifts_search) (as := [VR (some 355), VR (some 2), VR (some 349), VI a0]) (r := fun q => none) (M' := fun q => q) (kInvV (dt_X_sure 17 _ _ _ rfl) kin_Gifts_search 5 rfl (sc_355 hS) kse_Gifts_search rfl) kl_X_392 md_Gifts_search rfl rfl (fun q hq => c_Gifts_search hS a0 q2 q hq) (fun q3 => ?_)
    refine s_aload_n (dt_X_sure 18 _ _ _ rfl) rfl ?_
    refine s_getR (o := (some 355)) (dt_X_sure 19 _ _ _ rfl) (kf_X_90) (sc_0 hS) rfl rfl ?_
    refine s_getI (dt_X_sure 20 _ _ _ rfl) (kf_X_402) (sc_355 hS) rfl ?_
    refine s_if_ne (tgt := 46) (dt_X_sure 21 _ _ _ rfl) rfl ?_ ?_
    · refine s_iconst (dt_X_sure 22 _ _ _ rfl) rfl ?_
      exact s_iret (dt_X_sure 23 _ _ _ rfl) rfl rfl
    · refine s_aload_n (dt_X_sure 24 _ _ _ rfl) rfl ?_
      refine s_getR (o := (some 355)) (dt_X_sure 25 _ _ _ rfl) (kf_X_90) (sc_0 hS) rfl rfl ?_
      refine s_getI (dt_X_sure 26 _ _ _ rfl) (kf_X_405) (sc_355 hS) rfl ?_
      refine s_bd (κ := fun t4 => kC 68 [none, none, none] [VI t4] S q3) ?_ (fun t4 => ?_)
      · refine s_if_eq (tgt := 61) (dt_X_sure 27 _ _ _ rfl) rfl ?_ ?_
        · refine s_aload_n (dt_X_sure 30 _ _ _ rfl) rfl ?_
          refine s_getR (o := (some 355)) (dt_X_sure 31 _ _ _ rfl) (kf_X_90) (sc_0 hS) rfl rfl ?_
          refine s_getI (dt_X_sure 32 _ _ _ rfl) (kf_X_409) (sc_355 hS) rfl ?_
          exact s_mask [false, false, false] (s_ret0 rfl)
        · refine s_bipush (dt_X_sure 28 _ _ _ rfl) rfl ?_
          refine s_goto (tgt := 68) (dt_X_sure 29 _ _ _ rfl) rfl ?_
          exact s_mask [false, false, false] (s_ret0 rfl)
      exact s_iret (dt_X_sure 33 _ _ _ rfl) rfl rfl
theorem c_X_sure {S : KS} (hS : KExt 382 S)  (a0 : Int) (a1 : Int) (M : KM) : ∀ q, f_X_sure a0 a1 M = some q → Ctr y_X_sure Y_X_sure [VR (some 0), VI a0, VI a1] S M (some (VI q.1)) S (q.2) := fun q hq =>
  ctr_of md_X_sure (Nat.le_of_ble_eq_true rfl) ⟨Nat.le_refl _, Nat.le_refl _⟩ 0 hq rfl (fun _ G => sim_X_sure hS  a0 a1 M)
noncomputable def f_Faces_forgedBy  (M : KM) : Option (Int) := Option.bind (whileO (σ := Int × Int) (ε := Int) (fun s1 => (if s1.2 < M 2 0 then Option.bind ((if isInV (M 349 6) s1.2 = 0 then some s1.1 else (if atM M 354 8 s1.2 = atM M 3 8 s1.2 then some s1.1 else letI_ (kior s1.1 (kishl 1 s1.2)) (fun v2 => some v2))) : Option (Int)) (fun t3 => some (Sum.inl (t3, w32 (s1.2 + 1)))) else some (Sum.inr s1.1))) (0, 0)) (fun e4 => Option.bind ((if M 349 8 = 0 then Option.bind (f_JI_bitCount e4 M) (fun q5 => (if q5 = 1 then some e4 else some 0)) else some 0) : Option (Int)) (fun t6 => some t6))
set_option maxRecDepth 100000 in
theorem sim_Faces_forgedBy {G : Gam} {S : KS} (hS : KExt 382 S)   (M : KM) : Sim G Y_Faces_forgedBy (f_Faces_forgedBy  M) (kC 0 [some (VR (some 349)), some (VR (some 2)), none, none] [] S M) (fun (q : Int) => Sum.inr (some (VI q), S, M)) := by
  unfold f_Faces_forgedBy
  refine s_iconst (dt_Faces_forgedBy 0 _ _ _ rfl) rfl ?_
  refine s_istore_n (dt_Faces_forgedBy 1 _ _ _ rfl) rfl ?_
  refine s_iconst (dt_Faces_forgedBy 2 _ _ _ rfl) rfl ?_
  refine s_istore_n (dt_Faces_forgedBy 3 _ _ _ rfl) rfl ?_
  refine s_bd (κ := (fun (e4 : Int) => kC 54 [some (VR (some 349)), none, some (VI e4), none] [] S M)) (s_mask [true, true, true, true] (s_while (c := fun s1 => kC 4 [some (VR (some 349)), some (VR (some 2)), some (VI s1.1), some (VI s1.2)] [] S M) (fun s1 => ?_) (0, 0))) ?_
  · refine s_iload_n (dt_Faces_forgedBy 4 _ _ _ rfl) rfl ?_
    refine s_aload_n (dt_Faces_forgedBy 5 _ _ _ rfl) rfl ?_
    refine s_getI (dt_Faces_forgedBy 6 _ _ _ rfl) (kf_Faces_57) (sc_2 hS) rfl ?_
    refine s_if_icmp_ge (tgt := 54) (dt_Faces_forgedBy 7 _ _ _ rfl) rfl ?_ ?_
    · refine s_aload_n (dt_Faces_forgedBy 8 _ _ _ rfl) rfl ?_
      refine s_getI (dt_Faces_forgedBy 9 _ _ _ rfl) (kf_Faces_31) (sc_349 hS) rfl ?_
      refine s_iload_n (dt_Faces_forgedBy 10 _ _ _ rfl) rfl ?_
      refine s_inv (y := y_X_isIn) (Y' := Y_X_isIn) (as := [VI (M 349 6), VI s1.2]) (r := some (VI (isInV (M 349 6) s1.2))) (M' := M) (kInvS (dt_Faces_forgedBy 11 _ _ _ rfl) kst_X_isIn rfl) kl_Faces_53 md_X_isIn rfl rfl (c_X_isIn hS (M 349 6) s1.2 M) ?_
      refine s_bd (κ := fun t3 => kC 48 [some (VR (some 349)), some (VR (some 2)), some (VI t3), some (VI s1.2)] [] S M) ?_ (fun t3 => ?_)
      · refine s_if_eq (tgt := 48) (dt_Faces_forgedBy 12 _ _ _ rfl) rfl ?_ ?_
        · exact s_mask [true, true, true, true] (s_ret0 rfl)
        · refine s_aload_n (dt_Faces_forgedBy 13 _ _ _ rfl) rfl ?_
          refine s_getR (o := (some 354)) (dt_Faces_forgedBy 14 _ _ _ rfl) (kf_Faces_34) (sc_349 hS) rfl rfl ?_
          refine s_iload_n (dt_Faces_forgedBy 15 _ _ _ rfl) rfl ?_
          refine s_inv (y := y_X_at) (Y' := Y_X_at) (as := [VR (some 354), VI s1.2]) (r := some (VI (atM M 354 8 s1.2))) (M' := M) (kInvS (dt_Faces_forgedBy 16 _ _ _ rfl) kst_X_at rfl) kl_Faces_45 md_X_at rfl rfl (c_X_at hS ⟨(sc_354 hS), by decide⟩ s1.2 M) ?_
          refine s_aload_n (dt_Faces_forgedBy 17 _ _ _ rfl) rfl ?_
          refine s_getR (o := (some 3)) (dt_Faces_forgedBy 18 _ _ _ rfl) (kf_Faces_62) (sc_2 hS) rfl rfl ?_
          refine s_iload_n (dt_Faces_forgedBy 19 _ _ _ rfl) rfl ?_
          refine s_inv (y := y_X_at) (Y' := Y_X_at) (as := [VR (some 3), VI s1.2]) (r := some (VI (atM M 3 8 s1.2))) (M' := M) (kInvS (dt_Faces_forgedBy 20 _ _ _ rfl) kst_X_at rfl) kl_Faces_45 md_X_at rfl rfl (c_X_at hS ⟨(sc_3 hS), by decide⟩ s1.2 M) ?_
          refine s_if_icmp_eq (tgt := 48) (dt_Faces_forgedBy 21 _ _ _ rfl) rfl ?_ ?_
          · exact s_mask [true, true, true, true] (s_ret0 rfl)
          · refine s_iload_n (dt_Faces_forgedBy 22 _ _ _ rfl) rfl ?_
            refine s_iconst (dt_Faces_forgedBy 23 _ _ _ rfl) rfl ?_
            refine s_iload_n (dt_Faces_forgedBy 24 _ _ _ rfl) rfl ?_
            refine s_ishl (dt_Faces_forgedBy 25 _ _ _ rfl) ?_
            refine s_ior (dt_Faces_forgedBy 26 _ _ _ rfl) ?_
            refine s_letI (fun v2 => ?_)
            refine s_istore_n (dt_Faces_forgedBy 27 _ _ _ rfl) rfl ?_
            exact s_mask [true, true, true, true] (s_ret0 rfl)
      refine s_iinc (dt_Faces_forgedBy 28 _ _ _ rfl) rfl rfl ?_
      refine s_goto (tgt := 4) (dt_Faces_forgedBy 29 _ _ _ rfl) rfl ?_
      exact s_mask [true, true, true, true] (s_ret0 rfl)
    · exact s_mask [true, false, true, false] (s_ret0 rfl)
  intro e4
  refine s_aload_n (dt_Faces_forgedBy 30 _ _ _ rfl) rfl ?_
  refine s_getI (dt_Faces_forgedBy 31 _ _ _ rfl) (kf_Faces_37) (sc_349 hS) rfl ?_
  refine s_bd (κ := fun t6 => kC 74 [none, none, none, none] [VI t6] S M) ?_ (fun t6 => ?_)
  · refine s_if_ne (tgt := 73) (dt_Faces_forgedBy 32 _ _ _ rfl) rfl ?_ ?_
    · refine s_iload_n (dt_Faces_forgedBy 33 _ _ _ rfl) rfl ?_
      refine s_callO (y := y_JI_bitCount) (Y' := Y_JI_bitCount) (as := [VI e4]) (r := fun q => some (VI q)) (M' := fun q => M) (kInvS (dt_Faces_forgedBy 34 _ _ _ rfl) kst_JI_bitCount rfl) kl_Faces_63 md_JI_bitCount rfl rfl (fun q hq => c_JI_bitCount hS e4 M q hq) (fun q5 => ?_)
      refine s_iconst (dt_Faces_forgedBy 35 _ _ _ rfl) rfl ?_
      refine s_if_icmp_ne (tgt := 73) (dt_Faces_forgedBy 36 _ _ _ rfl) rfl ?_ ?_
      · refine s_iload_n (dt_Faces_forgedBy 37 _ _ _ rfl) rfl ?_
        refine s_goto (tgt := 74) (dt_Faces_forgedBy 38 _ _ _ rfl) rfl ?_
        exact s_mask [false, false, false, false] (s_ret0 rfl)
      · refine s_iconst (dt_Faces_forgedBy 39 _ _ _ rfl) rfl ?_
        exact s_mask [false, false, false, false] (s_ret0 rfl)
    · refine s_iconst (dt_Faces_forgedBy 39 _ _ _ rfl) rfl ?_
      exact s_mask [false, false, false, false] (s_ret0 rfl)
  exact s_iret (dt_Faces_forgedBy 40 _ _ _ rfl) rfl rfl
theorem c_Faces_forgedBy {S : KS} (hS : KExt 382 S)   (M : KM) : ∀ q, f_Faces_forgedBy  M = some q → Ctr y_Faces_forgedBy Y_Faces_forgedBy [VR (some 349), VR (some 2)] S M (some (VI q)) S (M) := fun q hq =>
  ctr_of md_Faces_forgedBy (Nat.le_of_ble_eq_true rfl) ⟨Nat.le_refl _, Nat.le_refl _⟩ 2 hq rfl (fun _ G => sim_Faces_forgedBy hS   M)
noncomputable def f_X_forged (a0 : Int) (M : KM) : Option (Int × KM) := Option.bind (f_Faces_gather a0 M) (fun q1 => Option.bind (f_Faces_forgedBy q1) (fun q2 => some (q2, q1)))
set_option maxRecDepth 100000 in
theorem sim_X_forged {G : Gam} {S : KS} (hS : KExt 382 S)  (a0 : Int) (M : KM) : Sim G Y_X_forged (f_X_forged a0 M) (kC 0 [some (VR (some 0)), some (VI a0)] [] S M) (fun (q : Int × KM) => Sum.inr (some (VI q.1), S, q.2)) := by
  unfold f_X_forged
  refine s_aload_n (dt_X_forged 0 _ _ _ rfl) rfl ?_
  refine s_getR (o := (some 349)) (dt_X_forged 1 _ _ _ rfl) (kf_X_83) (sc_0 hS) rfl rfl ?_
  refine s_iload_n (dt_X_forged 2 _ _ _ rfl) rfl ?_
  refine s_callO (y := y_Faces_gather) (Y' := Y_Faces_gather) (as := [VR (some 349), VI a0]) (r := fun q => none) (M' := fun q => q) (kInvV (dt_X_forged 3 _ _ _ rfl) kin_Faces_gather 3 rfl (sc_349 hS) kse_Faces_gather rfl) kl_X_390 md_Faces_gather rfl rfl (fun q hq => c_Faces_gather hS a0 M q hq) (fun q1 => ?_)
  refine s_aload_n (dt_X_forged 4 _ _ _ rfl) rfl ?_
  refine s_getR (o := (some 349)) (dt_X_forged 5 _ _ _ rfl) (kf_X_83) (sc_0 hS) rfl rfl ?_
  refine s_aload_n (dt_X_forged 6 _ _ _ rfl) rfl ?_
  refine s_getR (o := (some 2)) (dt_X_forged 7 _ _ _ rfl) (kf_X_20) (sc_0 hS) rfl rfl ?_
  refine s_callO (y := y_Faces_forgedBy) (Y' := Y_Faces_forgedBy) (as := [VR (some 349), VR (some 2)]) (r := fun q => some (VI q)) (M' := fun q => q1) (kInvV (dt_X_forged 8 _ _ _ rfl) kin_Faces_forgedBy 3 rfl (sc_349 hS) kse_Faces_forgedBy rfl) kl_X_412 md_Faces_forgedBy rfl rfl (fun q hq => c_Faces_forgedBy hS q1 q hq) (fun q2 => ?_)
  exact s_iret (dt_X_forged 9 _ _ _ rfl) rfl rfl
theorem c_X_forged {S : KS} (hS : KExt 382 S)  (a0 : Int) (M : KM) : ∀ q, f_X_forged a0 M = some q → Ctr y_X_forged Y_X_forged [VR (some 0), VI a0] S M (some (VI q.1)) S (q.2) := fun q hq =>
  ctr_of md_X_forged (Nat.le_of_ble_eq_true rfl) ⟨Nat.le_refl _, Nat.le_refl _⟩ 0 hq rfl (fun _ G => sim_X_forged hS  a0 M)
noncomputable def f_X_image (a0 : Int) (M : KM) : Option (Int × KM) := (if a0 < 0 then some ((-1), M) else (if a0 < 3 then (if 0 ≤ a0 ∧ a0 < 3 then (if kStB (361 + 7 * (a0).toNat) = true then Option.bind (f_State_copy 34 (361 + 7 * (a0).toNat) M) (fun q2 => letM_ (mupd q2 0 7 (kior (q2 0 7) (kishl 1 a0))) (fun M3 => some (M3 34 4, M3))) else none) else none) else some ((-1), M)))
set_option maxRecDepth 100000 in
theorem sim_X_image {G : Gam} {S : KS} (hS : KExt 382 S)  (a0 : Int) (M : KM) : Sim G Y_X_image (f_X_image a0 M) (kC 0 [some (VR (some 0)), some (VI a0)] [] S M) (fun (q : Int × KM) => Sum.inr (some (VI q.1), S, q.2)) := by
  unfold f_X_image
  refine s_iload_n (dt_X_image 0 _ _ _ rfl) rfl ?_
  refine s_if_lt (tgt := 13) (dt_X_image 1 _ _ _ rfl) rfl ?_ ?_
  · refine s_iconst (dt_X_image 7 _ _ _ rfl) rfl ?_
    exact s_iret (dt_X_image 8 _ _ _ rfl) rfl rfl
  · refine s_iload_n (dt_X_image 2 _ _ _ rfl) rfl ?_
    refine s_aload_n (dt_X_image 3 _ _ _ rfl) rfl ?_
    refine s_getR (o := (some 330)) (dt_X_image 4 _ _ _ rfl) (kf_X_45) (sc_0 hS) rfl rfl ?_
    refine s_alen (N := 3) (dt_X_image 5 _ _ _ rfl) (sc_330 hS) rfl rfl (by decide) ?_
    refine s_if_icmp_lt (tgt := 15) (dt_X_image 6 _ _ _ rfl) rfl ?_ ?_
    · refine s_aload_n (dt_X_image 9 _ _ _ rfl) rfl ?_
      refine s_getR (o := (some 34)) (dt_X_image 10 _ _ _ rfl) (kf_X_34) (sc_0 hS) rfl rfl ?_
      refine s_aload_n (dt_X_image 11 _ _ _ rfl) rfl ?_
      refine s_getR (o := (some 330)) (dt_X_image 12 _ _ _ rfl) (kf_X_45) (sc_0 hS) rfl rfl ?_
      refine s_iload_n (dt_X_image 13 _ _ _ rfl) rfl ?_
      refine s_aald (N := 3) (o := some (361 + 7 * (a0).toNat)) (dt_X_image 14 _ _ _ rfl) (sc_330 hS) rfl ho_box ?_
      refine s_if (fun h1 => ?_)
      refine s_callO (y := y_State_copy) (Y' := Y_State_copy) (as := [VR (some 34), VR (some (361 + 7 * (a0).toNat))]) (r := fun q => none) (M' := fun q => q) (kInvS (dt_X_image 15 _ _ _ rfl) kst_State_copy rfl) kl_X_416 md_State_copy rfl rfl (fun q hq => c_State_copy hS (kSt_of hS (by decide)) (kSt_of hS h1) M q hq) (fun q2 => ?_)
      refine s_aload_n (dt_X_image 16 _ _ _ rfl) rfl ?_
      refine s_dup (dt_X_image 17 _ _ _ rfl) rfl ?_
      refine s_getI (dt_X_image 18 _ _ _ rfl) (kf_X_49) (sc_0 hS) rfl ?_
      refine s_iconst (dt_X_image 19 _ _ _ rfl) rfl ?_
      refine s_iload_n (dt_X_image 20 _ _ _ rfl) rfl ?_
      refine s_ishl (dt_X_image 21 _ _ _ rfl) ?_
      refine s_ior (dt_X_image 22 _ _ _ rfl) ?_
      refine s_putI (dt_X_image 23 _ _ _ rfl) kp_X_49 (sc_0 hS) ⟨rfl, rfl⟩ ?_
      refine s_letM (fun M3 => ?_)
      refine s_aload_n (dt_X_image 24 _ _ _ rfl) rfl ?_
      refine s_getR (o := (some 34)) (dt_X_image 25 _ _ _ rfl) (kf_X_34) (sc_0 hS) rfl rfl ?_
      refine s_getI (dt_X_image 26 _ _ _ rfl) (kf_X_200) (sc_34 hS) rfl ?_
      exact s_iret (dt_X_image 27 _ _ _ rfl) rfl rfl
    · refine s_iconst (dt_X_image 7 _ _ _ rfl) rfl ?_
      exact s_iret (dt_X_image 8 _ _ _ rfl) rfl rfl
theorem c_X_image {S : KS} (hS : KExt 382 S)  (a0 : Int) (M : KM) : ∀ q, f_X_image a0 M = some q → Ctr y_X_image Y_X_image [VR (some 0), VI a0] S M (some (VI q.1)) S (q.2) := fun q hq =>
  ctr_of md_X_image (Nat.le_of_ble_eq_true rfl) ⟨Nat.le_refl _, Nat.le_refl _⟩ 0 hq rfl (fun _ G => sim_X_image hS  a0 M)
noncomputable def f_X_back (a0 : Int) (M : KM) : Option (Int × KM) := (if a0 < 0 then some ((-1), M) else (if a0 < 3 then (if isInV (M 0 7) a0 = 0 then some ((-1), M) else (if 0 ≤ a0 ∧ a0 < 3 then (if kStB (361 + 7 * (a0).toNat) = true then Option.bind (f_State_copy (361 + 7 * (a0).toNat) 34 M) (fun q2 => Option.bind (f_History_begin q2) (fun q3 => some (q3 34 4, q3))) else none) else none)) else some ((-1), M)))
set_option maxRecDepth 100000 in
theorem sim_X_back {G : Gam} {S : KS} (hS : KExt 382 S)  (a0 : Int) (M : KM) : Sim G Y_X_back (f_X_back a0 M) (kC 0 [some (VR (some 0)), some (VI a0)] [] S M) (fun (q : Int × KM) => Sum.inr (some (VI q.1), S, q.2)) := by
  unfold f_X_back
  refine s_iload_n (dt_X_back 0 _ _ _ rfl) rfl ?_
  refine s_if_lt (tgt := 24) (dt_X_back 1 _ _ _ rfl) rfl ?_ ?_
  · refine s_iconst (dt_X_back 12 _ _ _ rfl) rfl ?_
    exact s_iret (dt_X_back 13 _ _ _ rfl) rfl rfl
  · refine s_iload_n (dt_X_back 2 _ _ _ rfl) rfl ?_
    refine s_aload_n (dt_X_back 3 _ _ _ rfl) rfl ?_
    refine s_getR (o := (some 330)) (dt_X_back 4 _ _ _ rfl) (kf_X_45) (sc_0 hS) rfl rfl ?_
    refine s_alen (N := 3) (dt_X_back 5 _ _ _ rfl) (sc_330 hS) rfl rfl (by decide) ?_
    refine s_if_icmp_ge (tgt := 24) (dt_X_back 6 _ _ _ rfl) rfl ?_ ?_
    · refine s_aload_n (dt_X_back 7 _ _ _ rfl) rfl ?_
      refine s_getI (dt_X_back 8 _ _ _ rfl) (kf_X_49) (sc_0 hS) rfl ?_
      refine s_iload_n (dt_X_back 9 _ _ _ rfl) rfl ?_
      refine s_inv (y := y_X_isIn) (Y' := Y_X_isIn) (as := [VI (M 0 7), VI a0]) (r := some (VI (isInV (M 0 7) a0))) (M' := M) (kInvS (dt_X_back 10 _ _ _ rfl) kst_X_isIn rfl) kl_X_186 md_X_isIn rfl rfl (c_X_isIn hS (M 0 7) a0 M) ?_
      refine s_if_ne (tgt := 26) (dt_X_back 11 _ _ _ rfl) rfl ?_ ?_
      · refine s_iconst (dt_X_back 12 _ _ _ rfl) rfl ?_
        exact s_iret (dt_X_back 13 _ _ _ rfl) rfl rfl
      · refine s_aload_n (dt_X_back 14 _ _ _ rfl) rfl ?_
        refine s_getR (o := (some 330)) (dt_X_back 15 _ _ _ rfl) (kf_X_45) (sc_0 hS) rfl rfl ?_
        refine s_iload_n (dt_X_back 16 _ _ _ rfl) rfl ?_
        refine s_aald (N := 3) (o := some (361 + 7 * (a0).toNat)) (dt_X_back 17 _ _ _ rfl) (sc_330 hS) rfl ho_box ?_
        refine s_aload_n (dt_X_back 18 _ _ _ rfl) rfl ?_
        refine s_getR (o := (some 34)) (dt_X_back 19 _ _ _ rfl) (kf_X_34) (sc_0 hS) rfl rfl ?_
        refine s_if (fun h1 => ?_)
        refine s_callO (y := y_State_copy) (Y' := Y_State_copy) (as := [VR (some (361 + 7 * (a0).toNat)), VR (some 34)]) (r := fun q => none) (M' := fun q => q) (kInvS (dt_X_back 20 _ _ _ rfl) kst_State_copy rfl) kl_X_416 md_State_copy rfl rfl (fun q hq => c_State_copy hS (kSt_of hS h1) (kSt_of hS (by decide)) M q hq) (fun q2 => ?_)
        refine s_aload_n (dt_X_back 21 _ _ _ rfl) rfl ?_
        refine s_getR (o := (some 41)) (dt_X_back 22 _ _ _ rfl) (kf_X_41) (sc_0 hS) rfl rfl ?_
        refine s_aload_n (dt_X_back 23 _ _ _ rfl) rfl ?_
        refine s_getR (o := (some 34)) (dt_X_back 24 _ _ _ rfl) (kf_X_34) (sc_0 hS) rfl rfl ?_
        refine s_callO (y := y_History_begin) (Y' := Y_History_begin) (as := [VR (some 41), VR (some 34)]) (r := fun q => none) (M' := fun q => q) (kInvV (dt_X_back 25 _ _ _ rfl) kin_History_begin 6 rfl (sc_41 hS) kse_History_begin rfl) kl_X_104 md_History_begin rfl rfl (fun q hq => c_History_begin hS q2 q hq) (fun q3 => ?_)
        refine s_aload_n (dt_X_back 26 _ _ _ rfl) rfl ?_
        refine s_getR (o := (some 34)) (dt_X_back 27 _ _ _ rfl) (kf_X_34) (sc_0 hS) rfl rfl ?_
        refine s_getI (dt_X_back 28 _ _ _ rfl) (kf_X_200) (sc_34 hS) rfl ?_
        exact s_iret (dt_X_back 29 _ _ _ rfl) rfl rfl
    · refine s_iconst (dt_X_back 12 _ _ _ rfl) rfl ?_
      exact s_iret (dt_X_back 13 _ _ _ rfl) rfl rfl
theorem c_X_back {S : KS} (hS : KExt 382 S)  (a0 : Int) (M : KM) : ∀ q, f_X_back a0 M = some q → Ctr y_X_back Y_X_back [VR (some 0), VI a0] S M (some (VI q.1)) S (q.2) := fun q hq =>
  ctr_of md_X_back (Nat.le_of_ble_eq_true rfl) ⟨Nat.le_refl _, Nat.le_refl _⟩ 0 hq rfl (fun _ G => sim_X_back hS  a0 M)
noncomputable def f_X_about (a0 : Int) (M : KM) : Option (Int) := (if a0 = 0 then some (M 2 0) else (if a0 = 1 then some (M 2 5) else (if a0 = 2 then some (M 2 9) else (if a0 = 3 then some (M 2 12) else (if a0 = 4 then some (M 2 13) else (if a0 = 5 then some (M 34 4) else (if a0 = 6 then some (M 34 5) else (if a0 = 7 then some (M 34 3) else (if a0 = 8 then some (M 34 6) else (if a0 = 9 then some (M 34 7) else (if a0 = 10 then some (M 41 2) else (if a0 = 11 then some (M 41 3) else (if a0 = 12 then Option.bind (f_JI_bitCount (M 0 9) M) (fun q1 => some q1) else (if a0 = 13 then some (M 349 0) else (if a0 = 14 then some (M 349 1) else (if a0 = 15 then some (M 0 1) else (if a0 = 16 then some (M 2 15) else (if a0 = 17 then some (M 0 16) else some (-1)))))))))))))))))))
set_option maxRecDepth 100000 in
theorem sim_X_about {G : Gam} {S : KS} (hS : KExt 382 S)  (a0 : Int) (M : KM) : Sim G Y_X_about (f_X_about a0 M) (kC 0 [some (VR (some 0)), some (VI a0)] [] S M) (fun (q : Int) => Sum.inr (some (VI q), S, M)) := by
  unfold f_X_about
  refine s_iload_n (dt_X_about 0 _ _ _ rfl) rfl ?_
  refine s_tcase (tgt := 88) (dt_X_about 1 _ _ _ rfl) rfl rfl rfl ?_ (fun h2 => ?_)
  · refine s_aload_n (dt_X_about 2 _ _ _ rfl) rfl ?_
    refine s_getR (o := (some 2)) (dt_X_about 3 _ _ _ rfl) (kf_X_20) (sc_0 hS) rfl rfl ?_
    refine s_getI (dt_X_about 4 _ _ _ rfl) (kf_X_124) (sc_2 hS) rfl ?_
    exact s_iret (dt_X_about 5 _ _ _ rfl) rfl rfl
  refine s_tcase (tgt := 96) (dt_X_about 1 _ _ _ rfl) rfl rfl rfl ?_ (fun h3 => ?_)
  · refine s_aload_n (dt_X_about 6 _ _ _ rfl) rfl ?_
    refine s_getR (o := (some 2)) (dt_X_about 7 _ _ _ rfl) (kf_X_20) (sc_0 hS) rfl rfl ?_
    refine s_getI (dt_X_about 8 _ _ _ rfl) (kf_X_354) (sc_2 hS) rfl ?_
    exact s_iret (dt_X_about 9 _ _ _ rfl) rfl rfl
  refine s_tcase (tgt := 104) (dt_X_about 1 _ _ _ rfl) rfl rfl rfl ?_ (fun h4 => ?_)
  · refine s_aload_n (dt_X_about 10 _ _ _ rfl) rfl ?_
    refine s_getR (o := (some 2)) (dt_X_about 11 _ _ _ rfl) (kf_X_20) (sc_0 hS) rfl rfl ?_
    refine s_getI (dt_X_about 12 _ _ _ rfl) (kf_X_174) (sc_2 hS) rfl ?_
    exact s_iret (dt_X_about 13 _ _ _ rfl) rfl rfl
  refine s_tcase (tgt := 112) (dt_X_about 1 _ _ _ rfl) rfl rfl rfl ?_ (fun h5 => ?_)
  · refine s_aload_n (dt_X_about 14 _ _ _ rfl) rfl ?_
    refine s_getR (o := (some 2)) (dt_X_about 15 _ _ _ rfl) (kf_X_20) (sc_0 hS) rfl rfl ?_
    refine s_getI (dt_X_about 16 _ _ _ rfl) (kf_X_177) (sc_2 hS) rfl ?_
    exact s_iret (dt_X_about 17 _ _ _ rfl) rfl rfl
  refine s_tcase (tgt := 120) (dt_X_about 1 _ _ _ rfl) rfl rfl rfl ?_ (fun h6 => ?_)
  · refine s_aload_n (dt_X_about 18 _ _ _ rfl) rfl ?_
    refine s_getR (o := (some 2)) (dt_X_about 19 _ _ _ rfl) (kf_X_20) (sc_0 hS) rfl rfl ?_
    refine s_getI (dt_X_about 20 _ _ _ rfl) (kf_X_180) (sc_2 hS) rfl ?_
    exact s_iret (dt_X_about 21 _ _ _ rfl) rfl rfl
  refine s_tcase (tgt := 128) (dt_X_about 1 _ _ _ rfl) rfl rfl rfl ?_ (fun h7 => ?_)
  · refine s_aload_n (dt_X_about 22 _ _ _ rfl) rfl ?_
    refine s_getR (o := (some 34)) (dt_X_about 23 _ _ _ rfl) (kf_X_34) (sc_0 hS) rfl rfl ?_
    refine s_getI (dt_X_about 24 _ _ _ rfl) (kf_X_200) (sc_34 hS) rfl ?_
    exact s_iret (dt_X_about 25 _ _ _ rfl) rfl rfl
  refine s_tcase (tgt := 136) (dt_X_about 1 _ _ _ rfl) rfl rfl rfl ?_ (fun h8 => ?_)
  · refine s_aload_n (dt_X_about 26 _ _ _ rfl) rfl ?_
    refine s_getR (o := (some 34)) (dt_X_about 27 _ _ _ rfl) (kf_X_34) (sc_0 hS) rfl rfl ?_
    refine s_getI (dt_X_about 28 _ _ _ rfl) (kf_X_263) (sc_34 hS) rfl ?_
    exact s_iret (dt_X_about 29 _ _ _ rfl) rfl rfl
  refine s_tcase (tgt := 144) (dt_X_about 1 _ _ _ rfl) rfl rfl rfl ?_ (fun h9 => ?_)
  · refine s_aload_n (dt_X_about 30 _ _ _ rfl) rfl ?_
    refine s_getR (o := (some 34)) (dt_X_about 31 _ _ _ rfl) (kf_X_34) (sc_0 hS) rfl rfl ?_
    refine s_getI (dt_X_about 32 _ _ _ rfl) (kf_X_183) (sc_34 hS) rfl ?_
    exact s_iret (dt_X_about 33 _ _ _ rfl) rfl rfl
  refine s_tcase (tgt := 152) (dt_X_about 1 _ _ _ rfl) rfl rfl rfl ?_ (fun h10 => ?_)
  · refine s_aload_n (dt_X_about 34 _ _ _ rfl) rfl ?_
    refine s_getR (o := (some 34)) (dt_X_about 35 _ _ _ rfl) (kf_X_34) (sc_0 hS) rfl rfl ?_
    refine s_getI (dt_X_about 36 _ _ _ rfl) (kf_X_238) (sc_34 hS) rfl ?_
    exact s_iret (dt_X_about 37 _ _ _ rfl) rfl rfl
  refine s_tcase (tgt := 160) (dt_X_about 1 _ _ _ rfl) rfl rfl rfl ?_ (fun h11 => ?_)
  · refine s_aload_n (dt_X_about 38 _ _ _ rfl) rfl ?_
    refine s_getR (o := (some 34)) (dt_X_about 39 _ _ _ rfl) (kf_X_34) (sc_0 hS) rfl rfl ?_
    refine s_getI (dt_X_about 40 _ _ _ rfl) (kf_X_420) (sc_34 hS) rfl ?_
    exact s_iret (dt_X_about 41 _ _ _ rfl) rfl rfl
  refine s_tcase (tgt := 168) (dt_X_about 1 _ _ _ rfl) rfl rfl rfl ?_ (fun h12 => ?_)
  · refine s_aload_n (dt_X_about 42 _ _ _ rfl) rfl ?_
    refine s_getR (o := (some 41)) (dt_X_about 43 _ _ _ rfl) (kf_X_41) (sc_0 hS) rfl rfl ?_
    refine s_getI (dt_X_about 44 _ _ _ rfl) (kf_X_423) (sc_41 hS) rfl ?_
    exact s_iret (dt_X_about 45 _ _ _ rfl) rfl rfl
  refine s_tcase (tgt := 176) (dt_X_about 1 _ _ _ rfl) rfl rfl rfl ?_ (fun h13 => ?_)
  · refine s_aload_n (dt_X_about 46 _ _ _ rfl) rfl ?_
    refine s_getR (o := (some 41)) (dt_X_about 47 _ _ _ rfl) (kf_X_41) (sc_0 hS) rfl rfl ?_
    refine s_getI (dt_X_about 48 _ _ _ rfl) (kf_X_426) (sc_41 hS) rfl ?_
    exact s_iret (dt_X_about 49 _ _ _ rfl) rfl rfl
  refine s_tcase (tgt := 184) (dt_X_about 1 _ _ _ rfl) rfl rfl rfl ?_ (fun h14 => ?_)
  · refine s_aload_n (dt_X_about 50 _ _ _ rfl) rfl ?_
    refine s_getI (dt_X_about 51 _ _ _ rfl) (kf_X_56) (sc_0 hS) rfl ?_
    refine s_callO (y := y_JI_bitCount) (Y' := Y_JI_bitCount) (as := [VI (M 0 9)]) (r := fun q => some (VI q)) (M' := fun q => M) (kInvS (dt_X_about 52 _ _ _ rfl) kst_JI_bitCount rfl) kl_X_292 md_JI_bitCount rfl rfl (fun q hq => c_JI_bitCount hS (M 0 9) M q hq) (fun q1 => ?_)
    exact s_iret (dt_X_about 53 _ _ _ rfl) rfl rfl
  refine s_tcase (tgt := 192) (dt_X_about 1 _ _ _ rfl) rfl rfl rfl ?_ (fun h15 => ?_)
  · refine s_aload_n (dt_X_about 54 _ _ _ rfl) rfl ?_
    refine s_getR (o := (some 349)) (dt_X_about 55 _ _ _ rfl) (kf_X_83) (sc_0 hS) rfl rfl ?_
    refine s_getI (dt_X_about 56 _ _ _ rfl) (kf_X_378) (sc_349 hS) rfl ?_
    exact s_iret (dt_X_about 57 _ _ _ rfl) rfl rfl
  refine s_tcase (tgt := 200) (dt_X_about 1 _ _ _ rfl) rfl rfl rfl ?_ (fun h16 => ?_)
  · refine s_aload_n (dt_X_about 58 _ _ _ rfl) rfl ?_
    refine s_getR (o := (some 349)) (dt_X_about 59 _ _ _ rfl) (kf_X_83) (sc_0 hS) rfl rfl ?_
    refine s_getI (dt_X_about 60 _ _ _ rfl) (kf_X_386) (sc_349 hS) rfl ?_
    exact s_iret (dt_X_about 61 _ _ _ rfl) rfl rfl
  refine s_tcase (tgt := 208) (dt_X_about 1 _ _ _ rfl) rfl rfl rfl ?_ (fun h17 => ?_)
  · refine s_aload_n (dt_X_about 62 _ _ _ rfl) rfl ?_
    refine s_getI (dt_X_about 63 _ _ _ rfl) (kf_X_13) (sc_0 hS) rfl ?_
    exact s_iret (dt_X_about 64 _ _ _ rfl) rfl rfl
  refine s_tcase (tgt := 213) (dt_X_about 1 _ _ _ rfl) rfl rfl rfl ?_ (fun h18 => ?_)
  · refine s_aload_n (dt_X_about 65 _ _ _ rfl) rfl ?_
    refine s_getR (o := (some 2)) (dt_X_about 66 _ _ _ rfl) (kf_X_20) (sc_0 hS) rfl rfl ?_
    refine s_getI (dt_X_about 67 _ _ _ rfl) (kf_X_429) (sc_2 hS) rfl ?_
    exact s_iret (dt_X_about 68 _ _ _ rfl) rfl rfl
  refine s_tcase (tgt := 221) (dt_X_about 1 _ _ _ rfl) rfl rfl rfl ?_ (fun h19 => ?_)
  · refine s_aload_n (dt_X_about 69 _ _ _ rfl) rfl ?_
    refine s_getI (dt_X_about 70 _ _ _ rfl) (kf_X_97) (sc_0 hS) rfl ?_
    exact s_iret (dt_X_about 71 _ _ _ rfl) rfl rfl
  refine s_tdef (tgt := 226) (dt_X_about 1 _ _ _ rfl) (by omega) rfl ?_
  refine s_iconst (dt_X_about 72 _ _ _ rfl) rfl ?_
  exact s_iret (dt_X_about 73 _ _ _ rfl) rfl rfl
theorem c_X_about {S : KS} (hS : KExt 382 S)  (a0 : Int) (M : KM) : ∀ q, f_X_about a0 M = some q → Ctr y_X_about Y_X_about [VR (some 0), VI a0] S M (some (VI q)) S (M) := fun q hq =>
  ctr_of md_X_about (Nat.le_of_ble_eq_true rfl) ⟨Nat.le_refl _, Nat.le_refl _⟩ 0 hq rfl (fun _ G => sim_X_about hS  a0 M)
