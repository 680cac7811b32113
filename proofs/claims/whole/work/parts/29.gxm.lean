noncomputable def f_X_all (a0 : Int) (a1 : Int) (M : KM) : Option (Int × KM) := letM_ (mupd M 0 16 0) (fun M1 => Option.bind (f_X_isAlive a0 M1) (fun q2 => (if q2 = 0 then some ((-1), M1) else Option.bind (f_X_isRight a1 M1) (fun q3 => (if q3 = 0 then some ((-1), M1) else letI_ (w32 ((atM M1 35 8 a0) - (M1 2 12))) (fun v4 => Option.bind (whileO (σ := Int × Int × Int × KM) (ε := KM ⊕ KM) (fun s5 => (if s5.2.2.1 < s5.2.2.2 2 0 then Option.bind (f_X_cheapestToServe a0 a1 s5.1 s5.2.1 s5.2.2.2) (fun q6 => (if q6.1 = (-1) then some (Sum.inr (Sum.inl q6.2)) else Option.bind (f_X_fewestToHave q6.1 a1 s5.1 q6.2) (fun q7 => letI_ (w32 (s5.1 - q7.1)) (fun v8 => letI_ (kior s5.2.1 (kishl 1 q6.1)) (fun v9 => Option.bind (f_X_lay q6.1 q7.2) (fun q10 => some (Sum.inl (v8, v9, w32 (s5.2.2.1 + 1), q10)))))))) else some (Sum.inr (Sum.inr s5.2.2.2)))) (v4, 0, 0, M1)) (Sum.elim (fun e11 => some (e11 0 16, e11)) (fun e12 => some (e12 0 16, e12)))))))))
set_option maxRecDepth 100000 in
theorem sim_X_all {G : Gam} {S : KS} (hS : KExt 382 S)  (a0 : Int) (a1 : Int) (M : KM) : Sim G Y_X_all (f_X_all a0 a1 M) (kC 0 [some (VR (some 0)), some (VI a0), some (VI a1), none, none, none, none] [] S M) (fun (q : Int × KM) => Sum.inr (some (VI q.1), S, q.2)) := by
  unfold f_X_all
  refine s_aload_n (dt_X_all 0 _ _ _ rfl) rfl ?_
  refine s_iconst (dt_X_all 1 _ _ _ rfl) rfl ?_
  refine s_putI (dt_X_all 2 _ _ _ rfl) kp_X_97 (sc_0 hS) ⟨rfl, rfl⟩ ?_
  refine s_letM (fun M1 => ?_)
  refine s_aload_n (dt_X_all 3 _ _ _ rfl) rfl ?_
  refine s_iload_n (dt_X_all 4 _ _ _ rfl) rfl ?_
  refine s_callO (y := y_X_isAlive) (Y' := Y_X_isAlive) (as := [VR (some 0), VI a0]) (r := fun q => some (VI q)) (M' := fun q => M1) (kInvV (dt_X_all 5 _ _ _ rfl) kin_X_isAlive 0 rfl (sc_0 hS) kse_X_isAlive rfl) kl_X_147 md_X_isAlive rfl rfl (fun q hq => c_X_isAlive hS a0 M1 q hq) (fun q2 => ?_)
  refine s_if_eq (tgt := 21) (dt_X_all 6 _ _ _ rfl) rfl ?_ ?_
  · refine s_iconst (dt_X_all 11 _ _ _ rfl) rfl ?_
    exact s_iret (dt_X_all 12 _ _ _ rfl) rfl rfl
  · refine s_aload_n (dt_X_all 7 _ _ _ rfl) rfl ?_
    refine s_iload_n (dt_X_all 8 _ _ _ rfl) rfl ?_
    refine s_callO (y := y_X_isRight) (Y' := Y_X_isRight) (as := [VR (some 0), VI a1]) (r := fun q => some (VI q)) (M' := fun q => M1) (kInvV (dt_X_all 9 _ _ _ rfl) kin_X_isRight 0 rfl (sc_0 hS) kse_X_isRight rfl) kl_X_156 md_X_isRight rfl rfl (fun q hq => c_X_isRight hS a1 M1 q hq) (fun q3 => ?_)
    refine s_if_ne (tgt := 23) (dt_X_all 10 _ _ _ rfl) rfl ?_ ?_
    · refine s_iconst (dt_X_all 11 _ _ _ rfl) rfl ?_
      exact s_iret (dt_X_all 12 _ _ _ rfl) rfl rfl
    · refine s_aload_n (dt_X_all 13 _ _ _ rfl) rfl ?_
      refine s_getR (o := (some 34)) (dt_X_all 14 _ _ _ rfl) (kf_X_34) (sc_0 hS) rfl rfl ?_
      refine s_getR (o := (some 35)) (dt_X_all 15 _ _ _ rfl) (kf_X_137) (sc_34 hS) rfl rfl ?_
      refine s_iload_n (dt_X_all 16 _ _ _ rfl) rfl ?_
      refine s_inv (y := y_X_at) (Y' := Y_X_at) (as := [VR (some 35), VI a0]) (r := some (VI (atM M1 35 8 a0))) (M' := M1) (kInvS (dt_X_all 17 _ _ _ rfl) kst_X_at rfl) kl_X_140 md_X_at rfl rfl (c_X_at hS ⟨(sc_35 hS), by decide⟩ a0 M1) ?_
      refine s_aload_n (dt_X_all 18 _ _ _ rfl) rfl ?_
      refine s_getR (o := (some 2)) (dt_X_all 19 _ _ _ rfl) (kf_X_20) (sc_0 hS) rfl rfl ?_
      refine s_getI (dt_X_all 20 _ _ _ rfl) (kf_X_177) (sc_2 hS) rfl ?_
      refine s_isub (dt_X_all 21 _ _ _ rfl) ?_
      refine s_letI (fun v4 => ?_)
      refine s_istore_n (dt_X_all 22 _ _ _ rfl) rfl ?_
      refine s_iconst (dt_X_all 23 _ _ _ rfl) rfl ?_
      refine s_istore (dt_X_all 24 _ _ _ rfl) rfl ?_
      refine s_iconst (dt_X_all 25 _ _ _ rfl) rfl ?_
      refine s_istore (dt_X_all 26 _ _ _ rfl) rfl ?_
      refine s_bd (κ := (Sum.elim (fun (e11 : KM) => kC 78 [some (VR (some 0)), none, none, none, none, none, none] [] S e11) (fun (e12 : KM) => kC 113 [some (VR (some 0)), none, none, none, none, none, none] [] S e12))) (s_mask [true, true, true, true, true, true, false] (s_while (c := fun s5 => kC 49 [some (VR (some 0)), some (VI a0), some (VI a1), some (VI s5.1), some (VI s5.2.1), some (VI s5.2.2.1), none] [] S s5.2.2.2) (fun s5 => ?_) (v4, 0, 0, M1))) ?_
      · refine s_iload (dt_X_all 27 _ _ _ rfl) rfl ?_
        refine s_aload_n (dt_X_all 28 _ _ _ rfl) rfl ?_
        refine s_getR (o := (some 2)) (dt_X_all 29 _ _ _ rfl) (kf_X_20) (sc_0 hS) rfl rfl ?_
        refine s_getI (dt_X_all 30 _ _ _ rfl) (kf_X_124) (sc_2 hS) rfl ?_
        refine s_if_icmp_ge (tgt := 113) (dt_X_all 31 _ _ _ rfl) rfl ?_ ?_
        · refine s_aload_n (dt_X_all 32 _ _ _ rfl) rfl ?_
          refine s_iload_n (dt_X_all 33 _ _ _ rfl) rfl ?_
          refine s_iload_n (dt_X_all 34 _ _ _ rfl) rfl ?_
          refine s_iload_n (dt_X_all 35 _ _ _ rfl) rfl ?_
          refine s_iload (dt_X_all 36 _ _ _ rfl) rfl ?_
          refine s_callO (y := y_X_cheapestToServe) (Y' := Y_X_cheapestToServe) (as := [VR (some 0), VI a0, VI a1, VI s5.1, VI s5.2.1]) (r := fun q => some (VI q.1)) (M' := fun q => q.2) (kInvV (dt_X_all 37 _ _ _ rfl) kin_X_cheapestToServe 0 rfl (sc_0 hS) kse_X_cheapestToServe rfl) kl_X_375 md_X_cheapestToServe rfl rfl (fun q hq => c_X_cheapestToServe hS a0 a1 s5.1 s5.2.1 s5.2.2.2 q hq) (fun q6 => ?_)
          refine s_istore (dt_X_all 38 _ _ _ rfl) rfl ?_
          refine s_iload (dt_X_all 39 _ _ _ rfl) rfl ?_
          refine s_iconst (dt_X_all 40 _ _ _ rfl) rfl ?_
          refine s_if_icmp_ne (tgt := 81) (dt_X_all 41 _ _ _ rfl) rfl ?_ ?_
          · exact s_mask [true, false, false, false, false, false, false] (s_ret0 rfl)
          · refine s_iload_n (dt_X_all 43 _ _ _ rfl) rfl ?_
            refine s_aload_n (dt_X_all 44 _ _ _ rfl) rfl ?_
            refine s_iload (dt_X_all 45 _ _ _ rfl) rfl ?_
            refine s_iload_n (dt_X_all 46 _ _ _ rfl) rfl ?_
            refine s_iload_n (dt_X_all 47 _ _ _ rfl) rfl ?_
            refine s_callO (y := y_X_fewestToHave) (Y' := Y_X_fewestToHave) (as := [VR (some 0), VI q6.1, VI a1, VI s5.1]) (r := fun q => some (VI q.1)) (M' := fun q => q.2) (kInvV (dt_X_all 48 _ _ _ rfl) kin_X_fewestToHave 0 rfl (sc_0 hS) kse_X_fewestToHave rfl) kl_X_363 md_X_fewestToHave rfl rfl (fun q hq => c_X_fewestToHave hS q6.1 a1 s5.1 q6.2 q hq) (fun q7 => ?_)
            refine s_isub (dt_X_all 49 _ _ _ rfl) ?_
            refine s_letI (fun v8 => ?_)
            refine s_istore_n (dt_X_all 50 _ _ _ rfl) rfl ?_
            refine s_iload (dt_X_all 51 _ _ _ rfl) rfl ?_
            refine s_iconst (dt_X_all 52 _ _ _ rfl) rfl ?_
            refine s_iload (dt_X_all 53 _ _ _ rfl) rfl ?_
            refine s_ishl (dt_X_all 54 _ _ _ rfl) ?_
            refine s_ior (dt_X_all 55 _ _ _ rfl) ?_
            refine s_letI (fun v9 => ?_)
            refine s_istore (dt_X_all 56 _ _ _ rfl) rfl ?_
            refine s_aload_n (dt_X_all 57 _ _ _ rfl) rfl ?_
            refine s_iload (dt_X_all 58 _ _ _ rfl) rfl ?_
            refine s_callO (y := y_X_lay) (Y' := Y_X_lay) (as := [VR (some 0), VI q6.1]) (r := fun q => none) (M' := fun q => q) (kInvV (dt_X_all 59 _ _ _ rfl) kin_X_lay 0 rfl (sc_0 hS) kse_X_lay rfl) kl_X_351 md_X_lay rfl rfl (fun q hq => c_X_lay hS q6.1 q7.2 q hq) (fun q10 => ?_)
            refine s_iinc (dt_X_all 60 _ _ _ rfl) rfl rfl ?_
            refine s_goto (tgt := 49) (dt_X_all 61 _ _ _ rfl) rfl ?_
            exact s_mask [true, true, true, true, true, true, false] (s_ret0 rfl)
        · exact s_mask [true, false, false, false, false, false, false] (s_ret0 rfl)
      refine s_elim (fun e11 => ?_) ?_
      · refine s_goto (tgt := 113) (dt_X_all 42 _ _ _ rfl) rfl ?_
        refine s_aload_n (dt_X_all 62 _ _ _ rfl) rfl ?_
        refine s_getI (dt_X_all 63 _ _ _ rfl) (kf_X_97) (sc_0 hS) rfl ?_
        exact s_iret (dt_X_all 64 _ _ _ rfl) rfl rfl
      intro e12
      refine s_aload_n (dt_X_all 62 _ _ _ rfl) rfl ?_
      refine s_getI (dt_X_all 63 _ _ _ rfl) (kf_X_97) (sc_0 hS) rfl ?_
      exact s_iret (dt_X_all 64 _ _ _ rfl) rfl rfl
theorem c_X_all {S : KS} (hS : KExt 382 S)  (a0 : Int) (a1 : Int) (M : KM) : ∀ q, f_X_all a0 a1 M = some q → Ctr y_X_all Y_X_all [VR (some 0), VI a0, VI a1] S M (some (VI q.1)) S (q.2) := fun q hq =>
  ctr_of md_X_all (Nat.le_of_ble_eq_true rfl) ⟨Nat.le_refl _, Nat.le_refl _⟩ 4 hq rfl (fun _ G => sim_X_all hS  a0 a1 M)
noncomputable def f_X_lies (a0 : Int) (M : KM) : Option (Int) := Option.bind ((if a0 < 0 then some (-1000000) else (if a0 < M 0 16 then some (atM M 360 8 a0) else some (-1000000))) : Option (Int)) (fun t1 => some t1)
set_option maxRecDepth 100000 in
theorem sim_X_lies {G : Gam} {S : KS} (hS : KExt 382 S)  (a0 : Int) (M : KM) : Sim G Y_X_lies (f_X_lies a0 M) (kC 0 [some (VR (some 0)), some (VI a0)] [] S M) (fun (q : Int) => Sum.inr (some (VI q), S, M)) := by
  unfold f_X_lies
  refine s_iload_n (dt_X_lies 0 _ _ _ rfl) rfl ?_
  refine s_bd (κ := fun t1 => kC 25 [none, none] [VI t1] S M) ?_ (fun t1 => ?_)
  · refine s_if_lt (tgt := 23) (dt_X_lies 1 _ _ _ rfl) rfl ?_ ?_
    · refine s_ldc (n := (-1000000)) (kc_X_173) (dt_X_lies 11 _ _ _ rfl) rfl ?_
      exact s_mask [false, false] (s_ret0 rfl)
    · refine s_iload_n (dt_X_lies 2 _ _ _ rfl) rfl ?_
      refine s_aload_n (dt_X_lies 3 _ _ _ rfl) rfl ?_
      refine s_getI (dt_X_lies 4 _ _ _ rfl) (kf_X_97) (sc_0 hS) rfl ?_
      refine s_if_icmp_ge (tgt := 23) (dt_X_lies 5 _ _ _ rfl) rfl ?_ ?_
      · refine s_aload_n (dt_X_lies 6 _ _ _ rfl) rfl ?_
        refine s_getR (o := (some 360)) (dt_X_lies 7 _ _ _ rfl) (kf_X_94) (sc_0 hS) rfl rfl ?_
        refine s_iload_n (dt_X_lies 8 _ _ _ rfl) rfl ?_
        refine s_inv (y := y_X_at) (Y' := Y_X_at) (as := [VR (some 360), VI a0]) (r := some (VI (atM M 360 8 a0))) (M' := M) (kInvS (dt_X_lies 9 _ _ _ rfl) kst_X_at rfl) kl_X_140 md_X_at rfl rfl (c_X_at hS ⟨(sc_360 hS), by decide⟩ a0 M) ?_
        refine s_goto (tgt := 25) (dt_X_lies 10 _ _ _ rfl) rfl ?_
        exact s_mask [false, false] (s_ret0 rfl)
      · refine s_ldc (n := (-1000000)) (kc_X_173) (dt_X_lies 11 _ _ _ rfl) rfl ?_
        exact s_mask [false, false] (s_ret0 rfl)
  exact s_iret (dt_X_lies 12 _ _ _ rfl) rfl rfl
theorem c_X_lies {S : KS} (hS : KExt 382 S)  (a0 : Int) (M : KM) : ∀ q, f_X_lies a0 M = some q → Ctr y_X_lies Y_X_lies [VR (some 0), VI a0] S M (some (VI q)) S (M) := fun q hq =>
  ctr_of md_X_lies (Nat.le_of_ble_eq_true rfl) ⟨Nat.le_refl _, Nat.le_refl _⟩ 0 hq rfl (fun _ G => sim_X_lies hS  a0 M)
noncomputable def f_Faces_add (a0 : Int) (a1 : Int) (M : KM) : Option (Int × KM) := letM_ (putM M 350 30 (M 349 0) a0) (fun M1 => letM_ (putM M1 351 30 (M1 349 0) a1) (fun M2 => letM_ (putM M2 352 30 (M2 349 0) (M2 349 1)) (fun M3 => letM_ (putM M3 353 30 (M3 349 0) (-1)) (fun M4 => letM_ (mupd M4 349 0 (w32 ((M4 349 0) + 1))) (fun M5 => some (w32 ((M5 349 0) - 1), M5))))))
set_option maxRecDepth 100000 in
theorem sim_Faces_add {G : Gam} {S : KS} (hS : KExt 382 S)  (a0 : Int) (a1 : Int) (M : KM) : Sim G Y_Faces_add (f_Faces_add a0 a1 M) (kC 0 [some (VR (some 349)), some (VI a0), some (VI a1)] [] S M) (fun (q : Int × KM) => Sum.inr (some (VI q.1), S, q.2)) := by
  unfold f_Faces_add
  refine s_aload_n (dt_Faces_add 0 _ _ _ rfl) rfl ?_
  refine s_getR (o := (some 350)) (dt_Faces_add 1 _ _ _ rfl) (kf_Faces_18) (sc_349 hS) rfl rfl ?_
  refine s_aload_n (dt_Faces_add 2 _ _ _ rfl) rfl ?_
  refine s_getI (dt_Faces_add 3 _ _ _ rfl) (kf_Faces_9) (sc_349 hS) rfl ?_
  refine s_iload_n (dt_Faces_add 4 _ _ _ rfl) rfl ?_
  refine s_inv (y := y_X_put) (Y' := Y_X_put) (as := [VR (some 350), VI (M 349 0), VI a0]) (r := none) (M' := (putM M 350 30 (M 349 0) a0)) (kInvS (dt_Faces_add 5 _ _ _ rfl) kst_X_put rfl) kl_Faces_41 md_X_put rfl rfl (c_X_put hS ⟨(sc_350 hS), by decide⟩ (M 349 0) a0 M) ?_
  refine s_letM (fun M1 => ?_)
  refine s_aload_n (dt_Faces_add 6 _ _ _ rfl) rfl ?_
  refine s_getR (o := (some 351)) (dt_Faces_add 7 _ _ _ rfl) (kf_Faces_22) (sc_349 hS) rfl rfl ?_
  refine s_aload_n (dt_Faces_add 8 _ _ _ rfl) rfl ?_
  refine s_getI (dt_Faces_add 9 _ _ _ rfl) (kf_Faces_9) (sc_349 hS) rfl ?_
  refine s_iload_n (dt_Faces_add 10 _ _ _ rfl) rfl ?_
  refine s_inv (y := y_X_put) (Y' := Y_X_put) (as := [VR (some 351), VI (M1 349 0), VI a1]) (r := none) (M' := (putM M1 351 30 (M1 349 0) a1)) (kInvS (dt_Faces_add 11 _ _ _ rfl) kst_X_put rfl) kl_Faces_41 md_X_put rfl rfl (c_X_put hS ⟨(sc_351 hS), by decide⟩ (M1 349 0) a1 M1) ?_
  refine s_letM (fun M2 => ?_)
  refine s_aload_n (dt_Faces_add 12 _ _ _ rfl) rfl ?_
  refine s_getR (o := (some 352)) (dt_Faces_add 13 _ _ _ rfl) (kf_Faces_25) (sc_349 hS) rfl rfl ?_
  refine s_aload_n (dt_Faces_add 14 _ _ _ rfl) rfl ?_
  refine s_getI (dt_Faces_add 15 _ _ _ rfl) (kf_Faces_9) (sc_349 hS) rfl ?_
  refine s_aload_n (dt_Faces_add 16 _ _ _ rfl) rfl ?_
  refine s_getI (dt_Faces_add 17 _ _ _ rfl) (kf_Faces_15) (sc_349 hS) rfl ?_
  refine s_inv (y := y_X_put) (Y' := Y_X_put) (as := [VR (some 352), VI (M2 349 0), VI (M2 349 1)]) (r := none) (M' := (putM M2 352 30 (M2 349 0) (M2 349 1))) (kInvS (dt_Faces_add 18 _ _ _ rfl) kst_X_put rfl) kl_Faces_41 md_X_put rfl rfl (c_X_put hS ⟨(sc_352 hS), by decide⟩ (M2 349 0) (M2 349 1) M2) ?_
  refine s_letM (fun M3 => ?_)
  refine s_aload_n (dt_Faces_add 19 _ _ _ rfl) rfl ?_
  refine s_getR (o := (some 353)) (dt_Faces_add 20 _ _ _ rfl) (kf_Faces_28) (sc_349 hS) rfl rfl ?_
  refine s_aload_n (dt_Faces_add 21 _ _ _ rfl) rfl ?_
  refine s_getI (dt_Faces_add 22 _ _ _ rfl) (kf_Faces_9) (sc_349 hS) rfl ?_
  refine s_iconst (dt_Faces_add 23 _ _ _ rfl) rfl ?_
  refine s_inv (y := y_X_put) (Y' := Y_X_put) (as := [VR (some 353), VI (M3 349 0), VI (-1)]) (r := none) (M' := (putM M3 353 30 (M3 349 0) (-1))) (kInvS (dt_Faces_add 24 _ _ _ rfl) kst_X_put rfl) kl_Faces_41 md_X_put rfl rfl (c_X_put hS ⟨(sc_353 hS), by decide⟩ (M3 349 0) (-1) M3) ?_
  refine s_letM (fun M4 => ?_)
  refine s_aload_n (dt_Faces_add 25 _ _ _ rfl) rfl ?_
  refine s_dup (dt_Faces_add 26 _ _ _ rfl) rfl ?_
  refine s_getI (dt_Faces_add 27 _ _ _ rfl) (kf_Faces_9) (sc_349 hS) rfl ?_
  refine s_iconst (dt_Faces_add 28 _ _ _ rfl) rfl ?_
  refine s_iadd (dt_Faces_add 29 _ _ _ rfl) ?_
  refine s_putI (dt_Faces_add 30 _ _ _ rfl) kp_Faces_9 (sc_349 hS) ⟨rfl, rfl⟩ ?_
  refine s_letM (fun M5 => ?_)
  refine s_aload_n (dt_Faces_add 31 _ _ _ rfl) rfl ?_
  refine s_getI (dt_Faces_add 32 _ _ _ rfl) (kf_Faces_9) (sc_349 hS) rfl ?_
  refine s_iconst (dt_Faces_add 33 _ _ _ rfl) rfl ?_
  refine s_isub (dt_Faces_add 34 _ _ _ rfl) ?_
  exact s_iret (dt_Faces_add 35 _ _ _ rfl) rfl rfl
theorem c_Faces_add {S : KS} (hS : KExt 382 S)  (a0 : Int) (a1 : Int) (M : KM) : ∀ q, f_Faces_add a0 a1 M = some q → Ctr y_Faces_add Y_Faces_add [VR (some 349), VI a0, VI a1] S M (some (VI q.1)) S (q.2) := fun q hq =>
  ctr_of md_Faces_add (Nat.le_of_ble_eq_true rfl) ⟨Nat.le_refl _, Nat.le_refl _⟩ 0 hq rfl (fun _ G => sim_Faces_add hS  a0 a1 M)
noncomputable def f_X_face (a0 : Int) (a1 : Int) (M : KM) : Option (Int × KM) := Option.bind (f_X_isPerson a0 M) (fun q1 => (if q1 = 0 then some ((-1), M) else Option.bind (f_X_isAge a1 M) (fun q2 => (if q2 = 0 then some ((-1), M) else (if M 349 0 < 30 then Option.bind (f_Faces_add a0 a1 M) (fun q3 => some (q3.1, q3.2)) else some ((-1), M))))))
set_option maxRecDepth 100000 in
theorem sim_X_face {G : Gam} {S : KS} (hS : KExt 382 S)  (a0 : Int) (a1 : Int) (M : KM) : Sim G Y_X_face (f_X_face a0 a1 M) (kC 0 [some (VR (some 0)), some (VI a0), some (VI a1)] [] S M) (fun (q : Int × KM) => Sum.inr (some (VI q.1), S, q.2)) := by
  unfold f_X_face
  refine s_aload_n (dt_X_face 0 _ _ _ rfl) rfl ?_
  refine s_iload_n (dt_X_face 1 _ _ _ rfl) rfl ?_
  refine s_callO (y := y_X_isPerson) (Y' := Y_X_isPerson) (as := [VR (some 0), VI a0]) (r := fun q => some (VI q)) (M' := fun q => M) (kInvV (dt_X_face 2 _ _ _ rfl) kin_X_isPerson 0 rfl (sc_0 hS) kse_X_isPerson rfl) kl_X_133 md_X_isPerson rfl rfl (fun q hq => c_X_isPerson hS a0 M q hq) (fun q1 => ?_)
  refine s_if_eq (tgt := 28) (dt_X_face 3 _ _ _ rfl) rfl ?_ ?_
  · refine s_iconst (dt_X_face 13 _ _ _ rfl) rfl ?_
    exact s_iret (dt_X_face 14 _ _ _ rfl) rfl rfl
  · refine s_aload_n (dt_X_face 4 _ _ _ rfl) rfl ?_
    refine s_iload_n (dt_X_face 5 _ _ _ rfl) rfl ?_
    refine s_callO (y := y_X_isAge) (Y' := Y_X_isAge) (as := [VR (some 0), VI a1]) (r := fun q => some (VI q)) (M' := fun q => M) (kInvV (dt_X_face 6 _ _ _ rfl) kin_X_isAge 0 rfl (sc_0 hS) kse_X_isAge rfl) kl_X_163 md_X_isAge rfl rfl (fun q hq => c_X_isAge hS a1 M q hq) (fun q2 => ?_)
    refine s_if_eq (tgt := 28) (dt_X_face 7 _ _ _ rfl) rfl ?_ ?_
    · refine s_iconst (dt_X_face 13 _ _ _ rfl) rfl ?_
      exact s_iret (dt_X_face 14 _ _ _ rfl) rfl rfl
    · refine s_aload_n (dt_X_face 8 _ _ _ rfl) rfl ?_
      refine s_getR (o := (some 349)) (dt_X_face 9 _ _ _ rfl) (kf_X_83) (sc_0 hS) rfl rfl ?_
      refine s_getI (dt_X_face 10 _ _ _ rfl) (kf_X_378) (sc_349 hS) rfl ?_
      refine s_bipush (dt_X_face 11 _ _ _ rfl) rfl ?_
      refine s_if_icmp_lt (tgt := 30) (dt_X_face 12 _ _ _ rfl) rfl ?_ ?_
      · refine s_aload_n (dt_X_face 15 _ _ _ rfl) rfl ?_
        refine s_getR (o := (some 349)) (dt_X_face 16 _ _ _ rfl) (kf_X_83) (sc_0 hS) rfl rfl ?_
        refine s_iload_n (dt_X_face 17 _ _ _ rfl) rfl ?_
        refine s_iload_n (dt_X_face 18 _ _ _ rfl) rfl ?_
        refine s_callO (y := y_Faces_add) (Y' := Y_Faces_add) (as := [VR (some 349), VI a0, VI a1]) (r := fun q => some (VI q.1)) (M' := fun q => q.2) (kInvV (dt_X_face 19 _ _ _ rfl) kin_Faces_add 3 rfl (sc_349 hS) kse_Faces_add rfl) kl_X_381 md_Faces_add rfl rfl (fun q hq => c_Faces_add hS a0 a1 M q hq) (fun q3 => ?_)
        exact s_iret (dt_X_face 20 _ _ _ rfl) rfl rfl
      · refine s_iconst (dt_X_face 13 _ _ _ rfl) rfl ?_
        exact s_iret (dt_X_face 14 _ _ _ rfl) rfl rfl
theorem c_X_face {S : KS} (hS : KExt 382 S)  (a0 : Int) (a1 : Int) (M : KM) : ∀ q, f_X_face a0 a1 M = some q → Ctr y_X_face Y_X_face [VR (some 0), VI a0, VI a1] S M (some (VI q.1)) S (q.2) := fun q hq =>
  ctr_of md_X_face (Nat.le_of_ble_eq_true rfl) ⟨Nat.le_refl _, Nat.le_refl _⟩ 0 hq rfl (fun _ G => sim_X_face hS  a0 a1 M)
noncomputable def f_Faces_takeBack (a0 : Int) (M : KM) : Option (Int × KM) := (if a0 < 0 then some (0, M) else (if a0 < M 349 0 then (if atM M 353 30 a0 = (-1) then letM_ (putM M 353 30 a0 (M 349 1)) (fun M1 => some (1, M1)) else some (0, M)) else some (0, M)))
set_option maxRecDepth 100000 in
theorem sim_Faces_takeBack {G : Gam} {S : KS} (hS : KExt 382 S)  (a0 : Int) (M : KM) : Sim G Y_Faces_takeBack (f_Faces_takeBack a0 M) (kC 0 [some (VR (some 349)), some (VI a0)] [] S M) (fun (q : Int × KM) => Sum.inr (some (VI q.1), S, q.2)) := by
  unfold f_Faces_takeBack
  refine s_iload_n (dt_Faces_takeBack 0 _ _ _ rfl) rfl ?_
  refine s_if_lt (tgt := 24) (dt_Faces_takeBack 1 _ _ _ rfl) rfl ?_ ?_
  · refine s_iconst (dt_Faces_takeBack 12 _ _ _ rfl) rfl ?_
    exact s_zret01 (dt_Faces_takeBack 13 _ _ _ rfl) rfl rfl rfl
  · refine s_iload_n (dt_Faces_takeBack 2 _ _ _ rfl) rfl ?_
    refine s_aload_n (dt_Faces_takeBack 3 _ _ _ rfl) rfl ?_
    refine s_getI (dt_Faces_takeBack 4 _ _ _ rfl) (kf_Faces_9) (sc_349 hS) rfl ?_
    refine s_if_icmp_ge (tgt := 24) (dt_Faces_takeBack 5 _ _ _ rfl) rfl ?_ ?_
    · refine s_aload_n (dt_Faces_takeBack 6 _ _ _ rfl) rfl ?_
      refine s_getR (o := (some 353)) (dt_Faces_takeBack 7 _ _ _ rfl) (kf_Faces_28) (sc_349 hS) rfl rfl ?_
      refine s_iload_n (dt_Faces_takeBack 8 _ _ _ rfl) rfl ?_
      refine s_inv (y := y_X_at) (Y' := Y_X_at) (as := [VR (some 353), VI a0]) (r := some (VI (atM M 353 30 a0))) (M' := M) (kInvS (dt_Faces_takeBack 9 _ _ _ rfl) kst_X_at rfl) kl_Faces_45 md_X_at rfl rfl (c_X_at hS ⟨(sc_353 hS), by decide⟩ a0 M) ?_
      refine s_iconst (dt_Faces_takeBack 10 _ _ _ rfl) rfl ?_
      refine s_if_icmp_eq (tgt := 26) (dt_Faces_takeBack 11 _ _ _ rfl) rfl ?_ ?_
      · refine s_aload_n (dt_Faces_takeBack 14 _ _ _ rfl) rfl ?_
        refine s_getR (o := (some 353)) (dt_Faces_takeBack 15 _ _ _ rfl) (kf_Faces_28) (sc_349 hS) rfl rfl ?_
        refine s_iload_n (dt_Faces_takeBack 16 _ _ _ rfl) rfl ?_
        refine s_aload_n (dt_Faces_takeBack 17 _ _ _ rfl) rfl ?_
        refine s_getI (dt_Faces_takeBack 18 _ _ _ rfl) (kf_Faces_15) (sc_349 hS) rfl ?_
        refine s_inv (y := y_X_put) (Y' := Y_X_put) (as := [VR (some 353), VI a0, VI (M 349 1)]) (r := none) (M' := (putM M 353 30 a0 (M 349 1))) (kInvS (dt_Faces_takeBack 19 _ _ _ rfl) kst_X_put rfl) kl_Faces_41 md_X_put rfl rfl (c_X_put hS ⟨(sc_353 hS), by decide⟩ a0 (M 349 1) M) ?_
        refine s_letM (fun M1 => ?_)
        refine s_iconst (dt_Faces_takeBack 20 _ _ _ rfl) rfl ?_
        exact s_zret01 (dt_Faces_takeBack 21 _ _ _ rfl) rfl rfl rfl
      · refine s_iconst (dt_Faces_takeBack 12 _ _ _ rfl) rfl ?_
        exact s_zret01 (dt_Faces_takeBack 13 _ _ _ rfl) rfl rfl rfl
    · refine s_iconst (dt_Faces_takeBack 12 _ _ _ rfl) rfl ?_
      exact s_zret01 (dt_Faces_takeBack 13 _ _ _ rfl) rfl rfl rfl
theorem c_Faces_takeBack {S : KS} (hS : KExt 382 S)  (a0 : Int) (M : KM) : ∀ q, f_Faces_takeBack a0 M = some q → Ctr y_Faces_takeBack Y_Faces_takeBack [VR (some 349), VI a0] S M (some (VI q.1)) S (q.2) := fun q hq =>
  ctr_of md_Faces_takeBack (Nat.le_of_ble_eq_true rfl) ⟨Nat.le_refl _, Nat.le_refl _⟩ 0 hq rfl (fun _ G => sim_Faces_takeBack hS  a0 M)
noncomputable def f_X_untell (a0 : Int) (M : KM) : Option (Int × KM) := Option.bind (f_Faces_takeBack a0 M) (fun q1 => (if 0 ≤ q1.1 ∧ q1.1 ≤ 1 then some (q1.1, q1.2) else none))
set_option maxRecDepth 100000 in
theorem sim_X_untell {G : Gam} {S : KS} (hS : KExt 382 S)  (a0 : Int) (M : KM) : Sim G Y_X_untell (f_X_untell a0 M) (kC 0 [some (VR (some 0)), some (VI a0)] [] S M) (fun (q : Int × KM) => Sum.inr (some (VI q.1), S, q.2)) := by
  unfold f_X_untell
  refine s_aload_n (dt_X_untell 0 _ _ _ rfl) rfl ?_
  refine s_getR (o := (some 349)) (dt_X_untell 1 _ _ _ rfl) (kf_X_83) (sc_0 hS) rfl rfl ?_
  refine s_iload_n (dt_X_untell 2 _ _ _ rfl) rfl ?_
  refine s_callO (y := y_Faces_takeBack) (Y' := Y_Faces_takeBack) (as := [VR (some 349), VI a0]) (r := fun q => some (VI q.1)) (M' := fun q => q.2) (kInvV (dt_X_untell 3 _ _ _ rfl) kin_Faces_takeBack 3 rfl (sc_349 hS) kse_Faces_takeBack rfl) kl_X_383 md_Faces_takeBack rfl rfl (fun q hq => c_Faces_takeBack hS a0 M q hq) (fun q1 => ?_)
  exact s_zret (dt_X_untell 4 _ _ _ rfl) rfl rfl
theorem c_X_untell {S : KS} (hS : KExt 382 S)  (a0 : Int) (M : KM) : ∀ q, f_X_untell a0 M = some q → Ctr y_X_untell Y_X_untell [VR (some 0), VI a0] S M (some (VI q.1)) S (q.2) := fun q hq =>
  ctr_of md_X_untell (Nat.le_of_ble_eq_true rfl) ⟨Nat.le_refl _, Nat.le_refl _⟩ 0 hq rfl (fun _ G => sim_X_untell hS  a0 M)
noncomputable def f_X_later (a0 : Int) (M : KM) : Option (Int × KM) := (if a0 < 0 then some ((-1), M) else (if a0 ≤ 1000 then (if w32 ((M 349 1) + a0) ≤ 100000 then letM_ (mupd M 349 1 (w32 ((M 349 1) + a0))) (fun M1 => some (M1 349 1, M1)) else some ((-1), M)) else some ((-1), M)))
set_option maxRecDepth 100000 in
theorem sim_X_later {G : Gam} {S : KS} (hS : KExt 382 S)  (a0 : Int) (M : KM) : Sim G Y_X_later (f_X_later a0 M) (kC 0 [some (VR (some 0)), some (VI a0)] [] S M) (fun (q : Int × KM) => Sum.inr (some (VI q.1), S, q.2)) := by
  unfold f_X_later
  refine s_iload_n (dt_X_later 0 _ _ _ rfl) rfl ?_
  refine s_if_lt (tgt := 26) (dt_X_later 1 _ _ _ rfl) rfl ?_ ?_
  · refine s_iconst (dt_X_later 12 _ _ _ rfl) rfl ?_
    exact s_iret (dt_X_later 13 _ _ _ rfl) rfl rfl
  · refine s_iload_n (dt_X_later 2 _ _ _ rfl) rfl ?_
    refine s_sipush (dt_X_later 3 _ _ _ rfl) rfl ?_
    refine s_if_icmp_gt (tgt := 26) (dt_X_later 4 _ _ _ rfl) rfl ?_ ?_
    · refine s_aload_n (dt_X_later 5 _ _ _ rfl) rfl ?_
      refine s_getR (o := (some 349)) (dt_X_later 6 _ _ _ rfl) (kf_X_83) (sc_0 hS) rfl rfl ?_
      refine s_getI (dt_X_later 7 _ _ _ rfl) (kf_X_386) (sc_349 hS) rfl ?_
      refine s_iload_n (dt_X_later 8 _ _ _ rfl) rfl ?_
      refine s_iadd (dt_X_later 9 _ _ _ rfl) ?_
      refine s_ldcw (n := 100000) (kc_X_389) (dt_X_later 10 _ _ _ rfl) rfl ?_
      refine s_if_icmp_le (tgt := 28) (dt_X_later 11 _ _ _ rfl) rfl ?_ ?_
      · refine s_aload_n (dt_X_later 14 _ _ _ rfl) rfl ?_
        refine s_getR (o := (some 349)) (dt_X_later 15 _ _ _ rfl) (kf_X_83) (sc_0 hS) rfl rfl ?_
        refine s_dup (dt_X_later 16 _ _ _ rfl) rfl ?_
        refine s_getI (dt_X_later 17 _ _ _ rfl) (kf_X_386) (sc_349 hS) rfl ?_
        refine s_iload_n (dt_X_later 18 _ _ _ rfl) rfl ?_
        refine s_iadd (dt_X_later 19 _ _ _ rfl) ?_
        refine s_putI (dt_X_later 20 _ _ _ rfl) kp_X_386 (sc_349 hS) ⟨rfl, rfl⟩ ?_
        refine s_letM (fun M1 => ?_)
        refine s_aload_n (dt_X_later 21 _ _ _ rfl) rfl ?_
        refine s_getR (o := (some 349)) (dt_X_later 22 _ _ _ rfl) (kf_X_83) (sc_0 hS) rfl rfl ?_
        refine s_getI (dt_X_later 23 _ _ _ rfl) (kf_X_386) (sc_349 hS) rfl ?_
        exact s_iret (dt_X_later 24 _ _ _ rfl) rfl rfl
      · refine s_iconst (dt_X_later 12 _ _ _ rfl) rfl ?_
        exact s_iret (dt_X_later 13 _ _ _ rfl) rfl rfl
    · refine s_iconst (dt_X_later 12 _ _ _ rfl) rfl ?_
      exact s_iret (dt_X_later 13 _ _ _ rfl) rfl rfl
theorem c_X_later {S : KS} (hS : KExt 382 S)  (a0 : Int) (M : KM) : ∀ q, f_X_later a0 M = some q → Ctr y_X_later Y_X_later [VR (some 0), VI a0] S M (some (VI q.1)) S (q.2) := fun q hq =>
  ctr_of md_X_later (Nat.le_of_ble_eq_true rfl) ⟨Nat.le_refl _, Nat.le_refl _⟩ 0 hq rfl (fun _ G => sim_X_later hS  a0 M)
noncomputable def f_Faces_ask (a0 : Int) (a1 : Int) (M : KM) : Option (KM) := Option.bind ((if isInV (M 349 6) a0 = 0 then some 0 else (if atM M 354 8 a0 = a1 then some 0 else some 1)) : Option (Int)) (fun t1 => (if 0 ≤ kior (M 349 8) t1 ∧ kior (M 349 8) t1 ≤ 1 then letM_ (mupd M 349 8 (kior (M 349 8) t1)) (fun M2 => letM_ (putM M2 354 8 a0 a1) (fun M3 => letM_ (mupd M3 349 6 (kior (M3 349 6) (kishl 1 a0))) (fun M4 => some M4))) else none))
set_option maxRecDepth 100000 in
theorem sim_Faces_ask {G : Gam} {S : KS} (hS : KExt 382 S)  (a0 : Int) (a1 : Int) (M : KM) : Sim G Y_Faces_ask (f_Faces_ask a0 a1 M) (kC 0 [some (VR (some 349)), some (VI a0), some (VI a1)] [] S M) (fun (q : KM) => Sum.inr (none, S, q)) := by
  unfold f_Faces_ask
  refine s_aload_n (dt_Faces_ask 0 _ _ _ rfl) rfl ?_
  refine s_dup (dt_Faces_ask 1 _ _ _ rfl) rfl ?_
  refine s_getI (dt_Faces_ask 2 _ _ _ rfl) (kf_Faces_37) (sc_349 hS) rfl ?_
  refine s_aload_n (dt_Faces_ask 3 _ _ _ rfl) rfl ?_
  refine s_getI (dt_Faces_ask 4 _ _ _ rfl) (kf_Faces_31) (sc_349 hS) rfl ?_
  refine s_iload_n (dt_Faces_ask 5 _ _ _ rfl) rfl ?_
  refine s_inv (y := y_X_isIn) (Y' := Y_X_isIn) (as := [VI (M 349 6), VI a0]) (r := some (VI (isInV (M 349 6) a0))) (M' := M) (kInvS (dt_Faces_ask 6 _ _ _ rfl) kst_X_isIn rfl) kl_Faces_53 md_X_isIn rfl rfl (c_X_isIn hS (M 349 6) a0 M) ?_
  refine s_bd (κ := fun t1 => kC 33 [some (VR (some 349)), some (VI a0), some (VI a1)] [VI t1, VI (M 349 8), VR (some 349)] S M) ?_ (fun t1 => ?_)
  · refine s_if_eq (tgt := 32) (dt_Faces_ask 7 _ _ _ rfl) rfl ?_ ?_
    · refine s_iconst (dt_Faces_ask 16 _ _ _ rfl) rfl ?_
      exact s_mask [true, true, true] (s_ret0 rfl)
    · refine s_aload_n (dt_Faces_ask 8 _ _ _ rfl) rfl ?_
      refine s_getR (o := (some 354)) (dt_Faces_ask 9 _ _ _ rfl) (kf_Faces_34) (sc_349 hS) rfl rfl ?_
      refine s_iload_n (dt_Faces_ask 10 _ _ _ rfl) rfl ?_
      refine s_inv (y := y_X_at) (Y' := Y_X_at) (as := [VR (some 354), VI a0]) (r := some (VI (atM M 354 8 a0))) (M' := M) (kInvS (dt_Faces_ask 11 _ _ _ rfl) kst_X_at rfl) kl_Faces_45 md_X_at rfl rfl (c_X_at hS ⟨(sc_354 hS), by decide⟩ a0 M) ?_
      refine s_iload_n (dt_Faces_ask 12 _ _ _ rfl) rfl ?_
      refine s_if_icmp_eq (tgt := 32) (dt_Faces_ask 13 _ _ _ rfl) rfl ?_ ?_
      · refine s_iconst (dt_Faces_ask 16 _ _ _ rfl) rfl ?_
        exact s_mask [true, true, true] (s_ret0 rfl)
      · refine s_iconst (dt_Faces_ask 14 _ _ _ rfl) rfl ?_
        refine s_goto (tgt := 33) (dt_Faces_ask 15 _ _ _ rfl) rfl ?_
        exact s_mask [true, true, true] (s_ret0 rfl)
  refine s_ior (dt_Faces_ask 17 _ _ _ rfl) ?_
  refine s_putZ (dt_Faces_ask 18 _ _ _ rfl) kp_Faces_37 (sc_349 hS) ⟨rfl, rfl⟩ ?_
  refine s_letM (fun M2 => ?_)
  refine s_aload_n (dt_Faces_ask 19 _ _ _ rfl) rfl ?_
  refine s_getR (o := (some 354)) (dt_Faces_ask 20 _ _ _ rfl) (kf_Faces_34) (sc_349 hS) rfl rfl ?_
  refine s_iload_n (dt_Faces_ask 21 _ _ _ rfl) rfl ?_
  refine s_iload_n (dt_Faces_ask 22 _ _ _ rfl) rfl ?_
  refine s_inv (y := y_X_put) (Y' := Y_X_put) (as := [VR (some 354), VI a0, VI a1]) (r := none) (M' := (putM M2 354 8 a0 a1)) (kInvS (dt_Faces_ask 23 _ _ _ rfl) kst_X_put rfl) kl_Faces_41 md_X_put rfl rfl (c_X_put hS ⟨(sc_354 hS), by decide⟩ a0 a1 M2) ?_
  refine s_letM (fun M3 => ?_)
  refine s_aload_n (dt_Faces_ask 24 _ _ _ rfl) rfl ?_
  refine s_dup (dt_Faces_ask 25 _ _ _ rfl) rfl ?_
  refine s_getI (dt_Faces_ask 26 _ _ _ rfl) (kf_Faces_31) (sc_349 hS) rfl ?_
  refine s_iconst (dt_Faces_ask 27 _ _ _ rfl) rfl ?_
  refine s_iload_n (dt_Faces_ask 28 _ _ _ rfl) rfl ?_
  refine s_ishl (dt_Faces_ask 29 _ _ _ rfl) ?_
  refine s_ior (dt_Faces_ask 30 _ _ _ rfl) ?_
  refine s_putI (dt_Faces_ask 31 _ _ _ rfl) kp_Faces_31 (sc_349 hS) ⟨rfl, rfl⟩ ?_
  refine s_letM (fun M4 => ?_)
  exact s_vret (dt_Faces_ask 32 _ _ _ rfl) rfl rfl
theorem c_Faces_ask {S : KS} (hS : KExt 382 S)  (a0 : Int) (a1 : Int) (M : KM) : ∀ q, f_Faces_ask a0 a1 M = some q → Ctr y_Faces_ask Y_Faces_ask [VR (some 349), VI a0, VI a1] S M (none) S (q) := fun q hq =>
  ctr_of md_Faces_ask (Nat.le_of_ble_eq_true rfl) ⟨Nat.le_refl _, Nat.le_refl _⟩ 0 hq rfl (fun _ G => sim_Faces_ask hS  a0 a1 M)
noncomputable def f_Faces_gather (a0 : Int) (M : KM) : Option (KM) := letM_ (mupd M 349 6 0) (fun M1 => (if 0 ≤ 0 ∧ 0 ≤ 1 then letM_ (mupd M1 349 8 0) (fun M2 => Option.bind (whileO (σ := Int × KM) (ε := KM) (fun s3 => (if s3.1 < s3.2 349 0 then letI_ (atM s3.2 353 30 s3.1) (fun v4 => Option.bind ((if atM s3.2 352 30 s3.1 ≤ a0 then (if v4 = (-1) then Option.bind (f_Faces_ask (atM s3.2 350 30 s3.1) (atM s3.2 351 30 s3.1) s3.2) (fun q5 => some q5) else (if v4 ≤ a0 then some s3.2 else Option.bind (f_Faces_ask (atM s3.2 350 30 s3.1) (atM s3.2 351 30 s3.1) s3.2) (fun q6 => some q6))) else some s3.2) : Option (KM)) (fun t7 => some (Sum.inl (w32 (s3.1 + 1), t7)))) else some (Sum.inr s3.2))) (0, M2)) (fun e8 => some e8)) else none))
set_option maxRecDepth 100000 in
theorem sim_Faces_gather {G : Gam} {S : KS} (hS : KExt 382 S)  (a0 : Int) (M : KM) : Sim G Y_Faces_gather (f_Faces_gather a0 M) (kC 0 [some (VR (some 349)), some (VI a0), none, none] [] S M) (fun (q : KM) => Sum.inr (none, S, q)) := by
  unfold f_Faces_gather
  refine s_aload_n (dt_Faces_gather 0 _ _ _ rfl) rfl ?_
  refine s_iconst (dt_Faces_gather 1 _ _ _ rfl) rfl ?_
  refine s_putI (dt_Faces_gather 2 _ _ _ rfl) kp_Faces_31 (sc_349 hS) ⟨rfl, rfl⟩ ?_
  refine s_letM (fun M1 => ?_)
  refine s_aload_n (dt_Faces_gather 3 _ _ _ rfl) rfl ?_
  refine s_iconst (dt_Faces_gather 4 _ _ _ rfl) rfl ?_
  refine s_putZ (dt_Faces_gather 5 _ _ _ rfl) kp_Faces_37 (sc_349 hS) ⟨rfl, rfl⟩ ?_
  refine s_letM (fun M2 => ?_)
  refine s_iconst (dt_Faces_gather 6 _ _ _ rfl) rfl ?_
  refine s_istore_n (dt_Faces_gather 7 _ _ _ rfl) rfl ?_
  refine s_bd (κ := (fun (e8 : KM) => kC 77 [none, none, none, none] [] S e8)) (s_mask [true, true, true, false] (s_while (c := fun s3 => kC 12 [some (VR (some 349)), some (VI a0), some (VI s3.1), none] [] S s3.2) (fun s3 => ?_) (0, M2))) ?_
  · refine s_iload_n (dt_Faces_gather 8 _ _ _ rfl) rfl ?_
    refine s_aload_n (dt_Faces_gather 9 _ _ _ rfl) rfl ?_
    refine s_getI (dt_Faces_gather 10 _ _ _ rfl) (kf_Faces_9) (sc_349 hS) rfl ?_
    refine s_if_icmp_ge (tgt := 77) (dt_Faces_gather 11 _ _ _ rfl) rfl ?_ ?_
    · refine s_aload_n (dt_Faces_gather 12 _ _ _ rfl) rfl ?_
      refine s_getR (o := (some 353)) (dt_Faces_gather 13 _ _ _ rfl) (kf_Faces_28) (sc_349 hS) rfl rfl ?_
      refine s_iload_n (dt_Faces_gather 14 _ _ _ rfl) rfl ?_
      refine s_inv (y := y_X_at) (Y' := Y_X_at) (as := [VR (some 353), VI s3.1]) (r := some (VI (atM s3.2 353 30 s3.1))) (M' := s3.2) (kInvS (dt_Faces_gather 15 _ _ _ rfl) kst_X_at rfl) kl_Faces_45 md_X_at rfl rfl (c_X_at hS ⟨(sc_353 hS), by decide⟩ s3.1 s3.2) ?_
      refine s_letI (fun v4 => ?_)
      refine s_istore_n (dt_Faces_gather 16 _ _ _ rfl) rfl ?_
      refine s_aload_n (dt_Faces_gather 17 _ _ _ rfl) rfl ?_
      refine s_getR (o := (some 352)) (dt_Faces_gather 18 _ _ _ rfl) (kf_Faces_25) (sc_349 hS) rfl rfl ?_
      refine s_iload_n (dt_Faces_gather 19 _ _ _ rfl) rfl ?_
      refine s_inv (y := y_X_at) (Y' := Y_X_at) (as := [VR (some 352), VI s3.1]) (r := some (VI (atM s3.2 352 30 s3.1))) (M' := s3.2) (kInvS (dt_Faces_gather 20 _ _ _ rfl) kst_X_at rfl) kl_Faces_45 md_X_at rfl rfl (c_X_at hS ⟨(sc_352 hS), by decide⟩ s3.1 s3.2) ?_
      refine s_iload_n (dt_Faces_gather 21 _ _ _ rfl) rfl ?_
      refine s_bd (κ := fun t7 => kC 71 [some (VR (some 349)), some (VI a0), some (VI s3.1), none] [] S t7) ?_ (fun t7 => ?_)
      · refine s_if_icmp_gt (tgt := 71) (dt_Faces_gather 22 _ _ _ rfl) rfl ?_ ?_
        · refine s_iload_n (dt_Faces_gather 23 _ _ _ rfl) rfl ?_
          refine s_iconst (dt_Faces_gather 24 _ _ _ rfl) rfl ?_
          refine s_if_icmp_eq (tgt := 51) (dt_Faces_gather 25 _ _ _ rfl) rfl ?_ ?_
          · refine s_aload_n (dt_Faces_gather 29 _ _ _ rfl) rfl ?_
            refine s_aload_n (dt_Faces_gather 30 _ _ _ rfl) rfl ?_
            refine s_getR (o := (some 350)) (dt_Faces_gather 31 _ _ _ rfl) (kf_Faces_18) (sc_349 hS) rfl rfl ?_
            refine s_iload_n (dt_Faces_gather 32 _ _ _ rfl) rfl ?_
            refine s_inv (y := y_X_at) (Y' := Y_X_at) (as := [VR (some 350), VI s3.1]) (r := some (VI (atM s3.2 350 30 s3.1))) (M' := s3.2) (kInvS (dt_Faces_gather 33 _ _ _ rfl) kst_X_at rfl) kl_Faces_45 md_X_at rfl rfl (c_X_at hS ⟨(sc_350 hS), by decide⟩ s3.1 s3.2) ?_
            refine s_aload_n (dt_Faces_gather 34 _ _ _ rfl) rfl ?_
            refine s_getR (o := (some 351)) (dt_Faces_gather 35 _ _ _ rfl) (kf_Faces_22) (sc_349 hS) rfl rfl ?_
            refine s_iload_n (dt_Faces_gather 36 _ _ _ rfl) rfl ?_
            refine s_inv (y := y_X_at) (Y' := Y_X_at) (as := [VR (some 351), VI s3.1]) (r := some (VI (atM s3.2 351 30 s3.1))) (M' := s3.2) (kInvS (dt_Faces_gather 37 _ _ _ rfl) kst_X_at rfl) kl_Faces_45 md_X_at rfl rfl (c_X_at hS ⟨(sc_351 hS), by decide⟩ s3.1 s3.2) ?_
            refine s_callO (y := y_Faces_ask) (Y' := Y_Faces_ask) (as := [VR (some 349), VI (atM s3.2 350 30 s3.1), VI (atM s3.2 351 30 s3.1)]) (r := fun q => none) (M' := fun q => q) (kInvV (dt_Faces_gather 38 _ _ _ rfl) kin_Faces_ask 3 rfl (sc_349 hS) kse_Faces_ask rfl) kl_Faces_49 md_Faces_ask rfl rfl (fun q hq => c_Faces_ask hS (atM s3.2 350 30 s3.1) (atM s3.2 351 30 s3.1) s3.2 q hq) (fun q5 => ?_)
            exact s_mask [true, true, true, false] (s_ret0 rfl)
          · refine s_iload_n (dt_Faces_gather 26 _ _ _ rfl) rfl ?_
            refine s_iload_n (dt_Faces_gather 27 _ _ _ rfl) rfl ?_
            refine s_if_icmp_le (tgt := 71) (dt_Faces_gather 28 _ _ _ rfl) rfl ?_ ?_
            · exact s_mask [true, true, true, false] (s_ret0 rfl)
            · refine s_aload_n (dt_Faces_gather 29 _ _ _ rfl) rfl ?_
              refine s_aload_n (dt_Faces_gather 30 _ _ _ rfl) rfl ?_
              refine s_getR (o := (some 350)) (dt_Faces_gather 31 _ _ _ rfl) (kf_Faces_18) (sc_349 hS) rfl rfl ?_
              refine s_iload_n (dt_Faces_gather 32 _ _ _ rfl) rfl ?_
              refine s_inv (y := y_X_at) (Y' := Y_X_at) (as := [VR (some 350), VI s3.1]) (r := some (VI (atM s3.2 350 30 s3.1))) (M' := s3.2) (kInvS (dt_Faces_gather 33 _ _ _ rfl) kst_X_at rfl) kl_Faces_45 md_X_at rfl rfl (c_X_at hS ⟨(sc_350 hS), by decide⟩ s3.1 s3.2) ?_
              refine s_aload_n (dt_Faces_gather 34 _ _ _ rfl) rfl ?_
              refine s_getR (o := (some 351)) (dt_Faces_gather 35 _ _ _ rfl) (kf_Faces_22) (sc_349 hS) rfl rfl ?_
              refine s_iload_n (dt_Faces_gather 36 _ _ _ rfl) rfl ?_
              refine s_inv (y := y_X_at) (Y' := Y_X_at) (as := [VR (some 351), VI s3.1]) (r := some (VI (atM s3.2 351 30 s3.1))) (M' := s3.2) (kInvS (dt_Faces_gather 37 _ _ _ rfl) kst_X_at rfl) kl_Faces_45 md_X_at rfl rfl (c_X_at hS ⟨(sc_351 hS), by decide⟩ s3.1 s3.2) ?_
              refine s_callO (y := y_Faces_ask) (Y' := Y_Faces_ask) (as := [VR (some 349), VI (atM s3.2 350 30 s3.1), VI (atM s3.2 351 30 s3.1)]) (r := fun q => none) (M' := fun q => q) (kInvV (dt_Faces_gather 38 _ _ _ rfl) kin_Faces_ask 3 rfl (sc_349 hS) kse_Faces_ask rfl) kl_Faces_49 md_Faces_ask rfl rfl (fun q hq => c_Faces_ask hS (atM s3.2 350 30 s3.1) (atM s3.2 351 30 s3.1) s3.2 q hq) (fun q6 => ?_)
              exact s_mask [true, true, true, false] (s_ret0 rfl)
        · exact s_mask [true, true, true, false] (s_ret0 rfl)
      refine s_iinc (dt_Faces_gather 39 _ _ _ rfl) rfl rfl ?_
      refine s_goto (tgt := 12) (dt_Faces_gather 40 _ _ _ rfl) rfl ?_
      exact s_mask [true, true, true, false] (s_ret0 rfl)
    · exact s_mask [false, false, false, false] (s_ret0 rfl)
  intro e8
  exact s_vret (dt_Faces_gather 41 _ _ _ rfl) rfl rfl
theorem c_Faces_gather {S : KS} (hS : KExt 382 S)  (a0 : Int) (M : KM) : ∀ q, f_Faces_gather a0 M = some q → Ctr y_Faces_gather Y_Faces_gather [VR (some 349), VI a0] S M (none) S (q) := fun q hq =>
  ctr_of md_Faces_gather (Nat.le_of_ble_eq_true rfl) ⟨Nat.le_refl _, Nat.le_refl _⟩ 2 hq rfl (fun _ G => sim_Faces_gather hS  a0 M)
noncomputable def f_Gifts_note (a0 : Int) (a1 : Int) (M : KM) : Option (KM) := (if M 355 9 ≤ 0 then letI_ (atM M 358 8 a1) (fun v1 => Option.bind ((if M 355 0 ≤ 0 then some 0 else (if v1 = M 355 3 then some 0 else some 1)) : Option (Int)) (fun t2 => (if 0 ≤ kior (M 355 4) t2 ∧ kior (M 355 4) t2 ≤ 1 then letM_ (mupd M 355 4 (kior (M 355 4) t2)) (fun M3 => letM_ (mupd M3 355 3 v1) (fun M4 => Option.bind ((if M4 355 0 = 0 then letM_ (mupd M4 355 1 a0) (fun M5 => letM_ (mcp M5 357 356 (min 4 4)) (fun M6 => some M6)) else (if a0 < M4 355 1 then letM_ (mupd M4 355 1 a0) (fun M7 => letM_ (mcp M7 357 356 (min 4 4)) (fun M8 => some M8)) else some M4)) : Option (KM)) (fun t9 => letM_ (mupd t9 355 0 (w32 ((t9 355 0) + 1))) (fun M10 => some M10)))) else none))) else some M)
set_option maxRecDepth 100000 in
theorem sim_Gifts_note {G : Gam} {S : KS} (hS : KExt 382 S)  (a0 : Int) (a1 : Int) (M : KM) : Sim G Y_Gifts_note (f_Gifts_note a0 a1 M) (kC 0 [some (VR (some 355)), some (VI a0), some (VI a1), none] [] S M) (fun (q : KM) => Sum.inr (none, S, q)) := by
  unfold f_Gifts_note
  refine s_aload_n (dt_Gifts_note 0 _ _ _ rfl) rfl ?_
  refine s_getI (dt_Gifts_note 1 _ _ _ rfl) (kf_Gifts_79) (sc_355 hS) rfl ?_
  refine s_if_le (tgt := 8) (dt_Gifts_note 2 _ _ _ rfl) rfl ?_ ?_
  · refine s_aload_n (dt_Gifts_note 4 _ _ _ rfl) rfl ?_
    refine s_getR (o := (some 358)) (dt_Gifts_note 5 _ _ _ rfl) (kf_Gifts_18) (sc_355 hS) rfl rfl ?_
    refine s_iload_n (dt_Gifts_note 6 _ _ _ rfl) rfl ?_
    refine s_inv (y := y_X_at) (Y' := Y_X_at) (as := [VR (some 358), VI a1]) (r := some (VI (atM M 358 8 a1))) (M' := M) (kInvS (dt_Gifts_note 7 _ _ _ rfl) kst_X_at rfl) kl_Gifts_92 md_X_at rfl rfl (c_X_at hS ⟨(sc_358 hS), by decide⟩ a1 M) ?_
    refine s_letI (fun v1 => ?_)
    refine s_istore_n (dt_Gifts_note 8 _ _ _ rfl) rfl ?_
    refine s_aload_n (dt_Gifts_note 9 _ _ _ rfl) rfl ?_
    refine s_dup (dt_Gifts_note 10 _ _ _ rfl) rfl ?_
    refine s_getI (dt_Gifts_note 11 _ _ _ rfl) (kf_Gifts_64) (sc_355 hS) rfl ?_
    refine s_aload_n (dt_Gifts_note 12 _ _ _ rfl) rfl ?_
    refine s_getI (dt_Gifts_note 13 _ _ _ rfl) (kf_Gifts_55) (sc_355 hS) rfl ?_
    refine s_bd (κ := fun t2 => kC 42 [some (VR (some 355)), some (VI a0), none, some (VI v1)] [VI t2, VI (M 355 4), VR (some 355)] S M) ?_ (fun t2 => ?_)
    · refine s_if_le (tgt := 41) (dt_Gifts_note 14 _ _ _ rfl) rfl ?_ ?_
      · refine s_iconst (dt_Gifts_note 21 _ _ _ rfl) rfl ?_
        exact s_mask [true, true, false, true] (s_ret0 rfl)
      · refine s_iload_n (dt_Gifts_note 15 _ _ _ rfl) rfl ?_
        refine s_aload_n (dt_Gifts_note 16 _ _ _ rfl) rfl ?_
        refine s_getI (dt_Gifts_note 17 _ _ _ rfl) (kf_Gifts_61) (sc_355 hS) rfl ?_
        refine s_if_icmp_eq (tgt := 41) (dt_Gifts_note 18 _ _ _ rfl) rfl ?_ ?_
        · refine s_iconst (dt_Gifts_note 21 _ _ _ rfl) rfl ?_
          exact s_mask [true, true, false, true] (s_ret0 rfl)
        · refine s_iconst (dt_Gifts_note 19 _ _ _ rfl) rfl ?_
          refine s_goto (tgt := 42) (dt_Gifts_note 20 _ _ _ rfl) rfl ?_
          exact s_mask [true, true, false, true] (s_ret0 rfl)
    refine s_ior (dt_Gifts_note 22 _ _ _ rfl) ?_
    refine s_putZ (dt_Gifts_note 23 _ _ _ rfl) kp_Gifts_64 (sc_355 hS) ⟨rfl, rfl⟩ ?_
    refine s_letM (fun M3 => ?_)
    refine s_aload_n (dt_Gifts_note 24 _ _ _ rfl) rfl ?_
    refine s_iload_n (dt_Gifts_note 25 _ _ _ rfl) rfl ?_
    refine s_putI (dt_Gifts_note 26 _ _ _ rfl) kp_Gifts_61 (sc_355 hS) ⟨rfl, rfl⟩ ?_
    refine s_letM (fun M4 => ?_)
    refine s_aload_n (dt_Gifts_note 27 _ _ _ rfl) rfl ?_
    refine s_getI (dt_Gifts_note 28 _ _ _ rfl) (kf_Gifts_55) (sc_355 hS) rfl ?_
    refine s_bd (κ := fun t9 => kC 82 [some (VR (some 355)), none, none, none] [] S t9) ?_ (fun t9 => ?_)
    · refine s_if_eq (tgt := 66) (dt_Gifts_note 29 _ _ _ rfl) rfl ?_ ?_
      · refine s_aload_n (dt_Gifts_note 34 _ _ _ rfl) rfl ?_
        refine s_iload_n (dt_Gifts_note 35 _ _ _ rfl) rfl ?_
        refine s_putI (dt_Gifts_note 36 _ _ _ rfl) kp_Gifts_58 (sc_355 hS) ⟨rfl, rfl⟩ ?_
        refine s_letM (fun M5 => ?_)
        refine s_aload_n (dt_Gifts_note 37 _ _ _ rfl) rfl ?_
        refine s_getR (o := (some 357)) (dt_Gifts_note 38 _ _ _ rfl) (kf_Gifts_15) (sc_355 hS) rfl rfl ?_
        refine s_aload_n (dt_Gifts_note 39 _ _ _ rfl) rfl ?_
        refine s_getR (o := (some 356)) (dt_Gifts_note 40 _ _ _ rfl) (kf_Gifts_9) (sc_355 hS) rfl rfl ?_
        refine s_inv (y := y_X_copyRow) (Y' := Y_X_copyRow) (as := [VR (some 357), VR (some 356)]) (r := none) (M' := (mcp M5 357 356 (min 4 4))) (kInvS (dt_Gifts_note 41 _ _ _ rfl) kst_X_copyRow rfl) kl_Gifts_72 md_X_copyRow rfl rfl (c_X_copyRow hS ⟨(sc_357 hS), by decide⟩ ⟨(sc_356 hS), by decide⟩ M5) ?_
        refine s_letM (fun M6 => ?_)
        exact s_mask [true, false, false, false] (s_ret0 rfl)
      · refine s_iload_n (dt_Gifts_note 30 _ _ _ rfl) rfl ?_
        refine s_aload_n (dt_Gifts_note 31 _ _ _ rfl) rfl ?_
        refine s_getI (dt_Gifts_note 32 _ _ _ rfl) (kf_Gifts_58) (sc_355 hS) rfl ?_
        refine s_if_icmp_ge (tgt := 82) (dt_Gifts_note 33 _ _ _ rfl) rfl ?_ ?_
        · refine s_aload_n (dt_Gifts_note 34 _ _ _ rfl) rfl ?_
          refine s_iload_n (dt_Gifts_note 35 _ _ _ rfl) rfl ?_
          refine s_putI (dt_Gifts_note 36 _ _ _ rfl) kp_Gifts_58 (sc_355 hS) ⟨rfl, rfl⟩ ?_
          refine s_letM (fun M7 => ?_)
          refine s_aload_n (dt_Gifts_note 37 _ _ _ rfl) rfl ?_
          refine s_getR (o := (some 357)) (dt_Gifts_note 38 _ _ _ rfl) (kf_Gifts_15) (sc_355 hS) rfl rfl ?_
          refine s_aload_n (dt_Gifts_note 39 _ _ _ rfl) rfl ?_
          refine s_getR (o := (some 356)) (dt_Gifts_note 40 _ _ _ rfl) (kf_Gifts_9) (sc_355 hS) rfl rfl ?_
          refine s_inv (y := y_X_copyRow) (Y' := Y_X_copyRow) (as := [VR (some 357), VR (some 356)]) (r := none) (M' := (mcp M7 357 356 (min 4 4))) (kInvS (dt_Gifts_note 41 _ _ _ rfl) kst_X_copyRow rfl) kl_Gifts_72 md_X_copyRow rfl rfl (c_X_copyRow hS ⟨(sc_357 hS), by decide⟩ ⟨(sc_356 hS), by decide⟩ M7) ?_
          refine s_letM (fun M8 => ?_)
          exact s_mask [true, false, false, false] (s_ret0 rfl)
        · exact s_mask [true, false, false, false] (s_ret0 rfl)
    refine s_aload_n (dt_Gifts_note 42 _ _ _ rfl) rfl ?_
    refine s_dup (dt_Gifts_note 43 _ _ _ rfl) rfl ?_
    refine s_getI (dt_Gifts_note 44 _ _ _ rfl) (kf_Gifts_55) (sc_355 hS) rfl ?_
    refine s_iconst (dt_Gifts_note 45 _ _ _ rfl) rfl ?_
    refine s_iadd (dt_Gifts_note 46 _ _ _ rfl) ?_
    refine s_putI (dt_Gifts_note 47 _ _ _ rfl) kp_Gifts_55 (sc_355 hS) ⟨rfl, rfl⟩ ?_
    refine s_letM (fun M10 => ?_)
    exact s_vret (dt_Gifts_note 48 _ _ _ rfl) rfl rfl
  · exact s_vret (dt_Gifts_note 3 _ _ _ rfl) rfl rfl
theorem c_Gifts_note {S : KS} (hS : KExt 382 S)  (a0 : Int) (a1 : Int) (M : KM) : ∀ q, f_Gifts_note a0 a1 M = some q → Ctr y_Gifts_note Y_Gifts_note [VR (some 355), VI a0, VI a1] S M (none) S (q) := fun q hq =>
  ctr_of md_Gifts_note (Nat.le_of_ble_eq_true rfl) ⟨Nat.le_refl _, Nat.le_refl _⟩ 1 hq rfl (fun _ G => sim_Gifts_note hS  a0 a1 M)
noncomputable def f_Gifts_isWrong (a0 : Int) (M : KM) : Option (Int) := Option.bind ((if isInV (M 355 8) a0 = 0 then some 0 else (if atM M 358 8 a0 = atM M 359 8 a0 then some 0 else some 1)) : Option (Int)) (fun t1 => (if 0 ≤ t1 ∧ t1 ≤ 1 then some t1 else none))
set_option maxRecDepth 100000 in
theorem sim_Gifts_isWrong {G : Gam} {S : KS} (hS : KExt 382 S)  (a0 : Int) (M : KM) : Sim G Y_Gifts_isWrong (f_Gifts_isWrong a0 M) (kC 0 [some (VR (some 355)), some (VI a0)] [] S M) (fun (q : Int) => Sum.inr (some (VI q), S, M)) := by
  unfold f_Gifts_isWrong
  refine s_aload_n (dt_Gifts_isWrong 0 _ _ _ rfl) rfl ?_
  refine s_getI (dt_Gifts_isWrong 1 _ _ _ rfl) (kf_Gifts_70) (sc_355 hS) rfl ?_
  refine s_iload_n (dt_Gifts_isWrong 2 _ _ _ rfl) rfl ?_
  refine s_inv (y := y_X_isIn) (Y' := Y_X_isIn) (as := [VI (M 355 8), VI a0]) (r := some (VI (isInV (M 355 8) a0))) (M' := M) (kInvS (dt_Gifts_isWrong 3 _ _ _ rfl) kst_X_isIn rfl) kl_Gifts_102 md_X_isIn rfl rfl (c_X_isIn hS (M 355 8) a0 M) ?_
  refine s_bd (κ := fun t1 => kC 35 [none, none] [VI t1] S M) ?_ (fun t1 => ?_)
  · refine s_if_eq (tgt := 34) (dt_Gifts_isWrong 4 _ _ _ rfl) rfl ?_ ?_
    · refine s_iconst (dt_Gifts_isWrong 16 _ _ _ rfl) rfl ?_
      exact s_mask [false, false] (s_ret0 rfl)
    · refine s_aload_n (dt_Gifts_isWrong 5 _ _ _ rfl) rfl ?_
      refine s_getR (o := (some 358)) (dt_Gifts_isWrong 6 _ _ _ rfl) (kf_Gifts_18) (sc_355 hS) rfl rfl ?_
      refine s_iload_n (dt_Gifts_isWrong 7 _ _ _ rfl) rfl ?_
      refine s_inv (y := y_X_at) (Y' := Y_X_at) (as := [VR (some 358), VI a0]) (r := some (VI (atM M 358 8 a0))) (M' := M) (kInvS (dt_Gifts_isWrong 8 _ _ _ rfl) kst_X_at rfl) kl_Gifts_92 md_X_at rfl rfl (c_X_at hS ⟨(sc_358 hS), by decide⟩ a0 M) ?_
      refine s_aload_n (dt_Gifts_isWrong 9 _ _ _ rfl) rfl ?_
      refine s_getR (o := (some 359)) (dt_Gifts_isWrong 10 _ _ _ rfl) (kf_Gifts_21) (sc_355 hS) rfl rfl ?_
      refine s_iload_n (dt_Gifts_isWrong 11 _ _ _ rfl) rfl ?_
      refine s_inv (y := y_X_at) (Y' := Y_X_at) (as := [VR (some 359), VI a0]) (r := some (VI (atM M 359 8 a0))) (M' := M) (kInvS (dt_Gifts_isWrong 12 _ _ _ rfl) kst_X_at rfl) kl_Gifts_92 md_X_at rfl rfl (c_X_at hS ⟨(sc_359 hS), by decide⟩ a0 M) ?_
      refine s_if_icmp_eq (tgt := 34) (dt_Gifts_isWrong 13 _ _ _ rfl) rfl ?_ ?_
      · refine s_iconst (dt_Gifts_isWrong 16 _ _ _ rfl) rfl ?_
        exact s_mask [false, false] (s_ret0 rfl)
      · refine s_iconst (dt_Gifts_isWrong 14 _ _ _ rfl) rfl ?_
        refine s_goto (tgt := 35) (dt_Gifts_isWrong 15 _ _ _ rfl) rfl ?_
        exact s_mask [false, false] (s_ret0 rfl)
  exact s_zret (dt_Gifts_isWrong 17 _ _ _ rfl) rfl rfl
theorem c_Gifts_isWrong {S : KS} (hS : KExt 382 S)  (a0 : Int) (M : KM) : ∀ q, f_Gifts_isWrong a0 M = some q → Ctr y_Gifts_isWrong Y_Gifts_isWrong [VR (some 355), VI a0] S M (some (VI q)) S (M) := fun q hq =>
  ctr_of md_Gifts_isWrong (Nat.le_of_ble_eq_true rfl) ⟨Nat.le_refl _, Nat.le_refl _⟩ 0 hq rfl (fun _ G => sim_Gifts_isWrong hS  a0 M)
noncomputable def f_Gifts_grow (a0 : Int) (a1 : Int) (M : KM) : Option (KM) := Option.bind (f_Gifts_isWrong a0 M) (fun q1 => Option.bind ((if q1 = 0 then some 0 else some 1) : Option (Int)) (fun t2 => letM_ (mupd M 355 9 (w32 ((M 355 9) - t2))) (fun M3 => letM_ (putM M3 358 8 a0 (w32 ((atM M3 358 8 a0) + a1))) (fun M4 => Option.bind (f_Gifts_isWrong a0 M4) (fun q5 => Option.bind ((if q5 = 0 then some 0 else some 1) : Option (Int)) (fun t6 => letM_ (mupd M4 355 9 (w32 ((M4 355 9) + t6))) (fun M7 => some M7)))))))
set_option maxRecDepth 100000 in
theorem sim_Gifts_grow {G : Gam} {S : KS} (hS : KExt 382 S)  (a0 : Int) (a1 : Int) (M : KM) : Sim G Y_Gifts_grow (f_Gifts_grow a0 a1 M) (kC 0 [some (VR (some 355)), some (VI a0), some (VI a1)] [] S M) (fun (q : KM) => Sum.inr (none, S, q)) := by
  unfold f_Gifts_grow
  refine s_aload_n (dt_Gifts_grow 0 _ _ _ rfl) rfl ?_
  refine s_dup (dt_Gifts_grow 1 _ _ _ rfl) rfl ?_
  refine s_getI (dt_Gifts_grow 2 _ _ _ rfl) (kf_Gifts_79) (sc_355 hS) rfl ?_
  refine s_aload_n (dt_Gifts_grow 3 _ _ _ rfl) rfl ?_
  refine s_iload_n (dt_Gifts_grow 4 _ _ _ rfl) rfl ?_
  refine s_callO (y := y_Gifts_isWrong) (Y' := Y_Gifts_isWrong) (as := [VR (some 355), VI a0]) (r := fun q => some (VI q)) (M' := fun q => M) (kInvV (dt_Gifts_grow 5 _ _ _ rfl) kin_Gifts_isWrong 5 rfl (sc_355 hS) kse_Gifts_isWrong rfl) kl_Gifts_85 md_Gifts_isWrong rfl rfl (fun q hq => c_Gifts_isWrong hS a0 M q hq) (fun q1 => ?_)
  refine s_bd (κ := fun t2 => kC 18 [some (VR (some 355)), some (VI a0), some (VI a1)] [VI t2, VI (M 355 9), VR (some 355)] S M) ?_ (fun t2 => ?_)
  · refine s_if_eq (tgt := 17) (dt_Gifts_grow 6 _ _ _ rfl) rfl ?_ ?_
    · refine s_iconst (dt_Gifts_grow 9 _ _ _ rfl) rfl ?_
      exact s_mask [true, true, true] (s_ret0 rfl)
    · refine s_iconst (dt_Gifts_grow 7 _ _ _ rfl) rfl ?_
      refine s_goto (tgt := 18) (dt_Gifts_grow 8 _ _ _ rfl) rfl ?_
      exact s_mask [true, true, true] (s_ret0 rfl)
  refine s_isub (dt_Gifts_grow 10 _ _ _ rfl) ?_
  refine s_putI (dt_Gifts_grow 11 _ _ _ rfl) kp_Gifts_79 (sc_355 hS) ⟨rfl, rfl⟩ ?_
  refine s_letM (fun M3 => ?_)
  refine s_aload_n (dt_Gifts_grow 12 _ _ _ rfl) rfl ?_
  refine s_getR (o := (some 358)) (dt_Gifts_grow 13 _ _ _ rfl) (kf_Gifts_18) (sc_355 hS) rfl rfl ?_
  refine s_iload_n (dt_Gifts_grow 14 _ _ _ rfl) rfl ?_
  refine s_aload_n (dt_Gifts_grow 15 _ _ _ rfl) rfl ?_
  refine s_getR (o := (some 358)) (dt_Gifts_grow 16 _ _ _ rfl) (kf_Gifts_18) (sc_355 hS) rfl rfl ?_
  refine s_iload_n (dt_Gifts_grow 17 _ _ _ rfl) rfl ?_
  refine s_inv (y := y_X_at) (Y' := Y_X_at) (as := [VR (some 358), VI a0]) (r := some (VI (atM M3 358 8 a0))) (M' := M3) (kInvS (dt_Gifts_grow 18 _ _ _ rfl) kst_X_at rfl) kl_Gifts_92 md_X_at rfl rfl (c_X_at hS ⟨(sc_358 hS), by decide⟩ a0 M3) ?_
  refine s_iload_n (dt_Gifts_grow 19 _ _ _ rfl) rfl ?_
  refine s_iadd (dt_Gifts_grow 20 _ _ _ rfl) ?_
  refine s_inv (y := y_X_put) (Y' := Y_X_put) (as := [VR (some 358), VI a0, VI (w32 ((atM M3 358 8 a0) + a1))]) (r := none) (M' := (putM M3 358 8 a0 (w32 ((atM M3 358 8 a0) + a1)))) (kInvS (dt_Gifts_grow 21 _ _ _ rfl) kst_X_put rfl) kl_Gifts_48 md_X_put rfl rfl (c_X_put hS ⟨(sc_358 hS), by decide⟩ a0 (w32 ((atM M3 358 8 a0) + a1)) M3) ?_
  refine s_letM (fun M4 => ?_)
  refine s_aload_n (dt_Gifts_grow 22 _ _ _ rfl) rfl ?_
  refine s_dup (dt_Gifts_grow 23 _ _ _ rfl) rfl ?_
  refine s_getI (dt_Gifts_grow 24 _ _ _ rfl) (kf_Gifts_79) (sc_355 hS) rfl ?_
  refine s_aload_n (dt_Gifts_grow 25 _ _ _ rfl) rfl ?_
  refine s_iload_n (dt_Gifts_grow 26 _ _ _ rfl) rfl ?_
  refine s_callO (y := y_Gifts_isWrong) (Y' := Y_Gifts_isWrong) (as := [VR (some 355), VI a0]) (r := fun q => some (VI q)) (M' := fun q => M4) (kInvV (dt_Gifts_grow 27 _ _ _ rfl) kin_Gifts_isWrong 5 rfl (sc_355 hS) kse_Gifts_isWrong rfl) kl_Gifts_85 md_Gifts_isWrong rfl rfl (fun q hq => c_Gifts_isWrong hS a0 M4 q hq) (fun q5 => ?_)
  refine s_bd (κ := fun t6 => kC 58 [none, none, none] [VI t6, VI (M4 355 9), VR (some 355)] S M4) ?_ (fun t6 => ?_)
  · refine s_if_eq (tgt := 57) (dt_Gifts_grow 28 _ _ _ rfl) rfl ?_ ?_
    · refine s_iconst (dt_Gifts_grow 31 _ _ _ rfl) rfl ?_
      exact s_mask [false, false, false] (s_ret0 rfl)
    · refine s_iconst (dt_Gifts_grow 29 _ _ _ rfl) rfl ?_
      refine s_goto (tgt := 58) (dt_Gifts_grow 30 _ _ _ rfl) rfl ?_
      exact s_mask [false, false, false] (s_ret0 rfl)
  refine s_iadd (dt_Gifts_grow 32 _ _ _ rfl) ?_
  refine s_putI (dt_Gifts_grow 33 _ _ _ rfl) kp_Gifts_79 (sc_355 hS) ⟨rfl, rfl⟩ ?_
  refine s_letM (fun M7 => ?_)
  exact s_vret (dt_Gifts_grow 34 _ _ _ rfl) rfl rfl
theorem c_Gifts_grow {S : KS} (hS : KExt 382 S)  (a0 : Int) (a1 : Int) (M : KM) : ∀ q, f_Gifts_grow a0 a1 M = some q → Ctr y_Gifts_grow Y_Gifts_grow [VR (some 355), VI a0, VI a1] S M (none) S (q) := fun q hq =>
  ctr_of md_Gifts_grow (Nat.le_of_ble_eq_true rfl) ⟨Nat.le_refl _, Nat.le_refl _⟩ 0 hq rfl (fun _ G => sim_Gifts_grow hS  a0 a1 M)
noncomputable def f_Gifts_shift (a1 : Int) (a2 : Int) (M : KM) : Option (KM) := Option.bind (f_Gifts_grow (atM M 7 20 a1) (w32 (-a2)) M) (fun q1 => Option.bind (f_Gifts_grow (atM q1 8 20 a1) a2 q1) (fun q2 => some q2))
set_option maxRecDepth 100000 in
theorem sim_Gifts_shift {G : Gam} {S : KS} (hS : KExt 382 S)  (a1 : Int) (a2 : Int) (M : KM) : Sim G Y_Gifts_shift (f_Gifts_shift a1 a2 M) (kC 0 [some (VR (some 355)), some (VR (some 2)), some (VI a1), some (VI a2)] [] S M) (fun (q : KM) => Sum.inr (none, S, q)) := by
  unfold f_Gifts_shift
  refine s_aload_n (dt_Gifts_shift 0 _ _ _ rfl) rfl ?_
  refine s_aload_n (dt_Gifts_shift 1 _ _ _ rfl) rfl ?_
  refine s_getR (o := (some 7)) (dt_Gifts_shift 2 _ _ _ rfl) (kf_Gifts_89) (sc_2 hS) rfl rfl ?_
  refine s_iload_n (dt_Gifts_shift 3 _ _ _ rfl) rfl ?_
  refine s_inv (y := y_X_at) (Y' := Y_X_at) (as := [VR (some 7), VI a1]) (r := some (VI (atM M 7 20 a1))) (M' := M) (kInvS (dt_Gifts_shift 4 _ _ _ rfl) kst_X_at rfl) kl_Gifts_92 md_X_at rfl rfl (c_X_at hS ⟨(sc_7 hS), by decide⟩ a1 M) ?_
  refine s_iload_n (dt_Gifts_shift 5 _ _ _ rfl) rfl ?_
  refine s_ineg (dt_Gifts_shift 6 _ _ _ rfl) ?_
  refine s_callO (y := y_Gifts_grow) (Y' := Y_Gifts_grow) (as := [VR (some 355), VI (atM M 7 20 a1), VI (w32 (-a2))]) (r := fun q => none) (M' := fun q => q) (kInvV (dt_Gifts_shift 7 _ _ _ rfl) kin_Gifts_grow 5 rfl (sc_355 hS) kse_Gifts_grow rfl) kl_Gifts_96 md_Gifts_grow rfl rfl (fun q hq => c_Gifts_grow hS (atM M 7 20 a1) (w32 (-a2)) M q hq) (fun q1 => ?_)
  refine s_aload_n (dt_Gifts_shift 8 _ _ _ rfl) rfl ?_
  refine s_aload_n (dt_Gifts_shift 9 _ _ _ rfl) rfl ?_
  refine s_getR (o := (some 8)) (dt_Gifts_shift 10 _ _ _ rfl) (kf_Gifts_99) (sc_2 hS) rfl rfl ?_
  refine s_iload_n (dt_Gifts_shift 11 _ _ _ rfl) rfl ?_
  refine s_inv (y := y_X_at) (Y' := Y_X_at) (as := [VR (some 8), VI a1]) (r := some (VI (atM q1 8 20 a1))) (M' := q1) (kInvS (dt_Gifts_shift 12 _ _ _ rfl) kst_X_at rfl) kl_Gifts_92 md_X_at rfl rfl (c_X_at hS ⟨(sc_8 hS), by decide⟩ a1 q1) ?_
  refine s_iload_n (dt_Gifts_shift 13 _ _ _ rfl) rfl ?_
  refine s_callO (y := y_Gifts_grow) (Y' := Y_Gifts_grow) (as := [VR (some 355), VI (atM q1 8 20 a1), VI a2]) (r := fun q => none) (M' := fun q => q) (kInvV (dt_Gifts_shift 14 _ _ _ rfl) kin_Gifts_grow 5 rfl (sc_355 hS) kse_Gifts_grow rfl) kl_Gifts_96 md_Gifts_grow rfl rfl (fun q hq => c_Gifts_grow hS (atM q1 8 20 a1) a2 q1 q hq) (fun q2 => ?_)
  exact s_vret (dt_Gifts_shift 15 _ _ _ rfl) rfl rfl
theorem c_Gifts_shift {S : KS} (hS : KExt 382 S)  (a1 : Int) (a2 : Int) (M : KM) : ∀ q, f_Gifts_shift a1 a2 M = some q → Ctr y_Gifts_shift Y_Gifts_shift [VR (some 355), VR (some 2), VI a1, VI a2] S M (none) S (q) := fun q hq =>
  ctr_of md_Gifts_shift (Nat.le_of_ble_eq_true rfl) ⟨Nat.le_refl _, Nat.le_refl _⟩ 0 hq rfl (fun _ G => sim_Gifts_shift hS  a1 a2 M)
