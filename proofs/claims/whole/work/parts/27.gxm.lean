noncomputable def f_X_askedOver (a0 : Int) (a1 : Int) (a2 : Int) (M : KM) : Option (Int) := Option.bind (whileO (σ := Int × Int) (ε := Int) (fun s1 => (if s1.2 < M 2 0 then Option.bind (f_X_isAlive s1.2 M) (fun q2 => Option.bind ((if q2 = 0 then some s1.1 else (if s1.2 = a2 then some s1.1 else letI_ (w32 ((atM M 5 8 s1.2) - (atM M 35 8 s1.2))) (fun v3 => letI_ (w32 (a0 + a1)) (fun v4 => Option.bind ((if v3 ≤ 0 then some v3 else (if v4 ≤ 0 then some v3 else (if v4 = 0 then none else letI_ (min v3 (kdiv (atM M 36 8 s1.2) v4)) (fun v5 => some v5)))) : Option (Int)) (fun t6 => letI_ (w32 (s1.1 + t6)) (fun v7 => some v7)))))) : Option (Int)) (fun t8 => some (Sum.inl (t8, w32 (s1.2 + 1))))) else some (Sum.inr s1.1))) (0, 0)) (fun e9 => some e9)
set_option maxRecDepth 100000 in
theorem sim_X_askedOver {G : Gam} {S : KS} (hS : KExt 382 S)  (a0 : Int) (a1 : Int) (a2 : Int) (M : KM) : Sim G Y_X_askedOver (f_X_askedOver a0 a1 a2 M) (kC 0 [some (VR (some 0)), some (VI a0), some (VI a1), some (VI a2), none, none, none, none] [] S M) (fun (q : Int) => Sum.inr (some (VI q), S, M)) := by
  unfold f_X_askedOver
  refine s_iconst (dt_X_askedOver 0 _ _ _ rfl) rfl ?_
  refine s_istore (dt_X_askedOver 1 _ _ _ rfl) rfl ?_
  refine s_iconst (dt_X_askedOver 2 _ _ _ rfl) rfl ?_
  refine s_istore (dt_X_askedOver 3 _ _ _ rfl) rfl ?_
  refine s_bd (κ := (fun (e9 : Int) => kC 110 [none, none, none, none, some (VI e9), none, none, none] [] S M)) (s_mask [true, true, true, true, true, true, false, false] (s_while (c := fun s1 => kC 6 [some (VR (some 0)), some (VI a0), some (VI a1), some (VI a2), some (VI s1.1), some (VI s1.2), none, none] [] S M) (fun s1 => ?_) (0, 0))) ?_
  · refine s_iload (dt_X_askedOver 4 _ _ _ rfl) rfl ?_
    refine s_aload_n (dt_X_askedOver 5 _ _ _ rfl) rfl ?_
    refine s_getR (o := (some 2)) (dt_X_askedOver 6 _ _ _ rfl) (kf_X_20) (sc_0 hS) rfl rfl ?_
    refine s_getI (dt_X_askedOver 7 _ _ _ rfl) (kf_X_124) (sc_2 hS) rfl ?_
    refine s_if_icmp_ge (tgt := 110) (dt_X_askedOver 8 _ _ _ rfl) rfl ?_ ?_
    · refine s_aload_n (dt_X_askedOver 9 _ _ _ rfl) rfl ?_
      refine s_iload (dt_X_askedOver 10 _ _ _ rfl) rfl ?_
      refine s_callO (y := y_X_isAlive) (Y' := Y_X_isAlive) (as := [VR (some 0), VI s1.2]) (r := fun q => some (VI q)) (M' := fun q => M) (kInvV (dt_X_askedOver 11 _ _ _ rfl) kin_X_isAlive 0 rfl (sc_0 hS) kse_X_isAlive rfl) kl_X_147 md_X_isAlive rfl rfl (fun q hq => c_X_isAlive hS s1.2 M q hq) (fun q2 => ?_)
      refine s_bd (κ := fun t8 => kC 104 [some (VR (some 0)), some (VI a0), some (VI a1), some (VI a2), some (VI t8), some (VI s1.2), none, none] [] S M) ?_ (fun t8 => ?_)
      · refine s_if_eq (tgt := 104) (dt_X_askedOver 12 _ _ _ rfl) rfl ?_ ?_
        · exact s_mask [true, true, true, true, true, true, false, false] (s_ret0 rfl)
        · refine s_iload (dt_X_askedOver 13 _ _ _ rfl) rfl ?_
          refine s_iload_n (dt_X_askedOver 14 _ _ _ rfl) rfl ?_
          refine s_if_icmp_eq (tgt := 104) (dt_X_askedOver 15 _ _ _ rfl) rfl ?_ ?_
          · exact s_mask [true, true, true, true, true, true, false, false] (s_ret0 rfl)
          · refine s_aload_n (dt_X_askedOver 16 _ _ _ rfl) rfl ?_
            refine s_getR (o := (some 2)) (dt_X_askedOver 17 _ _ _ rfl) (kf_X_20) (sc_0 hS) rfl rfl ?_
            refine s_getR (o := (some 5)) (dt_X_askedOver 18 _ _ _ rfl) (kf_X_150) (sc_2 hS) rfl rfl ?_
            refine s_iload (dt_X_askedOver 19 _ _ _ rfl) rfl ?_
            refine s_inv (y := y_X_at) (Y' := Y_X_at) (as := [VR (some 5), VI s1.2]) (r := some (VI (atM M 5 8 s1.2))) (M' := M) (kInvS (dt_X_askedOver 20 _ _ _ rfl) kst_X_at rfl) kl_X_140 md_X_at rfl rfl (c_X_at hS ⟨(sc_5 hS), by decide⟩ s1.2 M) ?_
            refine s_aload_n (dt_X_askedOver 21 _ _ _ rfl) rfl ?_
            refine s_getR (o := (some 34)) (dt_X_askedOver 22 _ _ _ rfl) (kf_X_34) (sc_0 hS) rfl rfl ?_
            refine s_getR (o := (some 35)) (dt_X_askedOver 23 _ _ _ rfl) (kf_X_137) (sc_34 hS) rfl rfl ?_
            refine s_iload (dt_X_askedOver 24 _ _ _ rfl) rfl ?_
            refine s_inv (y := y_X_at) (Y' := Y_X_at) (as := [VR (some 35), VI s1.2]) (r := some (VI (atM M 35 8 s1.2))) (M' := M) (kInvS (dt_X_askedOver 25 _ _ _ rfl) kst_X_at rfl) kl_X_140 md_X_at rfl rfl (c_X_at hS ⟨(sc_35 hS), by decide⟩ s1.2 M) ?_
            refine s_isub (dt_X_askedOver 26 _ _ _ rfl) ?_
            refine s_letI (fun v3 => ?_)
            refine s_istore (dt_X_askedOver 27 _ _ _ rfl) rfl ?_
            refine s_iload_n (dt_X_askedOver 28 _ _ _ rfl) rfl ?_
            refine s_iload_n (dt_X_askedOver 29 _ _ _ rfl) rfl ?_
            refine s_iadd (dt_X_askedOver 30 _ _ _ rfl) ?_
            refine s_letI (fun v4 => ?_)
            refine s_istore (dt_X_askedOver 31 _ _ _ rfl) rfl ?_
            refine s_iload (dt_X_askedOver 32 _ _ _ rfl) rfl ?_
            refine s_bd (κ := fun t6 => kC 97 [some (VR (some 0)), some (VI a0), some (VI a1), some (VI a2), some (VI s1.1), some (VI s1.2), some (VI t6), none] [] S M) ?_ (fun t6 => ?_)
            · refine s_if_le (tgt := 97) (dt_X_askedOver 33 _ _ _ rfl) rfl ?_ ?_
              · exact s_mask [true, true, true, true, true, true, true, false] (s_ret0 rfl)
              · refine s_iload (dt_X_askedOver 34 _ _ _ rfl) rfl ?_
                refine s_if_le (tgt := 97) (dt_X_askedOver 35 _ _ _ rfl) rfl ?_ ?_
                · exact s_mask [true, true, true, true, true, true, true, false] (s_ret0 rfl)
                · refine s_iload (dt_X_askedOver 36 _ _ _ rfl) rfl ?_
                  refine s_aload_n (dt_X_askedOver 37 _ _ _ rfl) rfl ?_
                  refine s_getR (o := (some 34)) (dt_X_askedOver 38 _ _ _ rfl) (kf_X_34) (sc_0 hS) rfl rfl ?_
                  refine s_getR (o := (some 36)) (dt_X_askedOver 39 _ _ _ rfl) (kf_X_144) (sc_34 hS) rfl rfl ?_
                  refine s_iload (dt_X_askedOver 40 _ _ _ rfl) rfl ?_
                  refine s_inv (y := y_X_at) (Y' := Y_X_at) (as := [VR (some 36), VI s1.2]) (r := some (VI (atM M 36 8 s1.2))) (M' := M) (kInvS (dt_X_askedOver 41 _ _ _ rfl) kst_X_at rfl) kl_X_140 md_X_at rfl rfl (c_X_at hS ⟨(sc_36 hS), by decide⟩ s1.2 M) ?_
                  refine s_iload (dt_X_askedOver 42 _ _ _ rfl) rfl ?_
                  refine s_idiv (dt_X_askedOver 43 _ _ _ rfl) ?_
                  refine s_mmin (dt_X_askedOver 44 _ _ _ rfl) kj_X_212 rfl ?_
                  refine s_letI (fun v5 => ?_)
                  refine s_istore (dt_X_askedOver 45 _ _ _ rfl) rfl ?_
                  exact s_mask [true, true, true, true, true, true, true, false] (s_ret0 rfl)
            refine s_iload (dt_X_askedOver 46 _ _ _ rfl) rfl ?_
            refine s_iload (dt_X_askedOver 47 _ _ _ rfl) rfl ?_
            refine s_iadd (dt_X_askedOver 48 _ _ _ rfl) ?_
            refine s_letI (fun v7 => ?_)
            refine s_istore (dt_X_askedOver 49 _ _ _ rfl) rfl ?_
            exact s_mask [true, true, true, true, true, true, false, false] (s_ret0 rfl)
      refine s_iinc (dt_X_askedOver 50 _ _ _ rfl) rfl rfl ?_
      refine s_goto (tgt := 6) (dt_X_askedOver 51 _ _ _ rfl) rfl ?_
      exact s_mask [true, true, true, true, true, true, false, false] (s_ret0 rfl)
    · exact s_mask [false, false, false, false, true, false, false, false] (s_ret0 rfl)
  intro e9
  refine s_iload (dt_X_askedOver 52 _ _ _ rfl) rfl ?_
  exact s_iret (dt_X_askedOver 53 _ _ _ rfl) rfl rfl
theorem c_X_askedOver {S : KS} (hS : KExt 382 S)  (a0 : Int) (a1 : Int) (a2 : Int) (M : KM) : ∀ q, f_X_askedOver a0 a1 a2 M = some q → Ctr y_X_askedOver Y_X_askedOver [VR (some 0), VI a0, VI a1, VI a2] S M (some (VI q)) S (M) := fun q hq =>
  ctr_of md_X_askedOver (Nat.le_of_ble_eq_true rfl) ⟨Nat.le_refl _, Nat.le_refl _⟩ 4 hq rfl (fun _ G => sim_X_askedOver hS  a0 a1 a2 M)
noncomputable def f_X_isPrice (a0 : Int) (M : KM) : Option (Int) := Option.bind ((if a0 < 0 then some 0 else (if a0 ≤ 99 then some 1 else some 0)) : Option (Int)) (fun t1 => (if 0 ≤ t1 ∧ t1 ≤ 1 then some t1 else none))
set_option maxRecDepth 100000 in
theorem sim_X_isPrice {G : Gam} {S : KS} (hS : KExt 382 S)  (a0 : Int) (M : KM) : Sim G Y_X_isPrice (f_X_isPrice a0 M) (kC 0 [some (VI a0)] [] S M) (fun (q : Int) => Sum.inr (some (VI q), S, M)) := by
  unfold f_X_isPrice
  refine s_iload_n (dt_X_isPrice 0 _ _ _ rfl) rfl ?_
  refine s_bd (κ := fun t1 => kC 15 [none] [VI t1] S M) ?_ (fun t1 => ?_)
  · refine s_if_lt (tgt := 14) (dt_X_isPrice 1 _ _ _ rfl) rfl ?_ ?_
    · refine s_iconst (dt_X_isPrice 7 _ _ _ rfl) rfl ?_
      exact s_mask [false] (s_ret0 rfl)
    · refine s_iload_n (dt_X_isPrice 2 _ _ _ rfl) rfl ?_
      refine s_bipush (dt_X_isPrice 3 _ _ _ rfl) rfl ?_
      refine s_if_icmp_gt (tgt := 14) (dt_X_isPrice 4 _ _ _ rfl) rfl ?_ ?_
      · refine s_iconst (dt_X_isPrice 5 _ _ _ rfl) rfl ?_
        refine s_goto (tgt := 15) (dt_X_isPrice 6 _ _ _ rfl) rfl ?_
        exact s_mask [false] (s_ret0 rfl)
      · refine s_iconst (dt_X_isPrice 7 _ _ _ rfl) rfl ?_
        exact s_mask [false] (s_ret0 rfl)
  exact s_zret (dt_X_isPrice 8 _ _ _ rfl) rfl rfl
theorem c_X_isPrice {S : KS} (hS : KExt 382 S)  (a0 : Int) (M : KM) : ∀ q, f_X_isPrice a0 M = some q → Ctr y_X_isPrice Y_X_isPrice [VI a0] S M (some (VI q)) S (M) := fun q hq =>
  ctr_of md_X_isPrice (Nat.le_of_ble_eq_true rfl) ⟨Nat.le_refl _, Nat.le_refl _⟩ 0 hq rfl (fun _ G => sim_X_isPrice hS  a0 M)
noncomputable def f_X_market (a0 : Int) (a1 : Int) (M : KM) : Option (Int) := Option.bind (f_X_isPrice a0 M) (fun q1 => (if q1 = 0 then some (-1000000) else Option.bind (f_X_isPrice a1 M) (fun q2 => (if q2 = 0 then some (-1000000) else Option.bind (f_X_askedOver a0 a1 (-1) M) (fun q3 => some q3)))))
set_option maxRecDepth 100000 in
theorem sim_X_market {G : Gam} {S : KS} (hS : KExt 382 S)  (a0 : Int) (a1 : Int) (M : KM) : Sim G Y_X_market (f_X_market a0 a1 M) (kC 0 [some (VR (some 0)), some (VI a0), some (VI a1)] [] S M) (fun (q : Int) => Sum.inr (some (VI q), S, M)) := by
  unfold f_X_market
  refine s_iload_n (dt_X_market 0 _ _ _ rfl) rfl ?_
  refine s_callO (y := y_X_isPrice) (Y' := Y_X_isPrice) (as := [VI a0]) (r := fun q => some (VI q)) (M' := fun q => M) (kInvS (dt_X_market 1 _ _ _ rfl) kst_X_isPrice rfl) kl_X_329 md_X_isPrice rfl rfl (fun q hq => c_X_isPrice hS a0 M q hq) (fun q1 => ?_)
  refine s_if_eq (tgt := 14) (dt_X_market 2 _ _ _ rfl) rfl ?_ ?_
  · refine s_ldc (n := (-1000000)) (kc_X_173) (dt_X_market 6 _ _ _ rfl) rfl ?_
    exact s_iret (dt_X_market 7 _ _ _ rfl) rfl rfl
  · refine s_iload_n (dt_X_market 3 _ _ _ rfl) rfl ?_
    refine s_callO (y := y_X_isPrice) (Y' := Y_X_isPrice) (as := [VI a1]) (r := fun q => some (VI q)) (M' := fun q => M) (kInvS (dt_X_market 4 _ _ _ rfl) kst_X_isPrice rfl) kl_X_329 md_X_isPrice rfl rfl (fun q hq => c_X_isPrice hS a1 M q hq) (fun q2 => ?_)
    refine s_if_ne (tgt := 17) (dt_X_market 5 _ _ _ rfl) rfl ?_ ?_
    · refine s_ldc (n := (-1000000)) (kc_X_173) (dt_X_market 6 _ _ _ rfl) rfl ?_
      exact s_iret (dt_X_market 7 _ _ _ rfl) rfl rfl
    · refine s_aload_n (dt_X_market 8 _ _ _ rfl) rfl ?_
      refine s_iload_n (dt_X_market 9 _ _ _ rfl) rfl ?_
      refine s_iload_n (dt_X_market 10 _ _ _ rfl) rfl ?_
      refine s_iconst (dt_X_market 11 _ _ _ rfl) rfl ?_
      refine s_callO (y := y_X_askedOver) (Y' := Y_X_askedOver) (as := [VR (some 0), VI a0, VI a1, VI (-1)]) (r := fun q => some (VI q)) (M' := fun q => M) (kInvV (dt_X_market 12 _ _ _ rfl) kin_X_askedOver 0 rfl (sc_0 hS) kse_X_askedOver rfl) kl_X_332 md_X_askedOver rfl rfl (fun q hq => c_X_askedOver hS a0 a1 (-1) M q hq) (fun q3 => ?_)
      exact s_iret (dt_X_market 13 _ _ _ rfl) rfl rfl
theorem c_X_market {S : KS} (hS : KExt 382 S)  (a0 : Int) (a1 : Int) (M : KM) : ∀ q, f_X_market a0 a1 M = some q → Ctr y_X_market Y_X_market [VR (some 0), VI a0, VI a1] S M (some (VI q)) S (M) := fun q hq =>
  ctr_of md_X_market (Nat.le_of_ble_eq_true rfl) ⟨Nat.le_refl _, Nat.le_refl _⟩ 0 hq rfl (fun _ G => sim_X_market hS  a0 a1 M)
noncomputable def f_X_restingPrice (a0 : Int) (a1 : Int) (M : KM) : Option (Int) := Option.bind (f_X_askedOver 0 a0 a1 M) (fun q1 => letI_ (kabs q1) (fun v2 => Option.bind (whileO (σ := Int × Int × Int) (ε := Int) (fun s3 => (if s3.2.2 ≤ 99 then Option.bind (f_X_askedOver s3.2.2 a0 a1 M) (fun q4 => letI_ (kabs q4) (fun v5 => Option.bind ((if v5 < s3.2.1 then some (s3.2.2, v5) else some (s3.1, s3.2.1)) : Option (Int × Int)) (fun t6 => some (Sum.inl (t6.1, t6.2, w32 (s3.2.2 + 1)))))) else some (Sum.inr s3.1))) (0, v2, 1)) (fun e7 => some e7)))
set_option maxRecDepth 100000 in
theorem sim_X_restingPrice {G : Gam} {S : KS} (hS : KExt 382 S)  (a0 : Int) (a1 : Int) (M : KM) : Sim G Y_X_restingPrice (f_X_restingPrice a0 a1 M) (kC 0 [some (VR (some 0)), some (VI a0), some (VI a1), none, none, none, none] [] S M) (fun (q : Int) => Sum.inr (some (VI q), S, M)) := by
  unfold f_X_restingPrice
  refine s_iconst (dt_X_restingPrice 0 _ _ _ rfl) rfl ?_
  refine s_istore_n (dt_X_restingPrice 1 _ _ _ rfl) rfl ?_
  refine s_aload_n (dt_X_restingPrice 2 _ _ _ rfl) rfl ?_
  refine s_iconst (dt_X_restingPrice 3 _ _ _ rfl) rfl ?_
  refine s_iload_n (dt_X_restingPrice 4 _ _ _ rfl) rfl ?_
  refine s_iload_n (dt_X_restingPrice 5 _ _ _ rfl) rfl ?_
  refine s_callO (y := y_X_askedOver) (Y' := Y_X_askedOver) (as := [VR (some 0), VI 0, VI a0, VI a1]) (r := fun q => some (VI q)) (M' := fun q => M) (kInvV (dt_X_restingPrice 6 _ _ _ rfl) kin_X_askedOver 0 rfl (sc_0 hS) kse_X_askedOver rfl) kl_X_332 md_X_askedOver rfl rfl (fun q hq => c_X_askedOver hS 0 a0 a1 M q hq) (fun q1 => ?_)
  refine s_mabs (dt_X_restingPrice 7 _ _ _ rfl) kj_X_338 rfl ?_
  refine s_letI (fun v2 => ?_)
  refine s_istore (dt_X_restingPrice 8 _ _ _ rfl) rfl ?_
  refine s_iconst (dt_X_restingPrice 9 _ _ _ rfl) rfl ?_
  refine s_istore (dt_X_restingPrice 10 _ _ _ rfl) rfl ?_
  refine s_bd (κ := (fun (e7 : Int) => kC 57 [none, none, none, some (VI e7), none, none, none] [] S M)) (s_mask [true, true, true, true, true, true, false] (s_while (c := fun s3 => kC 17 [some (VR (some 0)), some (VI a0), some (VI a1), some (VI s3.1), some (VI s3.2.1), some (VI s3.2.2), none] [] S M) (fun s3 => ?_) (0, v2, 1))) ?_
  · refine s_iload (dt_X_restingPrice 11 _ _ _ rfl) rfl ?_
    refine s_bipush (dt_X_restingPrice 12 _ _ _ rfl) rfl ?_
    refine s_if_icmp_gt (tgt := 57) (dt_X_restingPrice 13 _ _ _ rfl) rfl ?_ ?_
    · refine s_aload_n (dt_X_restingPrice 14 _ _ _ rfl) rfl ?_
      refine s_iload (dt_X_restingPrice 15 _ _ _ rfl) rfl ?_
      refine s_iload_n (dt_X_restingPrice 16 _ _ _ rfl) rfl ?_
      refine s_iload_n (dt_X_restingPrice 17 _ _ _ rfl) rfl ?_
      refine s_callO (y := y_X_askedOver) (Y' := Y_X_askedOver) (as := [VR (some 0), VI s3.2.2, VI a0, VI a1]) (r := fun q => some (VI q)) (M' := fun q => M) (kInvV (dt_X_restingPrice 18 _ _ _ rfl) kin_X_askedOver 0 rfl (sc_0 hS) kse_X_askedOver rfl) kl_X_332 md_X_askedOver rfl rfl (fun q hq => c_X_askedOver hS s3.2.2 a0 a1 M q hq) (fun q4 => ?_)
      refine s_mabs (dt_X_restingPrice 19 _ _ _ rfl) kj_X_338 rfl ?_
      refine s_letI (fun v5 => ?_)
      refine s_istore (dt_X_restingPrice 20 _ _ _ rfl) rfl ?_
      refine s_iload (dt_X_restingPrice 21 _ _ _ rfl) rfl ?_
      refine s_iload (dt_X_restingPrice 22 _ _ _ rfl) rfl ?_
      refine s_bd (κ := fun t6 => kC 51 [some (VR (some 0)), some (VI a0), some (VI a1), some (VI t6.1), some (VI t6.2), some (VI s3.2.2), none] [] S M) ?_ (fun t6 => ?_)
      · refine s_if_icmp_ge (tgt := 51) (dt_X_restingPrice 23 _ _ _ rfl) rfl ?_ ?_
        · refine s_iload (dt_X_restingPrice 24 _ _ _ rfl) rfl ?_
          refine s_istore_n (dt_X_restingPrice 25 _ _ _ rfl) rfl ?_
          refine s_iload (dt_X_restingPrice 26 _ _ _ rfl) rfl ?_
          refine s_istore (dt_X_restingPrice 27 _ _ _ rfl) rfl ?_
          exact s_mask [true, true, true, true, true, true, false] (s_ret0 rfl)
        · exact s_mask [true, true, true, true, true, true, false] (s_ret0 rfl)
      refine s_iinc (dt_X_restingPrice 28 _ _ _ rfl) rfl rfl ?_
      refine s_goto (tgt := 17) (dt_X_restingPrice 29 _ _ _ rfl) rfl ?_
      exact s_mask [true, true, true, true, true, true, false] (s_ret0 rfl)
    · exact s_mask [false, false, false, true, false, false, false] (s_ret0 rfl)
  intro e7
  refine s_iload_n (dt_X_restingPrice 30 _ _ _ rfl) rfl ?_
  exact s_iret (dt_X_restingPrice 31 _ _ _ rfl) rfl rfl
theorem c_X_restingPrice {S : KS} (hS : KExt 382 S)  (a0 : Int) (a1 : Int) (M : KM) : ∀ q, f_X_restingPrice a0 a1 M = some q → Ctr y_X_restingPrice Y_X_restingPrice [VR (some 0), VI a0, VI a1] S M (some (VI q)) S (M) := fun q hq =>
  ctr_of md_X_restingPrice (Nat.le_of_ble_eq_true rfl) ⟨Nat.le_refl _, Nat.le_refl _⟩ 4 hq rfl (fun _ G => sim_X_restingPrice hS  a0 a1 M)
noncomputable def f_X_rests (a0 : Int) (a1 : Int) (M : KM) : Option (Int) := Option.bind (f_X_isPrice a0 M) (fun q1 => (if q1 = 0 then some (-1000000) else (if a1 < 0 then some (-1000000) else (if a1 ≤ 1 then Option.bind (f_X_restingPrice a0 (-1) M) (fun q2 => Option.bind ((if a1 = 0 then some q2 else Option.bind (f_X_askedOver q2 a0 (-1) M) (fun q3 => some q3)) : Option (Int)) (fun t4 => some t4)) else some (-1000000)))))
set_option maxRecDepth 100000 in
theorem sim_X_rests {G : Gam} {S : KS} (hS : KExt 382 S)  (a0 : Int) (a1 : Int) (M : KM) : Sim G Y_X_rests (f_X_rests a0 a1 M) (kC 0 [some (VR (some 0)), some (VI a0), some (VI a1), none] [] S M) (fun (q : Int) => Sum.inr (some (VI q), S, M)) := by
  unfold f_X_rests
  refine s_iload_n (dt_X_rests 0 _ _ _ rfl) rfl ?_
  refine s_callO (y := y_X_isPrice) (Y' := Y_X_isPrice) (as := [VI a0]) (r := fun q => some (VI q)) (M' := fun q => M) (kInvS (dt_X_rests 1 _ _ _ rfl) kst_X_isPrice rfl) kl_X_329 md_X_isPrice rfl rfl (fun q hq => c_X_isPrice hS a0 M q hq) (fun q1 => ?_)
  refine s_if_eq (tgt := 16) (dt_X_rests 2 _ _ _ rfl) rfl ?_ ?_
  · refine s_ldc (n := (-1000000)) (kc_X_173) (dt_X_rests 8 _ _ _ rfl) rfl ?_
    exact s_iret (dt_X_rests 9 _ _ _ rfl) rfl rfl
  · refine s_iload_n (dt_X_rests 3 _ _ _ rfl) rfl ?_
    refine s_if_lt (tgt := 16) (dt_X_rests 4 _ _ _ rfl) rfl ?_ ?_
    · refine s_ldc (n := (-1000000)) (kc_X_173) (dt_X_rests 8 _ _ _ rfl) rfl ?_
      exact s_iret (dt_X_rests 9 _ _ _ rfl) rfl rfl
    · refine s_iload_n (dt_X_rests 5 _ _ _ rfl) rfl ?_
      refine s_iconst (dt_X_rests 6 _ _ _ rfl) rfl ?_
      refine s_if_icmp_le (tgt := 19) (dt_X_rests 7 _ _ _ rfl) rfl ?_ ?_
      · refine s_aload_n (dt_X_rests 10 _ _ _ rfl) rfl ?_
        refine s_iload_n (dt_X_rests 11 _ _ _ rfl) rfl ?_
        refine s_iconst (dt_X_rests 12 _ _ _ rfl) rfl ?_
        refine s_callO (y := y_X_restingPrice) (Y' := Y_X_restingPrice) (as := [VR (some 0), VI a0, VI (-1)]) (r := fun q => some (VI q)) (M' := fun q => M) (kInvV (dt_X_rests 13 _ _ _ rfl) kin_X_restingPrice 0 rfl (sc_0 hS) kse_X_restingPrice rfl) kl_X_335 md_X_restingPrice rfl rfl (fun q hq => c_X_restingPrice hS a0 (-1) M q hq) (fun q2 => ?_)
        refine s_istore_n (dt_X_rests 14 _ _ _ rfl) rfl ?_
        refine s_iload_n (dt_X_rests 15 _ _ _ rfl) rfl ?_
        refine s_bd (κ := fun t4 => kC 41 [none, none, none, none] [VI t4] S M) ?_ (fun t4 => ?_)
        · refine s_if_ne (tgt := 34) (dt_X_rests 16 _ _ _ rfl) rfl ?_ ?_
          · refine s_iload_n (dt_X_rests 17 _ _ _ rfl) rfl ?_
            refine s_goto (tgt := 41) (dt_X_rests 18 _ _ _ rfl) rfl ?_
            exact s_mask [false, false, false, false] (s_ret0 rfl)
          · refine s_aload_n (dt_X_rests 19 _ _ _ rfl) rfl ?_
            refine s_iload_n (dt_X_rests 20 _ _ _ rfl) rfl ?_
            refine s_iload_n (dt_X_rests 21 _ _ _ rfl) rfl ?_
            refine s_iconst (dt_X_rests 22 _ _ _ rfl) rfl ?_
            refine s_callO (y := y_X_askedOver) (Y' := Y_X_askedOver) (as := [VR (some 0), VI q2, VI a0, VI (-1)]) (r := fun q => some (VI q)) (M' := fun q => M) (kInvV (dt_X_rests 23 _ _ _ rfl) kin_X_askedOver 0 rfl (sc_0 hS) kse_X_askedOver rfl) kl_X_332 md_X_askedOver rfl rfl (fun q hq => c_X_askedOver hS q2 a0 (-1) M q hq) (fun q3 => ?_)
            exact s_mask [false, false, false, false] (s_ret0 rfl)
        exact s_iret (dt_X_rests 24 _ _ _ rfl) rfl rfl
      · refine s_ldc (n := (-1000000)) (kc_X_173) (dt_X_rests 8 _ _ _ rfl) rfl ?_
        exact s_iret (dt_X_rests 9 _ _ _ rfl) rfl rfl
theorem c_X_rests {S : KS} (hS : KExt 382 S)  (a0 : Int) (a1 : Int) (M : KM) : ∀ q, f_X_rests a0 a1 M = some q → Ctr y_X_rests Y_X_rests [VR (some 0), VI a0, VI a1] S M (some (VI q)) S (M) := fun q hq =>
  ctr_of md_X_rests (Nat.le_of_ble_eq_true rfl) ⟨Nat.le_refl _, Nat.le_refl _⟩ 1 hq rfl (fun _ G => sim_X_rests hS  a0 a1 M)
noncomputable def f_X_corner (a0 : Int) (a1 : Int) (M : KM) : Option (Int) := Option.bind (f_X_isAlive a0 M) (fun q1 => (if q1 = 0 then some (-1000000) else Option.bind (f_X_isPrice a1 M) (fun q2 => (if q2 = 0 then some (-1000000) else Option.bind (f_X_restingPrice a1 (-1) M) (fun q3 => Option.bind (f_X_restingPrice a1 a0 M) (fun q4 => some (w32 (q3 - q4))))))))
set_option maxRecDepth 100000 in
theorem sim_X_corner {G : Gam} {S : KS} (hS : KExt 382 S)  (a0 : Int) (a1 : Int) (M : KM) : Sim G Y_X_corner (f_X_corner a0 a1 M) (kC 0 [some (VR (some 0)), some (VI a0), some (VI a1)] [] S M) (fun (q : Int) => Sum.inr (some (VI q), S, M)) := by
  unfold f_X_corner
  refine s_aload_n (dt_X_corner 0 _ _ _ rfl) rfl ?_
  refine s_iload_n (dt_X_corner 1 _ _ _ rfl) rfl ?_
  refine s_callO (y := y_X_isAlive) (Y' := Y_X_isAlive) (as := [VR (some 0), VI a0]) (r := fun q => some (VI q)) (M' := fun q => M) (kInvV (dt_X_corner 2 _ _ _ rfl) kin_X_isAlive 0 rfl (sc_0 hS) kse_X_isAlive rfl) kl_X_147 md_X_isAlive rfl rfl (fun q hq => c_X_isAlive hS a0 M q hq) (fun q1 => ?_)
  refine s_if_eq (tgt := 15) (dt_X_corner 3 _ _ _ rfl) rfl ?_ ?_
  · refine s_ldc (n := (-1000000)) (kc_X_173) (dt_X_corner 7 _ _ _ rfl) rfl ?_
    exact s_iret (dt_X_corner 8 _ _ _ rfl) rfl rfl
  · refine s_iload_n (dt_X_corner 4 _ _ _ rfl) rfl ?_
    refine s_callO (y := y_X_isPrice) (Y' := Y_X_isPrice) (as := [VI a1]) (r := fun q => some (VI q)) (M' := fun q => M) (kInvS (dt_X_corner 5 _ _ _ rfl) kst_X_isPrice rfl) kl_X_329 md_X_isPrice rfl rfl (fun q hq => c_X_isPrice hS a1 M q hq) (fun q2 => ?_)
    refine s_if_ne (tgt := 18) (dt_X_corner 6 _ _ _ rfl) rfl ?_ ?_
    · refine s_ldc (n := (-1000000)) (kc_X_173) (dt_X_corner 7 _ _ _ rfl) rfl ?_
      exact s_iret (dt_X_corner 8 _ _ _ rfl) rfl rfl
    · refine s_aload_n (dt_X_corner 9 _ _ _ rfl) rfl ?_
      refine s_iload_n (dt_X_corner 10 _ _ _ rfl) rfl ?_
      refine s_iconst (dt_X_corner 11 _ _ _ rfl) rfl ?_
      refine s_callO (y := y_X_restingPrice) (Y' := Y_X_restingPrice) (as := [VR (some 0), VI a1, VI (-1)]) (r := fun q => some (VI q)) (M' := fun q => M) (kInvV (dt_X_corner 12 _ _ _ rfl) kin_X_restingPrice 0 rfl (sc_0 hS) kse_X_restingPrice rfl) kl_X_335 md_X_restingPrice rfl rfl (fun q hq => c_X_restingPrice hS a1 (-1) M q hq) (fun q3 => ?_)
      refine s_aload_n (dt_X_corner 13 _ _ _ rfl) rfl ?_
      refine s_iload_n (dt_X_corner 14 _ _ _ rfl) rfl ?_
      refine s_iload_n (dt_X_corner 15 _ _ _ rfl) rfl ?_
      refine s_callO (y := y_X_restingPrice) (Y' := Y_X_restingPrice) (as := [VR (some 0), VI a1, VI a0]) (r := fun q => some (VI q)) (M' := fun q => M) (kInvV (dt_X_corner 16 _ _ _ rfl) kin_X_restingPrice 0 rfl (sc_0 hS) kse_X_restingPrice rfl) kl_X_335 md_X_restingPrice rfl rfl (fun q hq => c_X_restingPrice hS a1 a0 M q hq) (fun q4 => ?_)
      refine s_isub (dt_X_corner 17 _ _ _ rfl) ?_
      exact s_iret (dt_X_corner 18 _ _ _ rfl) rfl rfl
theorem c_X_corner {S : KS} (hS : KExt 382 S)  (a0 : Int) (a1 : Int) (M : KM) : ∀ q, f_X_corner a0 a1 M = some q → Ctr y_X_corner Y_X_corner [VR (some 0), VI a0, VI a1] S M (some (VI q)) S (M) := fun q hq =>
  ctr_of md_X_corner (Nat.le_of_ble_eq_true rfl) ⟨Nat.le_refl _, Nat.le_refl _⟩ 0 hq rfl (fun _ G => sim_X_corner hS  a0 a1 M)
noncomputable def f_Safety_fewestOf (a0 : Int) (a1 : Int) (M : KM) : Option (Int) := some (atM M 348 10809 (w32 ((w32 (a0 * 1201)) + a1)))
set_option maxRecDepth 100000 in
theorem sim_Safety_fewestOf {G : Gam} {S : KS} (hS : KExt 382 S)  (a0 : Int) (a1 : Int) (M : KM) : Sim G Y_Safety_fewestOf (f_Safety_fewestOf a0 a1 M) (kC 0 [some (VR (some 345)), some (VI a0), some (VI a1)] [] S M) (fun (q : Int) => Sum.inr (some (VI q), S, M)) := by
  unfold f_Safety_fewestOf
  refine s_aload_n (dt_Safety_fewestOf 0 _ _ _ rfl) rfl ?_
  refine s_getR (o := (some 348)) (dt_Safety_fewestOf 1 _ _ _ rfl) (kf_Safety_18) (sc_345 hS) rfl rfl ?_
  refine s_iload_n (dt_Safety_fewestOf 2 _ _ _ rfl) rfl ?_
  refine s_sipush (dt_Safety_fewestOf 3 _ _ _ rfl) rfl ?_
  refine s_imul (dt_Safety_fewestOf 4 _ _ _ rfl) ?_
  refine s_iload_n (dt_Safety_fewestOf 5 _ _ _ rfl) rfl ?_
  refine s_iadd (dt_Safety_fewestOf 6 _ _ _ rfl) ?_
  refine s_inv (y := y_X_at) (Y' := Y_X_at) (as := [VR (some 348), VI (w32 ((w32 (a0 * 1201)) + a1))]) (r := some (VI (atM M 348 10809 (w32 ((w32 (a0 * 1201)) + a1))))) (M' := M) (kInvS (dt_Safety_fewestOf 7 _ _ _ rfl) kst_X_at rfl) kl_Safety_49 md_X_at rfl rfl (c_X_at hS ⟨(sc_348 hS), by decide⟩ (w32 ((w32 (a0 * 1201)) + a1)) M) ?_
  exact s_iret (dt_Safety_fewestOf 8 _ _ _ rfl) rfl rfl
theorem c_Safety_fewestOf {S : KS} (hS : KExt 382 S)  (a0 : Int) (a1 : Int) (M : KM) : ∀ q, f_Safety_fewestOf a0 a1 M = some q → Ctr y_Safety_fewestOf Y_Safety_fewestOf [VR (some 345), VI a0, VI a1] S M (some (VI q)) S (M) := fun q hq =>
  ctr_of md_Safety_fewestOf (Nat.le_of_ble_eq_true rfl) ⟨Nat.le_refl _, Nat.le_refl _⟩ 0 hq rfl (fun _ G => sim_Safety_fewestOf hS  a0 a1 M)
noncomputable def f_Safety_fewestBy (a0 : Int) (a1 : Int) (M : KM) : Option (Int) := letI_ (min (M 345 4) a1) (fun v1 => letI_ (w32 ((w32 ((w32 (a0 - 1)) * 1201)) + a1)) (fun v2 => letI_ (max 0 (w32 (a1 - (w32 ((w32 (a0 - 1)) * (M 345 4)))))) (fun v3 => Option.bind (whileO (σ := Int × Int) (ε := Int) (fun s4 => (if s4.2 ≤ v1 then (if s4.1 ≤ 0 then some (Sum.inr s4.1) else letI_ (w32 ((M 345 3) + s4.2)) (fun v5 => letI_ (w32 (v2 - s4.2)) (fun v6 => Option.bind ((if v5 < 0 then some s4.1 else (if v5 < 151 then (if v6 < 0 then some s4.1 else (if v6 < 10809 then (if 0 ≤ v5 ∧ v5 < 151 then (if 0 ≤ v6 ∧ v6 < 10809 then letI_ (min s4.1 (w32 ((M 346 (v5).toNat) + (M 348 (v6).toNat)))) (fun v7 => some v7) else none) else none) else some s4.1)) else some s4.1)) : Option (Int)) (fun t8 => some (Sum.inl (t8, w32 (s4.2 + 1))))))) else some (Sum.inr s4.1))) (100000000, v3)) (fun e9 => some e9))))
set_option maxRecDepth 100000 in
theorem sim_Safety_fewestBy {G : Gam} {S : KS} (hS : KExt 382 S)  (a0 : Int) (a1 : Int) (M : KM) : Sim G Y_Safety_fewestBy (f_Safety_fewestBy a0 a1 M) (kC 0 [some (VR (some 345)), some (VI a0), some (VI a1), none, none, none, none, none, none] [] S M) (fun (q : Int) => Sum.inr (some (VI q), S, M)) := by
  unfold f_Safety_fewestBy
  refine s_ldc (n := 100000000) (kc_Safety_79) (dt_Safety_fewestBy 0 _ _ _ rfl) rfl ?_
  refine s_istore_n (dt_Safety_fewestBy 1 _ _ _ rfl) rfl ?_
  refine s_aload_n (dt_Safety_fewestBy 2 _ _ _ rfl) rfl ?_
  refine s_getI (dt_Safety_fewestBy 3 _ _ _ rfl) (kf_Safety_31) (sc_345 hS) rfl ?_
  refine s_iload_n (dt_Safety_fewestBy 4 _ _ _ rfl) rfl ?_
  refine s_mmin (dt_Safety_fewestBy 5 _ _ _ rfl) kj_Safety_73 rfl ?_
  refine s_letI (fun v1 => ?_)
  refine s_istore (dt_Safety_fewestBy 6 _ _ _ rfl) rfl ?_
  refine s_iload_n (dt_Safety_fewestBy 7 _ _ _ rfl) rfl ?_
  refine s_iconst (dt_Safety_fewestBy 8 _ _ _ rfl) rfl ?_
  refine s_isub (dt_Safety_fewestBy 9 _ _ _ rfl) ?_
  refine s_sipush (dt_Safety_fewestBy 10 _ _ _ rfl) rfl ?_
  refine s_imul (dt_Safety_fewestBy 11 _ _ _ rfl) ?_
  refine s_iload_n (dt_Safety_fewestBy 12 _ _ _ rfl) rfl ?_
  refine s_iadd (dt_Safety_fewestBy 13 _ _ _ rfl) ?_
  refine s_letI (fun v2 => ?_)
  refine s_istore (dt_Safety_fewestBy 14 _ _ _ rfl) rfl ?_
  refine s_iconst (dt_Safety_fewestBy 15 _ _ _ rfl) rfl ?_
  refine s_iload_n (dt_Safety_fewestBy 16 _ _ _ rfl) rfl ?_
  refine s_iload_n (dt_Safety_fewestBy 17 _ _ _ rfl) rfl ?_
  refine s_iconst (dt_Safety_fewestBy 18 _ _ _ rfl) rfl ?_
  refine s_isub (dt_Safety_fewestBy 19 _ _ _ rfl) ?_
  refine s_aload_n (dt_Safety_fewestBy 20 _ _ _ rfl) rfl ?_
  refine s_getI (dt_Safety_fewestBy 21 _ _ _ rfl) (kf_Safety_31) (sc_345 hS) rfl ?_
  refine s_imul (dt_Safety_fewestBy 22 _ _ _ rfl) ?_
  refine s_isub (dt_Safety_fewestBy 23 _ _ _ rfl) ?_
  refine s_mmax (dt_Safety_fewestBy 24 _ _ _ rfl) kj_Safety_68 rfl ?_
  refine s_letI (fun v3 => ?_)
  refine s_istore (dt_Safety_fewestBy 25 _ _ _ rfl) rfl ?_
  refine s_bd (κ := (fun (e9 : Int) => kC 123 [none, none, none, some (VI e9), none, none, none, none, none] [] S M)) (s_mask [true, false, false, true, true, true, true, false, false] (s_while (c := fun s4 => kC 40 [some (VR (some 345)), none, none, some (VI s4.1), some (VI v1), some (VI v2), some (VI s4.2), none, none] [] S M) (fun s4 => ?_) (100000000, v3))) ?_
  · refine s_iload (dt_Safety_fewestBy 26 _ _ _ rfl) rfl ?_
    refine s_iload (dt_Safety_fewestBy 27 _ _ _ rfl) rfl ?_
    refine s_if_icmp_gt (tgt := 123) (dt_Safety_fewestBy 28 _ _ _ rfl) rfl ?_ ?_
    · refine s_iload_n (dt_Safety_fewestBy 29 _ _ _ rfl) rfl ?_
      refine s_if_le (tgt := 123) (dt_Safety_fewestBy 30 _ _ _ rfl) rfl ?_ ?_
      · exact s_mask [false, false, false, true, false, false, false, false, false] (s_ret0 rfl)
      · refine s_aload_n (dt_Safety_fewestBy 31 _ _ _ rfl) rfl ?_
        refine s_getI (dt_Safety_fewestBy 32 _ _ _ rfl) (kf_Safety_27) (sc_345 hS) rfl ?_
        refine s_iload (dt_Safety_fewestBy 33 _ _ _ rfl) rfl ?_
        refine s_iadd (dt_Safety_fewestBy 34 _ _ _ rfl) ?_
        refine s_letI (fun v5 => ?_)
        refine s_istore (dt_Safety_fewestBy 35 _ _ _ rfl) rfl ?_
        refine s_iload (dt_Safety_fewestBy 36 _ _ _ rfl) rfl ?_
        refine s_iload (dt_Safety_fewestBy 37 _ _ _ rfl) rfl ?_
        refine s_isub (dt_Safety_fewestBy 38 _ _ _ rfl) ?_
        refine s_letI (fun v6 => ?_)
        refine s_istore (dt_Safety_fewestBy 39 _ _ _ rfl) rfl ?_
        refine s_iload (dt_Safety_fewestBy 40 _ _ _ rfl) rfl ?_
        refine s_bd (κ := fun t8 => kC 117 [some (VR (some 345)), none, none, some (VI t8), some (VI v1), some (VI v2), some (VI s4.2), none, none] [] S M) ?_ (fun t8 => ?_)
        · refine s_if_lt (tgt := 117) (dt_Safety_fewestBy 41 _ _ _ rfl) rfl ?_ ?_
          · exact s_mask [true, false, false, true, true, true, true, false, false] (s_ret0 rfl)
          · refine s_iload (dt_Safety_fewestBy 42 _ _ _ rfl) rfl ?_
            refine s_aload_n (dt_Safety_fewestBy 43 _ _ _ rfl) rfl ?_
            refine s_getR (o := (some 346)) (dt_Safety_fewestBy 44 _ _ _ rfl) (kf_Safety_9) (sc_345 hS) rfl rfl ?_
            refine s_alen (N := 151) (dt_Safety_fewestBy 45 _ _ _ rfl) (sc_346 hS) rfl rfl (by decide) ?_
            refine s_if_icmp_ge (tgt := 117) (dt_Safety_fewestBy 46 _ _ _ rfl) rfl ?_ ?_
            · refine s_iload (dt_Safety_fewestBy 47 _ _ _ rfl) rfl ?_
              refine s_if_lt (tgt := 117) (dt_Safety_fewestBy 48 _ _ _ rfl) rfl ?_ ?_
              · exact s_mask [true, false, false, true, true, true, true, false, false] (s_ret0 rfl)
              · refine s_iload (dt_Safety_fewestBy 49 _ _ _ rfl) rfl ?_
                refine s_aload_n (dt_Safety_fewestBy 50 _ _ _ rfl) rfl ?_
                refine s_getR (o := (some 348)) (dt_Safety_fewestBy 51 _ _ _ rfl) (kf_Safety_18) (sc_345 hS) rfl rfl ?_
                refine s_alen (N := 10809) (dt_Safety_fewestBy 52 _ _ _ rfl) (sc_348 hS) rfl rfl (by decide) ?_
                refine s_if_icmp_ge (tgt := 117) (dt_Safety_fewestBy 53 _ _ _ rfl) rfl ?_ ?_
                · refine s_iload_n (dt_Safety_fewestBy 54 _ _ _ rfl) rfl ?_
                  refine s_aload_n (dt_Safety_fewestBy 55 _ _ _ rfl) rfl ?_
                  refine s_getR (o := (some 346)) (dt_Safety_fewestBy 56 _ _ _ rfl) (kf_Safety_9) (sc_345 hS) rfl rfl ?_
                  refine s_iload (dt_Safety_fewestBy 57 _ _ _ rfl) rfl ?_
                  refine s_iald (N := 151) (dt_Safety_fewestBy 58 _ _ _ rfl) (sc_346 hS) rfl ?_
                  refine s_aload_n (dt_Safety_fewestBy 59 _ _ _ rfl) rfl ?_
                  refine s_getR (o := (some 348)) (dt_Safety_fewestBy 60 _ _ _ rfl) (kf_Safety_18) (sc_345 hS) rfl rfl ?_
                  refine s_iload (dt_Safety_fewestBy 61 _ _ _ rfl) rfl ?_
                  refine s_iald (N := 10809) (dt_Safety_fewestBy 62 _ _ _ rfl) (sc_348 hS) rfl ?_
                  refine s_iadd (dt_Safety_fewestBy 63 _ _ _ rfl) ?_
                  refine s_mmin (dt_Safety_fewestBy 64 _ _ _ rfl) kj_Safety_73 rfl ?_
                  refine s_letI (fun v7 => ?_)
                  refine s_istore_n (dt_Safety_fewestBy 65 _ _ _ rfl) rfl ?_
                  exact s_mask [true, false, false, true, true, true, true, false, false] (s_ret0 rfl)
                · exact s_mask [true, false, false, true, true, true, true, false, false] (s_ret0 rfl)
            · exact s_mask [true, false, false, true, true, true, true, false, false] (s_ret0 rfl)
        refine s_iinc (dt_Safety_fewestBy 66 _ _ _ rfl) rfl rfl ?_
        refine s_goto (tgt := 40) (dt_Safety_fewestBy 67 _ _ _ rfl) rfl ?_
        exact s_mask [true, false, false, true, true, true, true, false, false] (s_ret0 rfl)
    · exact s_mask [false, false, false, true, false, false, false, false, false] (s_ret0 rfl)
  intro e9
  refine s_iload_n (dt_Safety_fewestBy 68 _ _ _ rfl) rfl ?_
  exact s_iret (dt_Safety_fewestBy 69 _ _ _ rfl) rfl rfl
theorem c_Safety_fewestBy {S : KS} (hS : KExt 382 S)  (a0 : Int) (a1 : Int) (M : KM) : ∀ q, f_Safety_fewestBy a0 a1 M = some q → Ctr y_Safety_fewestBy Y_Safety_fewestBy [VR (some 345), VI a0, VI a1] S M (some (VI q)) S (M) := fun q hq =>
  ctr_of md_Safety_fewestBy (Nat.le_of_ble_eq_true rfl) ⟨Nat.le_refl _, Nat.le_refl _⟩ 6 hq rfl (fun _ G => sim_Safety_fewestBy hS  a0 a1 M)
noncomputable def f_Safety_fillRows (a0 : Int) (a1 : Int) (M : KM) : Option (KM) := letM_ (putM M 348 10809 0 0) (fun M1 => Option.bind (whileO (σ := Int × KM) (ε := KM) (fun s2 => (if s2.1 ≤ a0 then letI_ (max 0 (w32 (a1 - (w32 ((w32 (a0 - s2.1)) * (s2.2 345 4)))))) (fun v3 => letI_ (min a1 (w32 (s2.1 * (s2.2 345 4)))) (fun v4 => Option.bind (whileO (σ := Int × KM) (ε := KM) (fun s5 => (if s5.1 ≤ v4 then Option.bind (f_Safety_fewestBy s2.1 s5.1 s5.2) (fun q6 => letM_ (putM s5.2 348 10809 (w32 ((w32 (s2.1 * 1201)) + s5.1)) q6) (fun M7 => some (Sum.inl (w32 (s5.1 + 1), M7)))) else some (Sum.inr s5.2))) (v3, s2.2)) (fun e8 => some (Sum.inl (w32 (s2.1 + 1), e8))))) else some (Sum.inr s2.2))) (1, M1)) (fun e9 => some e9))
set_option maxRecDepth 100000 in
theorem sim_Safety_fillRows {G : Gam} {S : KS} (hS : KExt 382 S)  (a0 : Int) (a1 : Int) (M : KM) : Sim G Y_Safety_fillRows (f_Safety_fillRows a0 a1 M) (kC 0 [some (VR (some 345)), some (VI a0), some (VI a1), none, none, none, none] [] S M) (fun (q : KM) => Sum.inr (none, S, q)) := by
  unfold f_Safety_fillRows
  refine s_aload_n (dt_Safety_fillRows 0 _ _ _ rfl) rfl ?_
  refine s_getR (o := (some 348)) (dt_Safety_fillRows 1 _ _ _ rfl) (kf_Safety_18) (sc_345 hS) rfl rfl ?_
  refine s_iconst (dt_Safety_fillRows 2 _ _ _ rfl) rfl ?_
  refine s_iconst (dt_Safety_fillRows 3 _ _ _ rfl) rfl ?_
  refine s_inv (y := y_X_put) (Y' := Y_X_put) (as := [VR (some 348), VI 0, VI 0]) (r := none) (M' := (putM M 348 10809 0 0)) (kInvS (dt_Safety_fillRows 4 _ _ _ rfl) kst_X_put rfl) kl_Safety_64 md_X_put rfl rfl (c_X_put hS ⟨(sc_348 hS), by decide⟩ 0 0 M) ?_
  refine s_letM (fun M1 => ?_)
  refine s_iconst (dt_Safety_fillRows 5 _ _ _ rfl) rfl ?_
  refine s_istore_n (dt_Safety_fillRows 6 _ _ _ rfl) rfl ?_
  refine s_bd (κ := (fun (e9 : KM) => kC 89 [none, none, none, none, none, none, none] [] S e9)) (s_mask [true, true, true, true, false, false, false] (s_while (c := fun s2 => kC 11 [some (VR (some 345)), some (VI a0), some (VI a1), some (VI s2.1), none, none, none] [] S s2.2) (fun s2 => ?_) (1, M1))) ?_
  · refine s_iload_n (dt_Safety_fillRows 7 _ _ _ rfl) rfl ?_
    refine s_iload_n (dt_Safety_fillRows 8 _ _ _ rfl) rfl ?_
    refine s_if_icmp_gt (tgt := 89) (dt_Safety_fillRows 9 _ _ _ rfl) rfl ?_ ?_
    · refine s_iconst (dt_Safety_fillRows 10 _ _ _ rfl) rfl ?_
      refine s_iload_n (dt_Safety_fillRows 11 _ _ _ rfl) rfl ?_
      refine s_iload_n (dt_Safety_fillRows 12 _ _ _ rfl) rfl ?_
      refine s_iload_n (dt_Safety_fillRows 13 _ _ _ rfl) rfl ?_
      refine s_isub (dt_Safety_fillRows 14 _ _ _ rfl) ?_
      refine s_aload_n (dt_Safety_fillRows 15 _ _ _ rfl) rfl ?_
      refine s_getI (dt_Safety_fillRows 16 _ _ _ rfl) (kf_Safety_31) (sc_345 hS) rfl ?_
      refine s_imul (dt_Safety_fillRows 17 _ _ _ rfl) ?_
      refine s_isub (dt_Safety_fillRows 18 _ _ _ rfl) ?_
      refine s_mmax (dt_Safety_fillRows 19 _ _ _ rfl) kj_Safety_68 rfl ?_
      refine s_letI (fun v3 => ?_)
      refine s_istore (dt_Safety_fillRows 20 _ _ _ rfl) rfl ?_
      refine s_iload_n (dt_Safety_fillRows 21 _ _ _ rfl) rfl ?_
      refine s_iload_n (dt_Safety_fillRows 22 _ _ _ rfl) rfl ?_
      refine s_aload_n (dt_Safety_fillRows 23 _ _ _ rfl) rfl ?_
      refine s_getI (dt_Safety_fillRows 24 _ _ _ rfl) (kf_Safety_31) (sc_345 hS) rfl ?_
      refine s_imul (dt_Safety_fillRows 25 _ _ _ rfl) ?_
      refine s_mmin (dt_Safety_fillRows 26 _ _ _ rfl) kj_Safety_73 rfl ?_
      refine s_letI (fun v4 => ?_)
      refine s_istore (dt_Safety_fillRows 27 _ _ _ rfl) rfl ?_
      refine s_iload (dt_Safety_fillRows 28 _ _ _ rfl) rfl ?_
      refine s_istore (dt_Safety_fillRows 29 _ _ _ rfl) rfl ?_
      refine s_bd (κ := (fun (e8 : KM) => kC 83 [some (VR (some 345)), some (VI a0), some (VI a1), some (VI s2.1), none, none, none] [] S e8)) (s_mask [true, true, true, true, false, true, true] (s_while (c := fun s5 => kC 48 [some (VR (some 345)), some (VI a0), some (VI a1), some (VI s2.1), none, some (VI v4), some (VI s5.1)] [] S s5.2) (fun s5 => ?_) (v3, s2.2))) ?_
      · refine s_iload (dt_Safety_fillRows 30 _ _ _ rfl) rfl ?_
        refine s_iload (dt_Safety_fillRows 31 _ _ _ rfl) rfl ?_
        refine s_if_icmp_gt (tgt := 83) (dt_Safety_fillRows 32 _ _ _ rfl) rfl ?_ ?_
        · refine s_aload_n (dt_Safety_fillRows 33 _ _ _ rfl) rfl ?_
          refine s_getR (o := (some 348)) (dt_Safety_fillRows 34 _ _ _ rfl) (kf_Safety_18) (sc_345 hS) rfl rfl ?_
          refine s_iload_n (dt_Safety_fillRows 35 _ _ _ rfl) rfl ?_
          refine s_sipush (dt_Safety_fillRows 36 _ _ _ rfl) rfl ?_
          refine s_imul (dt_Safety_fillRows 37 _ _ _ rfl) ?_
          refine s_iload (dt_Safety_fillRows 38 _ _ _ rfl) rfl ?_
          refine s_iadd (dt_Safety_fillRows 39 _ _ _ rfl) ?_
          refine s_aload_n (dt_Safety_fillRows 40 _ _ _ rfl) rfl ?_
          refine s_iload_n (dt_Safety_fillRows 41 _ _ _ rfl) rfl ?_
          refine s_iload (dt_Safety_fillRows 42 _ _ _ rfl) rfl ?_
          refine s_callO (y := y_Safety_fewestBy) (Y' := Y_Safety_fewestBy) (as := [VR (some 345), VI s2.1, VI s5.1]) (r := fun q => some (VI q)) (M' := fun q => s5.2) (kInvV (dt_Safety_fillRows 43 _ _ _ rfl) kin_Safety_fewestBy 9 rfl (sc_345 hS) kse_Safety_fewestBy rfl) kl_Safety_76 md_Safety_fewestBy rfl rfl (fun q hq => c_Safety_fewestBy hS s2.1 s5.1 s5.2 q hq) (fun q6 => ?_)
          refine s_inv (y := y_X_put) (Y' := Y_X_put) (as := [VR (some 348), VI (w32 ((w32 (s2.1 * 1201)) + s5.1)), VI q6]) (r := none) (M' := (putM s5.2 348 10809 (w32 ((w32 (s2.1 * 1201)) + s5.1)) q6)) (kInvS (dt_Safety_fillRows 44 _ _ _ rfl) kst_X_put rfl) kl_Safety_64 md_X_put rfl rfl (c_X_put hS ⟨(sc_348 hS), by decide⟩ (w32 ((w32 (s2.1 * 1201)) + s5.1)) q6 s5.2) ?_
          refine s_letM (fun M7 => ?_)
          refine s_iinc (dt_Safety_fillRows 45 _ _ _ rfl) rfl rfl ?_
          refine s_goto (tgt := 48) (dt_Safety_fillRows 46 _ _ _ rfl) rfl ?_
          exact s_mask [true, true, true, true, false, true, true] (s_ret0 rfl)
        · exact s_mask [true, true, true, true, false, false, false] (s_ret0 rfl)
      intro e8
      refine s_iinc (dt_Safety_fillRows 47 _ _ _ rfl) rfl rfl ?_
      refine s_goto (tgt := 11) (dt_Safety_fillRows 48 _ _ _ rfl) rfl ?_
      exact s_mask [true, true, true, true, false, false, false] (s_ret0 rfl)
    · exact s_mask [false, false, false, false, false, false, false] (s_ret0 rfl)
  intro e9
  exact s_vret (dt_Safety_fillRows 49 _ _ _ rfl) rfl rfl
theorem c_Safety_fillRows {S : KS} (hS : KExt 382 S)  (a0 : Int) (a1 : Int) (M : KM) : ∀ q, f_Safety_fillRows a0 a1 M = some q → Ctr y_Safety_fillRows Y_Safety_fillRows [VR (some 345), VI a0, VI a1] S M (none) S (q) := fun q hq =>
  ctr_of md_Safety_fillRows (Nat.le_of_ble_eq_true rfl) ⟨Nat.le_refl _, Nat.le_refl _⟩ 4 hq rfl (fun _ G => sim_Safety_fillRows hS  a0 a1 M)
noncomputable def f_Safety_firstBest (a0 : Int) (a1 : Int) (M : KM) : Option (Int) := Option.bind (f_Safety_fewestOf (w32 (a0 + 1)) a1 M) (fun q1 => letI_ (min (M 345 4) a1) (fun v2 => letI_ (max 0 (w32 (a1 - (w32 (a0 * (M 345 4)))))) (fun v3 => Option.bind (whileO (σ := Int) (ε := Int ⊕ Unit) (fun s4 => (if s4 ≤ v2 then Option.bind (f_Safety_fewestOf a0 (w32 (a1 - s4)) M) (fun q5 => (if w32 ((atM M 346 151 (w32 ((M 345 3) + s4))) + q5) = q1 then some (Sum.inr (Sum.inl s4)) else some (Sum.inl (w32 (s4 + 1))))) else some (Sum.inr (Sum.inr ())))) v3) (Sum.elim (fun e6 => some e6) (fun e7 => some 0)))))
set_option maxRecDepth 100000 in
theorem sim_Safety_firstBest {G : Gam} {S : KS} (hS : KExt 382 S)  (a0 : Int) (a1 : Int) (M : KM) : Sim G Y_Safety_firstBest (f_Safety_firstBest a0 a1 M) (kC 0 [some (VR (some 345)), some (VI a0), some (VI a1), none, none, none] [] S M) (fun (q : Int) => Sum.inr (some (VI q), S, M)) := by
  unfold f_Safety_firstBest
  refine s_aload_n (dt_Safety_firstBest 0 _ _ _ rfl) rfl ?_
  refine s_iload_n (dt_Safety_firstBest 1 _ _ _ rfl) rfl ?_
  refine s_iconst (dt_Safety_firstBest 2 _ _ _ rfl) rfl ?_
  refine s_iadd (dt_Safety_firstBest 3 _ _ _ rfl) ?_
  refine s_iload_n (dt_Safety_firstBest 4 _ _ _ rfl) rfl ?_
  refine s_callO (y := y_Safety_fewestOf) (Y' := Y_Safety_fewestOf) (as := [VR (some 345), VI (w32 (a0 + 1)), VI a1]) (r := fun q => some (VI q)) (M' := fun q => M) (kInvV (dt_Safety_firstBest 5 _ _ _ rfl) kin_Safety_fewestOf 9 rfl (sc_345 hS) kse_Safety_fewestOf rfl) kl_Safety_57 md_Safety_fewestOf rfl rfl (fun q hq => c_Safety_fewestOf hS (w32 (a0 + 1)) a1 M q hq) (fun q1 => ?_)
  refine s_istore_n (dt_Safety_firstBest 6 _ _ _ rfl) rfl ?_
  refine s_aload_n (dt_Safety_firstBest 7 _ _ _ rfl) rfl ?_
  refine s_getI (dt_Safety_firstBest 8 _ _ _ rfl) (kf_Safety_31) (sc_345 hS) rfl ?_
  refine s_iload_n (dt_Safety_firstBest 9 _ _ _ rfl) rfl ?_
  refine s_mmin (dt_Safety_firstBest 10 _ _ _ rfl) kj_Safety_73 rfl ?_
  refine s_letI (fun v2 => ?_)
  refine s_istore (dt_Safety_firstBest 11 _ _ _ rfl) rfl ?_
  refine s_iconst (dt_Safety_firstBest 12 _ _ _ rfl) rfl ?_
  refine s_iload_n (dt_Safety_firstBest 13 _ _ _ rfl) rfl ?_
  refine s_iload_n (dt_Safety_firstBest 14 _ _ _ rfl) rfl ?_
  refine s_aload_n (dt_Safety_firstBest 15 _ _ _ rfl) rfl ?_
  refine s_getI (dt_Safety_firstBest 16 _ _ _ rfl) (kf_Safety_31) (sc_345 hS) rfl ?_
  refine s_imul (dt_Safety_firstBest 17 _ _ _ rfl) ?_
  refine s_isub (dt_Safety_firstBest 18 _ _ _ rfl) ?_
  refine s_mmax (dt_Safety_firstBest 19 _ _ _ rfl) kj_Safety_68 rfl ?_
  refine s_letI (fun v3 => ?_)
  refine s_istore (dt_Safety_firstBest 20 _ _ _ rfl) rfl ?_
  refine s_bd (κ := (Sum.elim (fun (e6 : Int) => kC 68 [none, none, none, none, none, some (VI e6)] [] S M) (fun (e7 : Unit) => kC 77 [none, none, none, none, none, none] [] S M))) (s_mask [true, true, true, true, true, true] (s_while (c := fun s4 => kC 33 [some (VR (some 345)), some (VI a0), some (VI a1), some (VI q1), some (VI v2), some (VI s4)] [] S M) (fun s4 => ?_) v3)) ?_
  · refine s_iload (dt_Safety_firstBest 21 _ _ _ rfl) rfl ?_
    refine s_iload (dt_Safety_firstBest 22 _ _ _ rfl) rfl ?_
    refine s_if_icmp_gt (tgt := 77) (dt_Safety_firstBest 23 _ _ _ rfl) rfl ?_ ?_
    · refine s_aload_n (dt_Safety_firstBest 24 _ _ _ rfl) rfl ?_
      refine s_getR (o := (some 346)) (dt_Safety_firstBest 25 _ _ _ rfl) (kf_Safety_9) (sc_345 hS) rfl rfl ?_
      refine s_aload_n (dt_Safety_firstBest 26 _ _ _ rfl) rfl ?_
      refine s_getI (dt_Safety_firstBest 27 _ _ _ rfl) (kf_Safety_27) (sc_345 hS) rfl ?_
      refine s_iload (dt_Safety_firstBest 28 _ _ _ rfl) rfl ?_
      refine s_iadd (dt_Safety_firstBest 29 _ _ _ rfl) ?_
      refine s_inv (y := y_X_at) (Y' := Y_X_at) (as := [VR (some 346), VI (w32 ((M 345 3) + s4))]) (r := some (VI (atM M 346 151 (w32 ((M 345 3) + s4))))) (M' := M) (kInvS (dt_Safety_firstBest 30 _ _ _ rfl) kst_X_at rfl) kl_Safety_49 md_X_at rfl rfl (c_X_at hS ⟨(sc_346 hS), by decide⟩ (w32 ((M 345 3) + s4)) M) ?_
      refine s_aload_n (dt_Safety_firstBest 31 _ _ _ rfl) rfl ?_
      refine s_iload_n (dt_Safety_firstBest 32 _ _ _ rfl) rfl ?_
      refine s_iload_n (dt_Safety_firstBest 33 _ _ _ rfl) rfl ?_
      refine s_iload (dt_Safety_firstBest 34 _ _ _ rfl) rfl ?_
      refine s_isub (dt_Safety_firstBest 35 _ _ _ rfl) ?_
      refine s_callO (y := y_Safety_fewestOf) (Y' := Y_Safety_fewestOf) (as := [VR (some 345), VI a0, VI (w32 (a1 - s4))]) (r := fun q => some (VI q)) (M' := fun q => M) (kInvV (dt_Safety_firstBest 36 _ _ _ rfl) kin_Safety_fewestOf 9 rfl (sc_345 hS) kse_Safety_fewestOf rfl) kl_Safety_57 md_Safety_fewestOf rfl rfl (fun q hq => c_Safety_fewestOf hS a0 (w32 (a1 - s4)) M q hq) (fun q5 => ?_)
      refine s_iadd (dt_Safety_firstBest 37 _ _ _ rfl) ?_
      refine s_iload_n (dt_Safety_firstBest 38 _ _ _ rfl) rfl ?_
      refine s_if_icmp_ne (tgt := 71) (dt_Safety_firstBest 39 _ _ _ rfl) rfl ?_ ?_
      · exact s_mask [false, false, false, false, false, true] (s_ret0 rfl)
      · refine s_iinc (dt_Safety_firstBest 42 _ _ _ rfl) rfl rfl ?_
        refine s_goto (tgt := 33) (dt_Safety_firstBest 43 _ _ _ rfl) rfl ?_
        exact s_mask [true, true, true, true, true, true] (s_ret0 rfl)
    · exact s_mask [false, false, false, false, false, false] (s_ret0 rfl)
  refine s_elim (fun e6 => ?_) ?_
  · refine s_iload (dt_Safety_firstBest 40 _ _ _ rfl) rfl ?_
    exact s_iret (dt_Safety_firstBest 41 _ _ _ rfl) rfl rfl
  intro e7
  refine s_iconst (dt_Safety_firstBest 44 _ _ _ rfl) rfl ?_
  exact s_iret (dt_Safety_firstBest 45 _ _ _ rfl) rfl rfl
theorem c_Safety_firstBest {S : KS} (hS : KExt 382 S)  (a0 : Int) (a1 : Int) (M : KM) : ∀ q, f_Safety_firstBest a0 a1 M = some q → Ctr y_Safety_firstBest Y_Safety_firstBest [VR (some 345), VI a0, VI a1] S M (some (VI q)) S (M) := fun q hq =>
  ctr_of md_Safety_firstBest (Nat.le_of_ble_eq_true rfl) ⟨Nat.le_refl _, Nat.le_refl _⟩ 3 hq rfl (fun _ G => sim_Safety_firstBest hS  a0 a1 M)
noncomputable def f_Safety_spread  (M : KM) : Option (Int × KM) := letM_ (mupd M 345 3 (M 2 12)) (fun M1 => letM_ (mupd M1 345 4 (w32 ((M1 2 13) - (M1 2 12)))) (fun M2 => Option.bind (whileO (σ := Int × Int × Int) (ε := (Int × Int)) (fun s3 => (if s3.2.2 < M2 34 2 then Option.bind ((if isInV (M2 34 3) s3.2.2 = 0 then some (s3.1, s3.2.1) else letI_ (w32 (s3.2.1 + (w32 ((atM M2 35 8 s3.2.2) - (M2 345 3))))) (fun v4 => some (w32 (s3.1 + 1), v4))) : Option (Int × Int)) (fun t5 => some (Sum.inl (t5.1, t5.2, w32 (s3.2.2 + 1)))) else some (Sum.inr (s3.1, s3.2.1)))) (0, 0, 0)) (fun e6 => Option.bind (f_Safety_fillRows e6.1 e6.2 M2) (fun q7 => Option.bind (f_Safety_fewestOf e6.1 e6.2 q7) (fun q8 => Option.bind (whileO (σ := Int × Int × Int × KM) (ε := KM) (fun s9 => (if s9.2.2.1 < s9.2.2.2 34 2 then Option.bind ((if isInV (s9.2.2.2 34 3) s9.2.2.1 = 0 then some (s9.1, s9.2.1, s9.2.2.2) else Option.bind (f_Safety_firstBest (w32 (s9.1 + (-1))) s9.2.1 s9.2.2.2) (fun q10 => letM_ (putM s9.2.2.2 347 8 s9.2.2.1 (w32 ((s9.2.2.2 345 3) + q10))) (fun M11 => letI_ (w32 (s9.2.1 - q10)) (fun v12 => some (w32 (s9.1 + (-1)), v12, M11))))) : Option (Int × Int × KM)) (fun t13 => some (Sum.inl (t13.1, t13.2.1, w32 (s9.2.2.1 + 1), t13.2.2))) else some (Sum.inr s9.2.2.2))) (e6.1, e6.2, 0, q7)) (fun e14 => some (q8, e14)))))))
set_option maxRecDepth 100000 in
theorem sim_Safety_spread {G : Gam} {S : KS} (hS : KExt 382 S)   (M : KM) : Sim G Y_Safety_spread (f_Safety_spread  M) (kC 0 [some (VR (some 345)), some (VR (some 2)), some (VR (some 34)), none, none, none, none, none] [] S M) (fun (q : Int × KM) => Sum.inr (some (VI q.1), S, q.2)) := by
  unfold f_Safety_spread
  refine s_aload_n (dt_Safety_spread 0 _ _ _ rfl) rfl ?_
  refine s_aload_n (dt_Safety_spread 1 _ _ _ rfl) rfl ?_
  refine s_getI (dt_Safety_spread 2 _ _ _ rfl) (kf_Safety_21) (sc_2 hS) rfl ?_
  refine s_putI (dt_Safety_spread 3 _ _ _ rfl) kp_Safety_27 (sc_345 hS) ⟨rfl, rfl⟩ ?_
  refine s_letM (fun M1 => ?_)
  refine s_aload_n (dt_Safety_spread 4 _ _ _ rfl) rfl ?_
  refine s_aload_n (dt_Safety_spread 5 _ _ _ rfl) rfl ?_
  refine s_getI (dt_Safety_spread 6 _ _ _ rfl) (kf_Safety_28) (sc_2 hS) rfl ?_
  refine s_aload_n (dt_Safety_spread 7 _ _ _ rfl) rfl ?_
  refine s_getI (dt_Safety_spread 8 _ _ _ rfl) (kf_Safety_21) (sc_2 hS) rfl ?_
  refine s_isub (dt_Safety_spread 9 _ _ _ rfl) ?_
  refine s_putI (dt_Safety_spread 10 _ _ _ rfl) kp_Safety_31 (sc_345 hS) ⟨rfl, rfl⟩ ?_
  refine s_letM (fun M2 => ?_)
  refine s_iconst (dt_Safety_spread 11 _ _ _ rfl) rfl ?_
  refine s_istore_n (dt_Safety_spread 12 _ _ _ rfl) rfl ?_
  refine s_iconst (dt_Safety_spread 13 _ _ _ rfl) rfl ?_
  refine s_istore (dt_Safety_spread 14 _ _ _ rfl) rfl ?_
  refine s_iconst (dt_Safety_spread 15 _ _ _ rfl) rfl ?_
  refine s_istore (dt_Safety_spread 16 _ _ _ rfl) rfl ?_
  refine s_bd (κ := (fun (e6 : Int × Int) => kC 78 [some (VR (some 345)), none, some (VR (some 34)), some (VI e6.1), some (VI e6.2), none, none, none] [] S M2)) (s_mask [true, false, true, true, true, true, false, false] (s_while (c := fun s3 => kC 29 [some (VR (some 345)), none, some (VR (some 34)), some (VI s3.1), some (VI s3.2.1), some (VI s3.2.2), none, none] [] S M2) (fun s3 => ?_) (0, 0, 0))) ?_
  · refine s_iload (dt_Safety_spread 17 _ _ _ rfl) rfl ?_
    refine s_aload_n (dt_Safety_spread 18 _ _ _ rfl) rfl ?_
    refine s_getI (dt_Safety_spread 19 _ _ _ rfl) (kf_Safety_34) (sc_34 hS) rfl ?_
    refine s_if_icmp_ge (tgt := 78) (dt_Safety_spread 20 _ _ _ rfl) rfl ?_ ?_
    · refine s_aload_n (dt_Safety_spread 21 _ _ _ rfl) rfl ?_
      refine s_getI (dt_Safety_spread 22 _ _ _ rfl) (kf_Safety_39) (sc_34 hS) rfl ?_
      refine s_iload (dt_Safety_spread 23 _ _ _ rfl) rfl ?_
      refine s_inv (y := y_X_isIn) (Y' := Y_X_isIn) (as := [VI (M2 34 3), VI s3.2.2]) (r := some (VI (isInV (M2 34 3) s3.2.2))) (M' := M2) (kInvS (dt_Safety_spread 24 _ _ _ rfl) kst_X_isIn rfl) kl_Safety_42 md_X_isIn rfl rfl (c_X_isIn hS (M2 34 3) s3.2.2 M2) ?_
      refine s_bd (κ := fun t5 => kC 72 [some (VR (some 345)), none, some (VR (some 34)), some (VI t5.1), some (VI t5.2), some (VI s3.2.2), none, none] [] S M2) ?_ (fun t5 => ?_)
      · refine s_if_eq (tgt := 72) (dt_Safety_spread 25 _ _ _ rfl) rfl ?_ ?_
        · exact s_mask [true, false, true, true, true, true, false, false] (s_ret0 rfl)
        · refine s_iinc (dt_Safety_spread 26 _ _ _ rfl) rfl rfl ?_
          refine s_iload (dt_Safety_spread 27 _ _ _ rfl) rfl ?_
          refine s_aload_n (dt_Safety_spread 28 _ _ _ rfl) rfl ?_
          refine s_getR (o := (some 35)) (dt_Safety_spread 29 _ _ _ rfl) (kf_Safety_46) (sc_34 hS) rfl rfl ?_
          refine s_iload (dt_Safety_spread 30 _ _ _ rfl) rfl ?_
          refine s_inv (y := y_X_at) (Y' := Y_X_at) (as := [VR (some 35), VI s3.2.2]) (r := some (VI (atM M2 35 8 s3.2.2))) (M' := M2) (kInvS (dt_Safety_spread 31 _ _ _ rfl) kst_X_at rfl) kl_Safety_49 md_X_at rfl rfl (c_X_at hS ⟨(sc_35 hS), by decide⟩ s3.2.2 M2) ?_
          refine s_aload_n (dt_Safety_spread 32 _ _ _ rfl) rfl ?_
          refine s_getI (dt_Safety_spread 33 _ _ _ rfl) (kf_Safety_27) (sc_345 hS) rfl ?_
          refine s_isub (dt_Safety_spread 34 _ _ _ rfl) ?_
          refine s_iadd (dt_Safety_spread 35 _ _ _ rfl) ?_
          refine s_letI (fun v4 => ?_)
          refine s_istore (dt_Safety_spread 36 _ _ _ rfl) rfl ?_
          exact s_mask [true, false, true, true, true, true, false, false] (s_ret0 rfl)
      refine s_iinc (dt_Safety_spread 37 _ _ _ rfl) rfl rfl ?_
      refine s_goto (tgt := 29) (dt_Safety_spread 38 _ _ _ rfl) rfl ?_
      exact s_mask [true, false, true, true, true, true, false, false] (s_ret0 rfl)
    · exact s_mask [true, false, true, true, true, false, false, false] (s_ret0 rfl)
  intro e6
  refine s_aload_n (dt_Safety_spread 39 _ _ _ rfl) rfl ?_
  refine s_iload_n (dt_Safety_spread 40 _ _ _ rfl) rfl ?_
  refine s_iload (dt_Safety_spread 41 _ _ _ rfl) rfl ?_
  refine s_callO (y := y_Safety_fillRows) (Y' := Y_Safety_fillRows) (as := [VR (some 345), VI e6.1, VI e6.2]) (r := fun q => none) (M' := fun q => q) (kInvV (dt_Safety_spread 42 _ _ _ rfl) kin_Safety_fillRows 9 rfl (sc_345 hS) kse_Safety_fillRows rfl) kl_Safety_53 md_Safety_fillRows rfl rfl (fun q hq => c_Safety_fillRows hS e6.1 e6.2 M2 q hq) (fun q7 => ?_)
  refine s_aload_n (dt_Safety_spread 43 _ _ _ rfl) rfl ?_
  refine s_iload_n (dt_Safety_spread 44 _ _ _ rfl) rfl ?_
  refine s_iload (dt_Safety_spread 45 _ _ _ rfl) rfl ?_
  refine s_callO (y := y_Safety_fewestOf) (Y' := Y_Safety_fewestOf) (as := [VR (some 345), VI e6.1, VI e6.2]) (r := fun q => some (VI q)) (M' := fun q => q7) (kInvV (dt_Safety_spread 46 _ _ _ rfl) kin_Safety_fewestOf 9 rfl (sc_345 hS) kse_Safety_fewestOf rfl) kl_Safety_57 md_Safety_fewestOf rfl rfl (fun q hq => c_Safety_fewestOf hS e6.1 e6.2 q7 q hq) (fun q8 => ?_)
  refine s_istore (dt_Safety_spread 47 _ _ _ rfl) rfl ?_
  refine s_iconst (dt_Safety_spread 48 _ _ _ rfl) rfl ?_
  refine s_istore (dt_Safety_spread 49 _ _ _ rfl) rfl ?_
  refine s_bd (κ := (fun (e14 : KM) => kC 159 [none, none, none, none, none, some (VI q8), none, none] [] S e14)) (s_mask [true, false, true, true, true, true, true, false] (s_while (c := fun s9 => kC 97 [some (VR (some 345)), none, some (VR (some 34)), some (VI s9.1), some (VI s9.2.1), some (VI q8), some (VI s9.2.2.1), none] [] S s9.2.2.2) (fun s9 => ?_) (e6.1, e6.2, 0, q7))) ?_
  · refine s_iload (dt_Safety_spread 50 _ _ _ rfl) rfl ?_
    refine s_aload_n (dt_Safety_spread 51 _ _ _ rfl) rfl ?_
    refine s_getI (dt_Safety_spread 52 _ _ _ rfl) (kf_Safety_34) (sc_34 hS) rfl ?_
    refine s_if_icmp_ge (tgt := 159) (dt_Safety_spread 53 _ _ _ rfl) rfl ?_ ?_
    · refine s_aload_n (dt_Safety_spread 54 _ _ _ rfl) rfl ?_
      refine s_getI (dt_Safety_spread 55 _ _ _ rfl) (kf_Safety_39) (sc_34 hS) rfl ?_
      refine s_iload (dt_Safety_spread 56 _ _ _ rfl) rfl ?_
      refine s_inv (y := y_X_isIn) (Y' := Y_X_isIn) (as := [VI (s9.2.2.2 34 3), VI s9.2.2.1]) (r := some (VI (isInV (s9.2.2.2 34 3) s9.2.2.1))) (M' := s9.2.2.2) (kInvS (dt_Safety_spread 57 _ _ _ rfl) kst_X_isIn rfl) kl_Safety_42 md_X_isIn rfl rfl (c_X_isIn hS (s9.2.2.2 34 3) s9.2.2.1 s9.2.2.2) ?_
      refine s_bd (κ := fun t13 => kC 153 [some (VR (some 345)), none, some (VR (some 34)), some (VI t13.1), some (VI t13.2.1), some (VI q8), some (VI s9.2.2.1), none] [] S t13.2.2) ?_ (fun t13 => ?_)
      · refine s_if_eq (tgt := 153) (dt_Safety_spread 58 _ _ _ rfl) rfl ?_ ?_
        · exact s_mask [true, false, true, true, true, true, true, false] (s_ret0 rfl)
        · refine s_iinc (dt_Safety_spread 59 _ _ _ rfl) rfl rfl ?_
          refine s_aload_n (dt_Safety_spread 60 _ _ _ rfl) rfl ?_
          refine s_iload_n (dt_Safety_spread 61 _ _ _ rfl) rfl ?_
          refine s_iload (dt_Safety_spread 62 _ _ _ rfl) rfl ?_
          refine s_callO (y := y_Safety_firstBest) (Y' := Y_Safety_firstBest) (as := [VR (some 345), VI (w32 (s9.1 + (-1))), VI s9.2.1]) (r := fun q => some (VI q)) (M' := fun q => s9.2.2.2) (kInvV (dt_Safety_spread 63 _ _ _ rfl) kin_Safety_firstBest 9 rfl (sc_345 hS) kse_Safety_firstBest rfl) kl_Safety_61 md_Safety_firstBest rfl rfl (fun q hq => c_Safety_firstBest hS (w32 (s9.1 + (-1))) s9.2.1 s9.2.2.2 q hq) (fun q10 => ?_)
          refine s_istore (dt_Safety_spread 64 _ _ _ rfl) rfl ?_
          refine s_aload_n (dt_Safety_spread 65 _ _ _ rfl) rfl ?_
          refine s_getR (o := (some 347)) (dt_Safety_spread 66 _ _ _ rfl) (kf_Safety_15) (sc_345 hS) rfl rfl ?_
          refine s_iload (dt_Safety_spread 67 _ _ _ rfl) rfl ?_
          refine s_aload_n (dt_Safety_spread 68 _ _ _ rfl) rfl ?_
          refine s_getI (dt_Safety_spread 69 _ _ _ rfl) (kf_Safety_27) (sc_345 hS) rfl ?_
          refine s_iload (dt_Safety_spread 70 _ _ _ rfl) rfl ?_
          refine s_iadd (dt_Safety_spread 71 _ _ _ rfl) ?_
          refine s_inv (y := y_X_put) (Y' := Y_X_put) (as := [VR (some 347), VI s9.2.2.1, VI (w32 ((s9.2.2.2 345 3) + q10))]) (r := none) (M' := (putM s9.2.2.2 347 8 s9.2.2.1 (w32 ((s9.2.2.2 345 3) + q10)))) (kInvS (dt_Safety_spread 72 _ _ _ rfl) kst_X_put rfl) kl_Safety_64 md_X_put rfl rfl (c_X_put hS ⟨(sc_347 hS), by decide⟩ s9.2.2.1 (w32 ((s9.2.2.2 345 3) + q10)) s9.2.2.2) ?_
          refine s_letM (fun M11 => ?_)
          refine s_iload (dt_Safety_spread 73 _ _ _ rfl) rfl ?_
          refine s_iload (dt_Safety_spread 74 _ _ _ rfl) rfl ?_
          refine s_isub (dt_Safety_spread 75 _ _ _ rfl) ?_
          refine s_letI (fun v12 => ?_)
          refine s_istore (dt_Safety_spread 76 _ _ _ rfl) rfl ?_
          exact s_mask [true, false, true, true, true, true, true, false] (s_ret0 rfl)
      refine s_iinc (dt_Safety_spread 77 _ _ _ rfl) rfl rfl ?_
      refine s_goto (tgt := 97) (dt_Safety_spread 78 _ _ _ rfl) rfl ?_
      exact s_mask [true, false, true, true, true, true, true, false] (s_ret0 rfl)
    · exact s_mask [false, false, false, false, false, true, false, false] (s_ret0 rfl)
  intro e14
  refine s_iload (dt_Safety_spread 79 _ _ _ rfl) rfl ?_
  exact s_iret (dt_Safety_spread 80 _ _ _ rfl) rfl rfl
theorem c_Safety_spread {S : KS} (hS : KExt 382 S)   (M : KM) : ∀ q, f_Safety_spread  M = some q → Ctr y_Safety_spread Y_Safety_spread [VR (some 345), VR (some 2), VR (some 34)] S M (some (VI q.1)) S (q.2) := fun q hq =>
  ctr_of md_Safety_spread (Nat.le_of_ble_eq_true rfl) ⟨Nat.le_refl _, Nat.le_refl _⟩ 5 hq rfl (fun _ G => sim_Safety_spread hS   M)
