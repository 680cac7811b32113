set_option maxRecDepth 100000 in
theorem sim_M_sum {G : Gam} {S : KS} (hS : KExt 435 S)  (a0 : Int) (M : KM) : Sim G Y_M_sum (f_M_sum a0 M) (kC 0 [some (VR (some 382)), some (VI a0), none, none] [] S M) (fun (q : Int) => Sum.inr (some (VI q), S, M)) := by
  unfold f_M_sum
  refine s_iload_n (dt_M_sum 0 _ _ _ rfl) rfl ?_
  refine s_iconst (dt_M_sum 1 _ _ _ rfl) rfl ?_
  refine s_iconst (dt_M_sum 2 _ _ _ rfl) rfl ?_
  refine s_callO (y := y_M_isIn) (Y' := Y_M_isIn) (as := [VI a0, VI (-1 : Int), VI (3 : Int)]) (r := fun q => some (VI q)) (M' := fun q => M) (kInvS (dt_M_sum 3 _ _ _ rfl) kst_M_isIn rfl) kl_M_388 md_M_isIn rfl rfl (fun q hq => c_M_isIn hS a0 (-1 : Int) (3 : Int) M q hq) (fun q1 => ?_)
  refine s_if_ne (tgt := 13) (dt_M_sum 4 _ _ _ rfl) rfl ?_ ?_
  · refine s_ldcw (n := (-1000000 : Int)) (kc_M_428) (dt_M_sum 5 _ _ _ rfl) rfl ?_
    exact s_iret (dt_M_sum 6 _ _ _ rfl) rfl rfl
  · refine s_iconst (dt_M_sum 7 _ _ _ rfl) rfl ?_
    refine s_istore_n (dt_M_sum 8 _ _ _ rfl) rfl ?_
    refine s_iconst (dt_M_sum 9 _ _ _ rfl) rfl ?_
    refine s_istore_n (dt_M_sum 10 _ _ _ rfl) rfl ?_
    refine s_bd (κ := (fun (e8 : Int) => kC 72 [none, none, some (VI e8), none] [] S M)) (s_mask [true, true, true, true] (s_while (c := fun s2 => kC 17 [some (VR (some 382)), some (VI a0), some (VI s2.1), some (VI s2.2)] [] S M) (fun s2 => ?_) ((0 : Int), (0 : Int)))) ?_
    · refine s_iload_n (dt_M_sum 11 _ _ _ rfl) rfl ?_
      refine s_aload_n (dt_M_sum 12 _ _ _ rfl) rfl ?_
      refine s_callO (y := y_M_many) (Y' := Y_M_many) (as := [VR (some 382)]) (r := fun q => some (VI q)) (M' := fun q => M) (kInvV (dt_M_sum 13 _ _ _ rfl) kin_M_many 1 rfl (sc_382 hS) kse_M_many rfl) kl_M_385 md_M_many rfl rfl (fun q hq => c_M_many hS M q hq) (fun q3 => ?_)
      refine s_if_icmp_ge (tgt := 72) (dt_M_sum 14 _ _ _ rfl) rfl ?_ ?_
      · refine s_aload_n (dt_M_sum 15 _ _ _ rfl) rfl ?_
        refine s_iload_n (dt_M_sum 16 _ _ _ rfl) rfl ?_
        refine s_callO (y := y_M_isAlive) (Y' := Y_M_isAlive) (as := [VR (some 382), VI s2.2]) (r := fun q => some (VI q)) (M' := fun q => M) (kInvV (dt_M_sum 17 _ _ _ rfl) kin_M_isAlive 1 rfl (sc_382 hS) kse_M_isAlive rfl) kl_M_404 md_M_isAlive rfl rfl (fun q hq => c_M_isAlive hS s2.2 M q hq) (fun q4 => ?_)
        refine s_bd (κ := fun t7 => kC 66 [some (VR (some 382)), some (VI a0), some (VI t7), some (VI s2.2)] [] S M) ?_ (fun t7 => ?_)
        · refine s_if_eq (tgt := 66) (dt_M_sum 18 _ _ _ rfl) rfl ?_ ?_
          · exact s_mask [true, true, true, true] (s_ret0 rfl)
          · refine s_iload_n (dt_M_sum 19 _ _ _ rfl) rfl ?_
            refine s_if_lt (tgt := 55) (dt_M_sum 20 _ _ _ rfl) rfl ?_ ?_
            · refine s_iload_n (dt_M_sum 32 _ _ _ rfl) rfl ?_
              refine s_aload_n (dt_M_sum 33 _ _ _ rfl) rfl ?_
              refine s_getR (c := 1) (j := 46) (o := (some 411)) (dt_M_sum 34 _ _ _ rfl) (kf_M_101) (sc_382 hS) rfl rfl ?_
              refine s_iconst (dt_M_sum 35 _ _ _ rfl) rfl ?_
              refine s_iload_n (dt_M_sum 36 _ _ _ rfl) rfl ?_
              refine s_iadd (dt_M_sum 37 _ _ _ rfl) ?_
              refine s_iald (N := 171) (dt_M_sum 38 _ _ _ rfl) (sc_411 hS) rfl ?_
              refine s_iadd (dt_M_sum 39 _ _ _ rfl) ?_
              refine s_letI (fun v5 => ?_)
              refine s_istore_n (dt_M_sum 40 _ _ _ rfl) rfl ?_
              exact s_mask [true, true, true, true] (s_ret0 rfl)
            · refine s_aload_n (dt_M_sum 21 _ _ _ rfl) rfl ?_
              refine s_getR (c := 1) (j := 22) (o := (some 396)) (dt_M_sum 22 _ _ _ rfl) (kf_M_54) (sc_382 hS) rfl rfl ?_
              refine s_bipush (dt_M_sum 23 _ _ _ rfl) rfl ?_
              refine s_aload_n (dt_M_sum 24 _ _ _ rfl) rfl ?_
              refine s_getI (c := 1) (j := 37) (dt_M_sum 25 _ _ _ rfl) (kf_M_288) (sc_382 hS) rfl ?_
              refine s_imul (dt_M_sum 26 _ _ _ rfl) ?_
              refine s_iload_n (dt_M_sum 27 _ _ _ rfl) rfl ?_
              refine s_iadd (dt_M_sum 28 _ _ _ rfl) ?_
              refine s_iald (N := 16) (dt_M_sum 29 _ _ _ rfl) (sc_396 hS) rfl ?_
              refine s_iload_n (dt_M_sum 30 _ _ _ rfl) rfl ?_
              refine s_if_icmp_ne (tgt := 66) (dt_M_sum 31 _ _ _ rfl) rfl ?_ ?_
              · refine s_iload_n (dt_M_sum 32 _ _ _ rfl) rfl ?_
                refine s_aload_n (dt_M_sum 33 _ _ _ rfl) rfl ?_
                refine s_getR (c := 1) (j := 46) (o := (some 411)) (dt_M_sum 34 _ _ _ rfl) (kf_M_101) (sc_382 hS) rfl rfl ?_
                refine s_iconst (dt_M_sum 35 _ _ _ rfl) rfl ?_
                refine s_iload_n (dt_M_sum 36 _ _ _ rfl) rfl ?_
                refine s_iadd (dt_M_sum 37 _ _ _ rfl) ?_
                refine s_iald (N := 171) (dt_M_sum 38 _ _ _ rfl) (sc_411 hS) rfl ?_
                refine s_iadd (dt_M_sum 39 _ _ _ rfl) ?_
                refine s_letI (fun v6 => ?_)
                refine s_istore_n (dt_M_sum 40 _ _ _ rfl) rfl ?_
                exact s_mask [true, true, true, true] (s_ret0 rfl)
              · exact s_mask [true, true, true, true] (s_ret0 rfl)
        refine s_iinc (dt_M_sum 41 _ _ _ rfl) rfl rfl ?_
        refine s_goto (tgt := 17) (dt_M_sum 42 _ _ _ rfl) rfl ?_
        exact s_mask [true, true, true, true] (s_ret0 rfl)
      · exact s_mask [false, false, true, false] (s_ret0 rfl)
    intro e8
    refine s_iload_n (dt_M_sum 43 _ _ _ rfl) rfl ?_
    exact s_iret (dt_M_sum 44 _ _ _ rfl) rfl rfl
theorem c_M_sum {S : KS} (hS : KExt 435 S)  (a0 : Int) (M : KM) : ∀ q, f_M_sum a0 M = some q → Ctr y_M_sum Y_M_sum [VR (some 382), VI a0] S M (some (VI q)) S (M) := fun q hq =>
  ctr_of md_M_sum (Nat.le_of_ble_eq_true rfl) ⟨Nat.le_refl _, Nat.le_refl _⟩ 2 hq rfl (fun _ G => sim_M_sum hS  a0 M)
set_option maxRecDepth 100000 in
theorem sim_M_canGo {G : Gam} {S : KS} (hS : KExt 435 S)  (a0 : Int) (a1 : Int) (a2 : Int) (M : KM) : Sim G Y_M_canGo (f_M_canGo a0 a1 a2 M) (kC 0 [some (VR (some 382)), some (VI a0), some (VI a1), some (VI a2)] [] S M) (fun (q : Int) => Sum.inr (some (VI q), S, M)) := by
  unfold f_M_canGo
  refine s_aload_n (dt_M_canGo 0 _ _ _ rfl) rfl ?_
  refine s_iload_n (dt_M_canGo 1 _ _ _ rfl) rfl ?_
  refine s_callO (y := y_M_isAlive) (Y' := Y_M_isAlive) (as := [VR (some 382), VI a0]) (r := fun q => some (VI q)) (M' := fun q => M) (kInvV (dt_M_canGo 2 _ _ _ rfl) kin_M_isAlive 1 rfl (sc_382 hS) kse_M_isAlive rfl) kl_M_404 md_M_isAlive rfl rfl (fun q hq => c_M_isAlive hS a0 M q hq) (fun q1 => ?_)
  refine s_bd (κ := fun t5 => kC 55 [none, none, none, none] [VI t5] S M) ?_ (fun t5 => ?_)
  · refine s_if_eq (tgt := 54) (dt_M_canGo 3 _ _ _ rfl) rfl ?_ ?_
    · refine s_iconst (dt_M_canGo 32 _ _ _ rfl) rfl ?_
      exact s_mask [false, false, false, false] (s_ret0 rfl)
    · refine s_aload_n (dt_M_canGo 4 _ _ _ rfl) rfl ?_
      refine s_iload_n (dt_M_canGo 5 _ _ _ rfl) rfl ?_
      refine s_callO (y := y_M_isAlive) (Y' := Y_M_isAlive) (as := [VR (some 382), VI a1]) (r := fun q => some (VI q)) (M' := fun q => M) (kInvV (dt_M_canGo 6 _ _ _ rfl) kin_M_isAlive 1 rfl (sc_382 hS) kse_M_isAlive rfl) kl_M_404 md_M_isAlive rfl rfl (fun q hq => c_M_isAlive hS a1 M q hq) (fun q2 => ?_)
      refine s_if_eq (tgt := 54) (dt_M_canGo 7 _ _ _ rfl) rfl ?_ ?_
      · refine s_iconst (dt_M_canGo 32 _ _ _ rfl) rfl ?_
        exact s_mask [false, false, false, false] (s_ret0 rfl)
      · refine s_aload_n (dt_M_canGo 8 _ _ _ rfl) rfl ?_
        refine s_aload_n (dt_M_canGo 9 _ _ _ rfl) rfl ?_
        refine s_getR (c := 1) (j := 46) (o := (some 411)) (dt_M_canGo 10 _ _ _ rfl) (kf_M_101) (sc_382 hS) rfl rfl ?_
        refine s_iconst (dt_M_canGo 11 _ _ _ rfl) rfl ?_
        refine s_iload_n (dt_M_canGo 12 _ _ _ rfl) rfl ?_
        refine s_iadd (dt_M_canGo 13 _ _ _ rfl) ?_
        refine s_iald (N := 171) (dt_M_canGo 14 _ _ _ rfl) (sc_411 hS) rfl ?_
        refine s_iload_n (dt_M_canGo 15 _ _ _ rfl) rfl ?_
        refine s_isub (dt_M_canGo 16 _ _ _ rfl) ?_
        refine s_callO (y := y_M_isAge) (Y' := Y_M_isAge) (as := [VR (some 382), VI (w32 ((M 411 (w32 ((0 : Int) + a0)).toNat) - a2))]) (r := fun q => some (VI q)) (M' := fun q => M) (kInvV (dt_M_canGo 17 _ _ _ rfl) kin_M_isAge 1 rfl (sc_382 hS) kse_M_isAge rfl) kl_M_422 md_M_isAge rfl rfl (fun q hq => c_M_isAge hS (w32 ((M 411 (w32 ((0 : Int) + a0)).toNat) - a2)) M q hq) (fun q3 => ?_)
        refine s_if_eq (tgt := 54) (dt_M_canGo 18 _ _ _ rfl) rfl ?_ ?_
        · refine s_iconst (dt_M_canGo 32 _ _ _ rfl) rfl ?_
          exact s_mask [false, false, false, false] (s_ret0 rfl)
        · refine s_aload_n (dt_M_canGo 19 _ _ _ rfl) rfl ?_
          refine s_aload_n (dt_M_canGo 20 _ _ _ rfl) rfl ?_
          refine s_getR (c := 1) (j := 46) (o := (some 411)) (dt_M_canGo 21 _ _ _ rfl) (kf_M_101) (sc_382 hS) rfl rfl ?_
          refine s_iconst (dt_M_canGo 22 _ _ _ rfl) rfl ?_
          refine s_iload_n (dt_M_canGo 23 _ _ _ rfl) rfl ?_
          refine s_iadd (dt_M_canGo 24 _ _ _ rfl) ?_
          refine s_iald (N := 171) (dt_M_canGo 25 _ _ _ rfl) (sc_411 hS) rfl ?_
          refine s_iload_n (dt_M_canGo 26 _ _ _ rfl) rfl ?_
          refine s_iadd (dt_M_canGo 27 _ _ _ rfl) ?_
          refine s_callO (y := y_M_isAge) (Y' := Y_M_isAge) (as := [VR (some 382), VI (w32 ((M 411 (w32 ((0 : Int) + a1)).toNat) + a2))]) (r := fun q => some (VI q)) (M' := fun q => M) (kInvV (dt_M_canGo 28 _ _ _ rfl) kin_M_isAge 1 rfl (sc_382 hS) kse_M_isAge rfl) kl_M_422 md_M_isAge rfl rfl (fun q hq => c_M_isAge hS (w32 ((M 411 (w32 ((0 : Int) + a1)).toNat) + a2)) M q hq) (fun q4 => ?_)
          refine s_if_eq (tgt := 54) (dt_M_canGo 29 _ _ _ rfl) rfl ?_ ?_
          · refine s_iconst (dt_M_canGo 32 _ _ _ rfl) rfl ?_
            exact s_mask [false, false, false, false] (s_ret0 rfl)
          · refine s_iconst (dt_M_canGo 30 _ _ _ rfl) rfl ?_
            refine s_goto (tgt := 55) (dt_M_canGo 31 _ _ _ rfl) rfl ?_
            exact s_mask [false, false, false, false] (s_ret0 rfl)
  exact s_zret (dt_M_canGo 33 _ _ _ rfl) rfl rfl
theorem c_M_canGo {S : KS} (hS : KExt 435 S)  (a0 : Int) (a1 : Int) (a2 : Int) (M : KM) : ∀ q, f_M_canGo a0 a1 a2 M = some q → Ctr y_M_canGo Y_M_canGo [VR (some 382), VI a0, VI a1, VI a2] S M (some (VI q)) S (M) := fun q hq =>
  ctr_of md_M_canGo (Nat.le_of_ble_eq_true rfl) ⟨Nat.le_refl _, Nat.le_refl _⟩ 0 hq rfl (fun _ G => sim_M_canGo hS  a0 a1 a2 M)
set_option maxRecDepth 100000 in
theorem sim_M_friendsOf {G : Gam} {S : KS} (hS : KExt 435 S)  (a0 : Int) (a1 : Int) (M : KM) : Sim G Y_M_friendsOf (f_M_friendsOf a0 a1 M) (kC 0 [some (VR (some 382)), some (VI a0), some (VI a1), none] [] S M) (fun (q : Int) => Sum.inr (some (VI q), S, M)) := by
  unfold f_M_friendsOf
  refine s_bipush (dt_M_friendsOf 0 _ _ _ rfl) rfl ?_
  refine s_aload_n (dt_M_friendsOf 1 _ _ _ rfl) rfl ?_
  refine s_getI (c := 1) (j := 37) (dt_M_friendsOf 2 _ _ _ rfl) (kf_M_288) (sc_382 hS) rfl ?_
  refine s_imul (dt_M_friendsOf 3 _ _ _ rfl) ?_
  refine s_letI (fun v1 => ?_)
  refine s_istore_n (dt_M_friendsOf 4 _ _ _ rfl) rfl ?_
  refine s_bd (κ := (Sum.elim (fun (e3 : Int) => kC 49 [none, none, none, some (VI e3)] [] S M) (fun (e4 : Unit) => kC 57 [none, none, none, none] [] S M))) (s_mask [true, true, true, true] (s_while (c := fun s2 => kC 8 [some (VR (some 382)), some (VI a0), some (VI a1), some (VI s2)] [] S M) (fun s2 => ?_) v1)) ?_
  · refine s_iload_n (dt_M_friendsOf 5 _ _ _ rfl) rfl ?_
    refine s_bipush (dt_M_friendsOf 6 _ _ _ rfl) rfl ?_
    refine s_aload_n (dt_M_friendsOf 7 _ _ _ rfl) rfl ?_
    refine s_getI (c := 1) (j := 37) (dt_M_friendsOf 8 _ _ _ rfl) (kf_M_288) (sc_382 hS) rfl ?_
    refine s_imul (dt_M_friendsOf 9 _ _ _ rfl) ?_
    refine s_aload_n (dt_M_friendsOf 10 _ _ _ rfl) rfl ?_
    refine s_getR (c := 1) (j := 12) (o := (some 386)) (dt_M_friendsOf 11 _ _ _ rfl) (kf_M_24) (sc_382 hS) rfl rfl ?_
    refine s_aload_n (dt_M_friendsOf 12 _ _ _ rfl) rfl ?_
    refine s_getI (c := 1) (j := 37) (dt_M_friendsOf 13 _ _ _ rfl) (kf_M_288) (sc_382 hS) rfl ?_
    refine s_iald (N := 2) (dt_M_friendsOf 14 _ _ _ rfl) (sc_386 hS) rfl ?_
    refine s_iadd (dt_M_friendsOf 15 _ _ _ rfl) ?_
    refine s_if_icmp_ge (tgt := 57) (dt_M_friendsOf 16 _ _ _ rfl) rfl ?_ ?_
    · refine s_aload_n (dt_M_friendsOf 17 _ _ _ rfl) rfl ?_
      refine s_getR (c := 1) (j := 23) (o := (some 397)) (dt_M_friendsOf 18 _ _ _ rfl) (kf_M_57) (sc_382 hS) rfl rfl ?_
      refine s_iload_n (dt_M_friendsOf 19 _ _ _ rfl) rfl ?_
      refine s_iald (N := 40) (dt_M_friendsOf 20 _ _ _ rfl) (sc_397 hS) rfl ?_
      refine s_iload_n (dt_M_friendsOf 21 _ _ _ rfl) rfl ?_
      refine s_if_icmp_ne (tgt := 51) (dt_M_friendsOf 22 _ _ _ rfl) rfl ?_ ?_
      · refine s_aload_n (dt_M_friendsOf 23 _ _ _ rfl) rfl ?_
        refine s_getR (c := 1) (j := 24) (o := (some 398)) (dt_M_friendsOf 24 _ _ _ rfl) (kf_M_60) (sc_382 hS) rfl rfl ?_
        refine s_iload_n (dt_M_friendsOf 25 _ _ _ rfl) rfl ?_
        refine s_iald (N := 40) (dt_M_friendsOf 26 _ _ _ rfl) (sc_398 hS) rfl ?_
        refine s_iload_n (dt_M_friendsOf 27 _ _ _ rfl) rfl ?_
        refine s_if_icmp_ne (tgt := 51) (dt_M_friendsOf 28 _ _ _ rfl) rfl ?_ ?_
        · exact s_mask [false, false, false, true] (s_ret0 rfl)
        · refine s_iinc (dt_M_friendsOf 31 _ _ _ rfl) rfl rfl ?_
          refine s_goto (tgt := 8) (dt_M_friendsOf 32 _ _ _ rfl) rfl ?_
          exact s_mask [true, true, true, true] (s_ret0 rfl)
      · refine s_iinc (dt_M_friendsOf 31 _ _ _ rfl) rfl rfl ?_
        refine s_goto (tgt := 8) (dt_M_friendsOf 32 _ _ _ rfl) rfl ?_
        exact s_mask [true, true, true, true] (s_ret0 rfl)
    · exact s_mask [false, false, false, false] (s_ret0 rfl)
  refine s_elim (fun e3 => ?_) ?_
  · refine s_iload_n (dt_M_friendsOf 29 _ _ _ rfl) rfl ?_
    exact s_iret (dt_M_friendsOf 30 _ _ _ rfl) rfl rfl
  intro e4
  refine s_iconst (dt_M_friendsOf 33 _ _ _ rfl) rfl ?_
  exact s_iret (dt_M_friendsOf 34 _ _ _ rfl) rfl rfl
theorem c_M_friendsOf {S : KS} (hS : KExt 435 S)  (a0 : Int) (a1 : Int) (M : KM) : ∀ q, f_M_friendsOf a0 a1 M = some q → Ctr y_M_friendsOf Y_M_friendsOf [VR (some 382), VI a0, VI a1] S M (some (VI q)) S (M) := fun q hq =>
  ctr_of md_M_friendsOf (Nat.le_of_ble_eq_true rfl) ⟨Nat.le_refl _, Nat.le_refl _⟩ 1 hq rfl (fun _ G => sim_M_friendsOf hS  a0 a1 M)
set_option maxRecDepth 100000 in
theorem sim_M_canPass {G : Gam} {S : KS} (hS : KExt 435 S)  (a0 : Int) (a1 : Int) (a2 : Int) (M : KM) : Sim G Y_M_canPass (f_M_canPass a0 a1 a2 M) (kC 0 [some (VR (some 382)), some (VI a0), some (VI a1), some (VI a2)] [] S M) (fun (q : Int) => Sum.inr (some (VI q), S, M)) := by
  unfold f_M_canPass
  refine s_aload_n (dt_M_canPass 0 _ _ _ rfl) rfl ?_
  refine s_iload_n (dt_M_canPass 1 _ _ _ rfl) rfl ?_
  refine s_callO (y := y_M_isPerson) (Y' := Y_M_isPerson) (as := [VR (some 382), VI a0]) (r := fun q => some (VI q)) (M' := fun q => M) (kInvV (dt_M_canPass 2 _ _ _ rfl) kin_M_isPerson 1 rfl (sc_382 hS) kse_M_isPerson rfl) kl_M_413 md_M_isPerson rfl rfl (fun q hq => c_M_isPerson hS a0 M q hq) (fun q1 => ?_)
  refine s_bd (κ := fun t6 => kC 50 [none, none, none, none] [VI t6] S M) ?_ (fun t6 => ?_)
  · refine s_if_eq (tgt := 49) (dt_M_canPass 3 _ _ _ rfl) rfl ?_ ?_
    · refine s_iconst (dt_M_canPass 26 _ _ _ rfl) rfl ?_
      exact s_mask [false, false, false, false] (s_ret0 rfl)
    · refine s_aload_n (dt_M_canPass 4 _ _ _ rfl) rfl ?_
      refine s_iload_n (dt_M_canPass 5 _ _ _ rfl) rfl ?_
      refine s_callO (y := y_M_isPerson) (Y' := Y_M_isPerson) (as := [VR (some 382), VI a1]) (r := fun q => some (VI q)) (M' := fun q => M) (kInvV (dt_M_canPass 6 _ _ _ rfl) kin_M_isPerson 1 rfl (sc_382 hS) kse_M_isPerson rfl) kl_M_413 md_M_isPerson rfl rfl (fun q hq => c_M_isPerson hS a1 M q hq) (fun q2 => ?_)
      refine s_if_eq (tgt := 49) (dt_M_canPass 7 _ _ _ rfl) rfl ?_ ?_
      · refine s_iconst (dt_M_canPass 26 _ _ _ rfl) rfl ?_
        exact s_mask [false, false, false, false] (s_ret0 rfl)
      · refine s_iload_n (dt_M_canPass 8 _ _ _ rfl) rfl ?_
        refine s_iconst (dt_M_canPass 9 _ _ _ rfl) rfl ?_
        refine s_bipush (dt_M_canPass 10 _ _ _ rfl) rfl ?_
        refine s_callO (y := y_M_isIn) (Y' := Y_M_isIn) (as := [VI a2, VI (1 : Int), VI (99 : Int)]) (r := fun q => some (VI q)) (M' := fun q => M) (kInvS (dt_M_canPass 11 _ _ _ rfl) kst_M_isIn rfl) kl_M_388 md_M_isIn rfl rfl (fun q hq => c_M_isIn hS a2 (1 : Int) (99 : Int) M q hq) (fun q3 => ?_)
        refine s_if_eq (tgt := 49) (dt_M_canPass 12 _ _ _ rfl) rfl ?_ ?_
        · refine s_iconst (dt_M_canPass 26 _ _ _ rfl) rfl ?_
          exact s_mask [false, false, false, false] (s_ret0 rfl)
        · refine s_aload_n (dt_M_canPass 13 _ _ _ rfl) rfl ?_
          refine s_iload_n (dt_M_canPass 14 _ _ _ rfl) rfl ?_
          refine s_iload_n (dt_M_canPass 15 _ _ _ rfl) rfl ?_
          refine s_callO (y := y_M_friendsOf) (Y' := Y_M_friendsOf) (as := [VR (some 382), VI a0, VI a1]) (r := fun q => some (VI q)) (M' := fun q => M) (kInvV (dt_M_canPass 16 _ _ _ rfl) kin_M_friendsOf 1 rfl (sc_382 hS) kse_M_friendsOf rfl) kl_M_429 md_M_friendsOf rfl rfl (fun q hq => c_M_friendsOf hS a0 a1 M q hq) (fun q4 => ?_)
          refine s_if_lt (tgt := 49) (dt_M_canPass 17 _ _ _ rfl) rfl ?_ ?_
          · refine s_iconst (dt_M_canPass 26 _ _ _ rfl) rfl ?_
            exact s_mask [false, false, false, false] (s_ret0 rfl)
          · refine s_aload_n (dt_M_canPass 18 _ _ _ rfl) rfl ?_
            refine s_iload_n (dt_M_canPass 19 _ _ _ rfl) rfl ?_
            refine s_iload_n (dt_M_canPass 20 _ _ _ rfl) rfl ?_
            refine s_iload_n (dt_M_canPass 21 _ _ _ rfl) rfl ?_
            refine s_callO (y := y_M_canGo) (Y' := Y_M_canGo) (as := [VR (some 382), VI a0, VI a1, VI a2]) (r := fun q => some (VI q)) (M' := fun q => M) (kInvV (dt_M_canPass 22 _ _ _ rfl) kin_M_canGo 1 rfl (sc_382 hS) kse_M_canGo rfl) kl_M_432 md_M_canGo rfl rfl (fun q hq => c_M_canGo hS a0 a1 a2 M q hq) (fun q5 => ?_)
            refine s_if_eq (tgt := 49) (dt_M_canPass 23 _ _ _ rfl) rfl ?_ ?_
            · refine s_iconst (dt_M_canPass 26 _ _ _ rfl) rfl ?_
              exact s_mask [false, false, false, false] (s_ret0 rfl)
            · refine s_iconst (dt_M_canPass 24 _ _ _ rfl) rfl ?_
              refine s_goto (tgt := 50) (dt_M_canPass 25 _ _ _ rfl) rfl ?_
              exact s_mask [false, false, false, false] (s_ret0 rfl)
  exact s_zret (dt_M_canPass 27 _ _ _ rfl) rfl rfl
theorem c_M_canPass {S : KS} (hS : KExt 435 S)  (a0 : Int) (a1 : Int) (a2 : Int) (M : KM) : ∀ q, f_M_canPass a0 a1 a2 M = some q → Ctr y_M_canPass Y_M_canPass [VR (some 382), VI a0, VI a1, VI a2] S M (some (VI q)) S (M) := fun q hq =>
  ctr_of md_M_canPass (Nat.le_of_ble_eq_true rfl) ⟨Nat.le_refl _, Nat.le_refl _⟩ 0 hq rfl (fun _ G => sim_M_canPass hS  a0 a1 a2 M)
set_option maxRecDepth 100000 in
theorem sim_M_keepAct {G : Gam} {S : KS} (hS : KExt 435 S)   (M : KM) : Sim G Y_M_keepAct (f_M_keepAct  M) (kC 0 [some (VR (some 382)), none] [] S M) (fun (q : KM) => Sum.inr (none, S, q)) := by
  unfold f_M_keepAct
  refine s_aload_n (dt_M_keepAct 0 _ _ _ rfl) rfl ?_
  refine s_getI (c := 1) (j := 48) (dt_M_keepAct 1 _ _ _ rfl) (kf_M_392) (sc_382 hS) rfl ?_
  refine s_bipush (dt_M_keepAct 2 _ _ _ rfl) rfl ?_
  refine s_bd (κ := fun t5 => kC 50 [some (VR (some 382)), none] [] S t5) ?_ (fun t5 => ?_)
  · refine s_if_icmp_ne (tgt := 50) (dt_M_keepAct 3 _ _ _ rfl) rfl ?_ ?_
    · refine s_iconst (dt_M_keepAct 4 _ _ _ rfl) rfl ?_
      refine s_istore_n (dt_M_keepAct 5 _ _ _ rfl) rfl ?_
      refine s_bd (κ := (fun (e3 : KM) => kC 40 [some (VR (some 382)), none] [] S e3)) (s_mask [true, true] (s_while (c := fun s1 => kC 11 [some (VR (some 382)), some (VI s1.1)] [] S s1.2) (fun s1 => ?_) ((0 : Int), M))) ?_
      · refine s_iload_n (dt_M_keepAct 6 _ _ _ rfl) rfl ?_
        refine s_sipush (dt_M_keepAct 7 _ _ _ rfl) rfl ?_
        refine s_if_icmp_ge (tgt := 40) (dt_M_keepAct 8 _ _ _ rfl) rfl ?_ ?_
        · refine s_aload_n (dt_M_keepAct 9 _ _ _ rfl) rfl ?_
          refine s_getR (c := 1) (j := 47) (o := (some 412)) (dt_M_keepAct 10 _ _ _ rfl) (kf_M_104) (sc_382 hS) rfl rfl ?_
          refine s_iload_n (dt_M_keepAct 11 _ _ _ rfl) rfl ?_
          refine s_aload_n (dt_M_keepAct 12 _ _ _ rfl) rfl ?_
          refine s_getR (c := 1) (j := 47) (o := (some 412)) (dt_M_keepAct 13 _ _ _ rfl) (kf_M_104) (sc_382 hS) rfl rfl ?_
          refine s_iload_n (dt_M_keepAct 14 _ _ _ rfl) rfl ?_
          refine s_sipush (dt_M_keepAct 15 _ _ _ rfl) rfl ?_
          refine s_iadd (dt_M_keepAct 16 _ _ _ rfl) ?_
          refine s_iald (N := 7011) (dt_M_keepAct 17 _ _ _ rfl) (sc_412 hS) rfl ?_
          refine s_iast (N := 7011) (dt_M_keepAct 18 _ _ _ rfl) (sc_412 hS) rfl ?_
          refine s_letM (fun M2 => ?_)
          refine s_iinc (dt_M_keepAct 19 _ _ _ rfl) rfl rfl ?_
          refine s_goto (tgt := 11) (dt_M_keepAct 20 _ _ _ rfl) rfl ?_
          exact s_mask [true, true] (s_ret0 rfl)
        · exact s_mask [true, false] (s_ret0 rfl)
      intro e3
      refine s_aload_n (dt_M_keepAct 21 _ _ _ rfl) rfl ?_
      refine s_dup (dt_M_keepAct 22 _ _ _ rfl) rfl ?_
      refine s_getI (c := 1) (j := 48) (dt_M_keepAct 23 _ _ _ rfl) (kf_M_392) (sc_382 hS) rfl ?_
      refine s_iconst (dt_M_keepAct 24 _ _ _ rfl) rfl ?_
      refine s_isub (dt_M_keepAct 25 _ _ _ rfl) ?_
      refine s_putI (c := 1) (j := 48) (dt_M_keepAct 26 _ _ _ rfl) kp_M_392 (sc_382 hS) ⟨rfl, rfl⟩ ?_
      refine s_letM (fun M4 => ?_)
      exact s_mask [true, false] (s_ret0 rfl)
    · exact s_mask [true, false] (s_ret0 rfl)
  refine s_iconst (dt_M_keepAct 27 _ _ _ rfl) rfl ?_
  refine s_istore_n (dt_M_keepAct 28 _ _ _ rfl) rfl ?_
  refine s_bd (κ := (fun (e8 : KM) => kC 86 [some (VR (some 382)), none] [] S e8)) (s_mask [true, true] (s_while (c := fun s6 => kC 52 [some (VR (some 382)), some (VI s6.1)] [] S s6.2) (fun s6 => ?_) ((0 : Int), t5))) ?_
  · refine s_iload_n (dt_M_keepAct 29 _ _ _ rfl) rfl ?_
    refine s_sipush (dt_M_keepAct 30 _ _ _ rfl) rfl ?_
    refine s_if_icmp_ge (tgt := 86) (dt_M_keepAct 31 _ _ _ rfl) rfl ?_ ?_
    · refine s_aload_n (dt_M_keepAct 32 _ _ _ rfl) rfl ?_
      refine s_getR (c := 1) (j := 47) (o := (some 412)) (dt_M_keepAct 33 _ _ _ rfl) (kf_M_104) (sc_382 hS) rfl rfl ?_
      refine s_sipush (dt_M_keepAct 34 _ _ _ rfl) rfl ?_
      refine s_aload_n (dt_M_keepAct 35 _ _ _ rfl) rfl ?_
      refine s_getI (c := 1) (j := 48) (dt_M_keepAct 36 _ _ _ rfl) (kf_M_392) (sc_382 hS) rfl ?_
      refine s_imul (dt_M_keepAct 37 _ _ _ rfl) ?_
      refine s_iload_n (dt_M_keepAct 38 _ _ _ rfl) rfl ?_
      refine s_iadd (dt_M_keepAct 39 _ _ _ rfl) ?_
      refine s_aload_n (dt_M_keepAct 40 _ _ _ rfl) rfl ?_
      refine s_getR (c := 1) (j := 46) (o := (some 411)) (dt_M_keepAct 41 _ _ _ rfl) (kf_M_101) (sc_382 hS) rfl rfl ?_
      refine s_iload_n (dt_M_keepAct 42 _ _ _ rfl) rfl ?_
      refine s_iald (N := 171) (dt_M_keepAct 43 _ _ _ rfl) (sc_411 hS) rfl ?_
      refine s_iast (N := 7011) (dt_M_keepAct 44 _ _ _ rfl) (sc_412 hS) rfl ?_
      refine s_letM (fun M7 => ?_)
      refine s_iinc (dt_M_keepAct 45 _ _ _ rfl) rfl rfl ?_
      refine s_goto (tgt := 52) (dt_M_keepAct 46 _ _ _ rfl) rfl ?_
      exact s_mask [true, true] (s_ret0 rfl)
    · exact s_mask [true, false] (s_ret0 rfl)
  intro e8
  refine s_aload_n (dt_M_keepAct 47 _ _ _ rfl) rfl ?_
  refine s_dup (dt_M_keepAct 48 _ _ _ rfl) rfl ?_
  refine s_getI (c := 1) (j := 48) (dt_M_keepAct 49 _ _ _ rfl) (kf_M_392) (sc_382 hS) rfl ?_
  refine s_iconst (dt_M_keepAct 50 _ _ _ rfl) rfl ?_
  refine s_iadd (dt_M_keepAct 51 _ _ _ rfl) ?_
  refine s_putI (c := 1) (j := 48) (dt_M_keepAct 52 _ _ _ rfl) kp_M_392 (sc_382 hS) ⟨rfl, rfl⟩ ?_
  refine s_letM (fun M9 => ?_)
  refine s_aload_n (dt_M_keepAct 53 _ _ _ rfl) rfl ?_
  refine s_iconst (dt_M_keepAct 54 _ _ _ rfl) rfl ?_
  refine s_putI (c := 1) (j := 49) (dt_M_keepAct 55 _ _ _ rfl) kp_M_395 (sc_382 hS) ⟨rfl, rfl⟩ ?_
  refine s_letM (fun M10 => ?_)
  exact s_vret (dt_M_keepAct 56 _ _ _ rfl) rfl rfl
theorem c_M_keepAct {S : KS} (hS : KExt 435 S)   (M : KM) : ∀ q, f_M_keepAct  M = some q → Ctr y_M_keepAct Y_M_keepAct [VR (some 382)] S M (none) S (q) := fun q hq =>
  ctr_of md_M_keepAct (Nat.le_of_ble_eq_true rfl) ⟨Nat.le_refl _, Nat.le_refl _⟩ 1 hq rfl (fun _ G => sim_M_keepAct hS   M)
set_option maxRecDepth 100000 in
theorem sim_M_pass {G : Gam} {S : KS} (hS : KExt 435 S)  (a0 : Int) (a1 : Int) (a2 : Int) (M : KM) : Sim G Y_M_pass (f_M_pass a0 a1 a2 M) (kC 0 [some (VR (some 382)), some (VI a0), some (VI a1), some (VI a2)] [] S M) (fun (q : KM) => Sum.inr (none, S, q)) := by
  unfold f_M_pass
  refine s_aload_n (dt_M_pass 0 _ _ _ rfl) rfl ?_
  refine s_getR (c := 1) (j := 46) (o := (some 411)) (dt_M_pass 1 _ _ _ rfl) (kf_M_101) (sc_382 hS) rfl rfl ?_
  refine s_iconst (dt_M_pass 2 _ _ _ rfl) rfl ?_
  refine s_iload_n (dt_M_pass 3 _ _ _ rfl) rfl ?_
  refine s_iadd (dt_M_pass 4 _ _ _ rfl) ?_
  refine s_dup2 (dt_M_pass 5 _ _ _ rfl) rfl rfl ?_
  refine s_iald (N := 171) (dt_M_pass 6 _ _ _ rfl) (sc_411 hS) rfl ?_
  refine s_iload_n (dt_M_pass 7 _ _ _ rfl) rfl ?_
  refine s_isub (dt_M_pass 8 _ _ _ rfl) ?_
  refine s_iast (N := 171) (dt_M_pass 9 _ _ _ rfl) (sc_411 hS) rfl ?_
  refine s_letM (fun M1 => ?_)
  refine s_aload_n (dt_M_pass 10 _ _ _ rfl) rfl ?_
  refine s_getR (c := 1) (j := 46) (o := (some 411)) (dt_M_pass 11 _ _ _ rfl) (kf_M_101) (sc_382 hS) rfl rfl ?_
  refine s_iconst (dt_M_pass 12 _ _ _ rfl) rfl ?_
  refine s_iload_n (dt_M_pass 13 _ _ _ rfl) rfl ?_
  refine s_iadd (dt_M_pass 14 _ _ _ rfl) ?_
  refine s_dup2 (dt_M_pass 15 _ _ _ rfl) rfl rfl ?_
  refine s_iald (N := 171) (dt_M_pass 16 _ _ _ rfl) (sc_411 hS) rfl ?_
  refine s_iload_n (dt_M_pass 17 _ _ _ rfl) rfl ?_
  refine s_iadd (dt_M_pass 18 _ _ _ rfl) ?_
  refine s_iast (N := 171) (dt_M_pass 19 _ _ _ rfl) (sc_411 hS) rfl ?_
  refine s_letM (fun M2 => ?_)
  exact s_vret (dt_M_pass 20 _ _ _ rfl) rfl rfl
theorem c_M_pass {S : KS} (hS : KExt 435 S)  (a0 : Int) (a1 : Int) (a2 : Int) (M : KM) : ∀ q, f_M_pass a0 a1 a2 M = some q → Ctr y_M_pass Y_M_pass [VR (some 382), VI a0, VI a1, VI a2] S M (none) S (q) := fun q hq =>
  ctr_of md_M_pass (Nat.le_of_ble_eq_true rfl) ⟨Nat.le_refl _, Nat.le_refl _⟩ 0 hq rfl (fun _ G => sim_M_pass hS  a0 a1 a2 M)
set_option maxRecDepth 100000 in
theorem sim_M_give {G : Gam} {S : KS} (hS : KExt 435 S)  (a0 : Int) (a1 : Int) (a2 : Int) (M : KM) : Sim G Y_M_give (f_M_give a0 a1 a2 M) (kC 0 [some (VR (some 382)), some (VI a0), some (VI a1), some (VI a2), none] [] S M) (fun (q : Int × KM) => Sum.inr (some (VI q.1), S, q.2)) := by
  unfold f_M_give
  refine s_aload_n (dt_M_give 0 _ _ _ rfl) rfl ?_
  refine s_iload_n (dt_M_give 1 _ _ _ rfl) rfl ?_
  refine s_iload_n (dt_M_give 2 _ _ _ rfl) rfl ?_
  refine s_iload_n (dt_M_give 3 _ _ _ rfl) rfl ?_
  refine s_callO (y := y_M_canPass) (Y' := Y_M_canPass) (as := [VR (some 382), VI a0, VI a1, VI a2]) (r := fun q => some (VI q)) (M' := fun q => M) (kInvV (dt_M_give 4 _ _ _ rfl) kin_M_canPass 1 rfl (sc_382 hS) kse_M_canPass rfl) kl_M_435 md_M_canPass rfl rfl (fun q hq => c_M_canPass hS a0 a1 a2 M q hq) (fun q1 => ?_)
  refine s_if_ne (tgt := 12) (dt_M_give 5 _ _ _ rfl) rfl ?_ ?_
  · refine s_iconst (dt_M_give 6 _ _ _ rfl) rfl ?_
    exact s_iret (dt_M_give 7 _ _ _ rfl) rfl rfl
  · refine s_iload_n (dt_M_give 8 _ _ _ rfl) rfl ?_
    refine s_aload_n (dt_M_give 9 _ _ _ rfl) rfl ?_
    refine s_getR (c := 1) (j := 25) (o := (some 399)) (dt_M_give 10 _ _ _ rfl) (kf_M_63) (sc_382 hS) rfl rfl ?_
    refine s_aload_n (dt_M_give 11 _ _ _ rfl) rfl ?_
    refine s_iload_n (dt_M_give 12 _ _ _ rfl) rfl ?_
    refine s_iload_n (dt_M_give 13 _ _ _ rfl) rfl ?_
    refine s_callO (y := y_M_friendsOf) (Y' := Y_M_friendsOf) (as := [VR (some 382), VI a0, VI a1]) (r := fun q => some (VI q)) (M' := fun q => M) (kInvV (dt_M_give 14 _ _ _ rfl) kin_M_friendsOf 1 rfl (sc_382 hS) kse_M_friendsOf rfl) kl_M_429 md_M_friendsOf rfl rfl (fun q hq => c_M_friendsOf hS a0 a1 M q hq) (fun q2 => ?_)
    refine s_iald (N := 40) (dt_M_give 15 _ _ _ rfl) (sc_399 hS) rfl ?_
    refine s_imul (dt_M_give 16 _ _ _ rfl) ?_
    refine s_letI (fun v3 => ?_)
    refine s_istore (dt_M_give 17 _ _ _ rfl) rfl ?_
    refine s_iload (dt_M_give 18 _ _ _ rfl) rfl ?_
    refine s_aload_n (dt_M_give 19 _ _ _ rfl) rfl ?_
    refine s_getR (c := 1) (j := 46) (o := (some 411)) (dt_M_give 20 _ _ _ rfl) (kf_M_101) (sc_382 hS) rfl rfl ?_
    refine s_bipush (dt_M_give 21 _ _ _ rfl) rfl ?_
    refine s_iload_n (dt_M_give 22 _ _ _ rfl) rfl ?_
    refine s_iadd (dt_M_give 23 _ _ _ rfl) ?_
    refine s_iald (N := 171) (dt_M_give 24 _ _ _ rfl) (sc_411 hS) rfl ?_
    refine s_if_icmp_le (tgt := 43) (dt_M_give 25 _ _ _ rfl) rfl ?_ ?_
    · refine s_aload_n (dt_M_give 28 _ _ _ rfl) rfl ?_
      refine s_callO (y := y_M_keepAct) (Y' := Y_M_keepAct) (as := [VR (some 382)]) (r := fun q => none) (M' := fun q => q) (kInvV (dt_M_give 29 _ _ _ rfl) kin_M_keepAct 1 rfl (sc_382 hS) kse_M_keepAct rfl) kl_M_438 md_M_keepAct rfl rfl (fun q hq => c_M_keepAct hS M q hq) (fun q4 => ?_)
      refine s_aload_n (dt_M_give 30 _ _ _ rfl) rfl ?_
      refine s_iload_n (dt_M_give 31 _ _ _ rfl) rfl ?_
      refine s_iload_n (dt_M_give 32 _ _ _ rfl) rfl ?_
      refine s_iload_n (dt_M_give 33 _ _ _ rfl) rfl ?_
      refine s_callO (y := y_M_pass) (Y' := Y_M_pass) (as := [VR (some 382), VI a0, VI a1, VI a2]) (r := fun q => none) (M' := fun q => q) (kInvV (dt_M_give 34 _ _ _ rfl) kin_M_pass 1 rfl (sc_382 hS) kse_M_pass rfl) kl_M_441 md_M_pass rfl rfl (fun q hq => c_M_pass hS a0 a1 a2 q4 q hq) (fun q5 => ?_)
      refine s_aload_n (dt_M_give 35 _ _ _ rfl) rfl ?_
      refine s_getR (c := 1) (j := 46) (o := (some 411)) (dt_M_give 36 _ _ _ rfl) (kf_M_101) (sc_382 hS) rfl rfl ?_
      refine s_bipush (dt_M_give 37 _ _ _ rfl) rfl ?_
      refine s_iload_n (dt_M_give 38 _ _ _ rfl) rfl ?_
      refine s_iadd (dt_M_give 39 _ _ _ rfl) ?_
      refine s_dup2 (dt_M_give 40 _ _ _ rfl) rfl rfl ?_
      refine s_iald (N := 171) (dt_M_give 41 _ _ _ rfl) (sc_411 hS) rfl ?_
      refine s_iload (dt_M_give 42 _ _ _ rfl) rfl ?_
      refine s_isub (dt_M_give 43 _ _ _ rfl) ?_
      refine s_iast (N := 171) (dt_M_give 44 _ _ _ rfl) (sc_411 hS) rfl ?_
      refine s_letM (fun M6 => ?_)
      refine s_aload_n (dt_M_give 45 _ _ _ rfl) rfl ?_
      refine s_getR (c := 1) (j := 46) (o := (some 411)) (dt_M_give 46 _ _ _ rfl) (kf_M_101) (sc_382 hS) rfl rfl ?_
      refine s_bipush (dt_M_give 47 _ _ _ rfl) rfl ?_
      refine s_iload_n (dt_M_give 48 _ _ _ rfl) rfl ?_
      refine s_iadd (dt_M_give 49 _ _ _ rfl) ?_
      refine s_dup2 (dt_M_give 50 _ _ _ rfl) rfl rfl ?_
      refine s_iald (N := 171) (dt_M_give 51 _ _ _ rfl) (sc_411 hS) rfl ?_
      refine s_iload (dt_M_give 52 _ _ _ rfl) rfl ?_
      refine s_iadd (dt_M_give 53 _ _ _ rfl) ?_
      refine s_iast (N := 171) (dt_M_give 54 _ _ _ rfl) (sc_411 hS) rfl ?_
      refine s_letM (fun M7 => ?_)
      refine s_iload (dt_M_give 55 _ _ _ rfl) rfl ?_
      exact s_iret (dt_M_give 56 _ _ _ rfl) rfl rfl
    · refine s_iconst (dt_M_give 26 _ _ _ rfl) rfl ?_
      exact s_iret (dt_M_give 27 _ _ _ rfl) rfl rfl
theorem c_M_give {S : KS} (hS : KExt 435 S)  (a0 : Int) (a1 : Int) (a2 : Int) (M : KM) : ∀ q, f_M_give a0 a1 a2 M = some q → Ctr y_M_give Y_M_give [VR (some 382), VI a0, VI a1, VI a2] S M (some (VI q.1)) S (q.2) := fun q hq =>
  ctr_of md_M_give (Nat.le_of_ble_eq_true rfl) ⟨Nat.le_refl _, Nat.le_refl _⟩ 1 hq rfl (fun _ G => sim_M_give hS  a0 a1 a2 M)
set_option maxRecDepth 100000 in
theorem sim_M_lend {G : Gam} {S : KS} (hS : KExt 435 S)  (a0 : Int) (a1 : Int) (a2 : Int) (a3 : Int) (M : KM) : Sim G Y_M_lend (f_M_lend a0 a1 a2 a3 M) (kC 0 [some (VR (some 382)), some (VI a0), some (VI a1), some (VI a2), some (VI a3), none] [] S M) (fun (q : Int × KM) => Sum.inr (some (VI q.1), S, q.2)) := by
  unfold f_M_lend
  refine s_aload_n (dt_M_lend 0 _ _ _ rfl) rfl ?_
  refine s_iload_n (dt_M_lend 1 _ _ _ rfl) rfl ?_
  refine s_iload_n (dt_M_lend 2 _ _ _ rfl) rfl ?_
  refine s_iload_n (dt_M_lend 3 _ _ _ rfl) rfl ?_
  refine s_callO (y := y_M_canPass) (Y' := Y_M_canPass) (as := [VR (some 382), VI a0, VI a1, VI a2]) (r := fun q => some (VI q)) (M' := fun q => M) (kInvV (dt_M_lend 4 _ _ _ rfl) kin_M_canPass 1 rfl (sc_382 hS) kse_M_canPass rfl) kl_M_435 md_M_canPass rfl rfl (fun q hq => c_M_canPass hS a0 a1 a2 M q hq) (fun q1 => ?_)
  refine s_if_eq (tgt := 42) (dt_M_lend 5 _ _ _ rfl) rfl ?_ ?_
  · refine s_iconst (dt_M_lend 21 _ _ _ rfl) rfl ?_
    exact s_iret (dt_M_lend 22 _ _ _ rfl) rfl rfl
  · refine s_iload (dt_M_lend 6 _ _ _ rfl) rfl ?_
    refine s_aload_n (dt_M_lend 7 _ _ _ rfl) rfl ?_
    refine s_getR (c := 1) (j := 46) (o := (some 411)) (dt_M_lend 8 _ _ _ rfl) (kf_M_101) (sc_382 hS) rfl rfl ?_
    refine s_bipush (dt_M_lend 9 _ _ _ rfl) rfl ?_
    refine s_iald (N := 171) (dt_M_lend 10 _ _ _ rfl) (sc_411 hS) rfl ?_
    refine s_if_icmp_le (tgt := 42) (dt_M_lend 11 _ _ _ rfl) rfl ?_ ?_
    · refine s_iconst (dt_M_lend 21 _ _ _ rfl) rfl ?_
      exact s_iret (dt_M_lend 22 _ _ _ rfl) rfl rfl
    · refine s_iload (dt_M_lend 12 _ _ _ rfl) rfl ?_
      refine s_sipush (dt_M_lend 13 _ _ _ rfl) rfl ?_
      refine s_if_icmp_gt (tgt := 42) (dt_M_lend 14 _ _ _ rfl) rfl ?_ ?_
      · refine s_aload_n (dt_M_lend 15 _ _ _ rfl) rfl ?_
        refine s_getR (c := 1) (j := 46) (o := (some 411)) (dt_M_lend 16 _ _ _ rfl) (kf_M_101) (sc_382 hS) rfl rfl ?_
        refine s_bipush (dt_M_lend 17 _ _ _ rfl) rfl ?_
        refine s_iald (N := 171) (dt_M_lend 18 _ _ _ rfl) (sc_411 hS) rfl ?_
        refine s_bipush (dt_M_lend 19 _ _ _ rfl) rfl ?_
        refine s_if_icmp_ne (tgt := 44) (dt_M_lend 20 _ _ _ rfl) rfl ?_ ?_
        · refine s_iconst (dt_M_lend 21 _ _ _ rfl) rfl ?_
          exact s_iret (dt_M_lend 22 _ _ _ rfl) rfl rfl
        · refine s_aload_n (dt_M_lend 23 _ _ _ rfl) rfl ?_
          refine s_callO (y := y_M_keepAct) (Y' := Y_M_keepAct) (as := [VR (some 382)]) (r := fun q => none) (M' := fun q => q) (kInvV (dt_M_lend 24 _ _ _ rfl) kin_M_keepAct 1 rfl (sc_382 hS) kse_M_keepAct rfl) kl_M_438 md_M_keepAct rfl rfl (fun q hq => c_M_keepAct hS M q hq) (fun q2 => ?_)
          refine s_bipush (dt_M_lend 25 _ _ _ rfl) rfl ?_
          refine s_iconst (dt_M_lend 26 _ _ _ rfl) rfl ?_
          refine s_aload_n (dt_M_lend 27 _ _ _ rfl) rfl ?_
          refine s_getR (c := 1) (j := 46) (o := (some 411)) (dt_M_lend 28 _ _ _ rfl) (kf_M_101) (sc_382 hS) rfl rfl ?_
          refine s_bipush (dt_M_lend 29 _ _ _ rfl) rfl ?_
          refine s_iald (N := 171) (dt_M_lend 30 _ _ _ rfl) (sc_411 hS) rfl ?_
          refine s_imul (dt_M_lend 31 _ _ _ rfl) ?_
          refine s_iadd (dt_M_lend 32 _ _ _ rfl) ?_
          refine s_letI (fun v3 => ?_)
          refine s_istore (dt_M_lend 33 _ _ _ rfl) rfl ?_
          refine s_aload_n (dt_M_lend 34 _ _ _ rfl) rfl ?_
          refine s_iload_n (dt_M_lend 35 _ _ _ rfl) rfl ?_
          refine s_iload_n (dt_M_lend 36 _ _ _ rfl) rfl ?_
          refine s_iload_n (dt_M_lend 37 _ _ _ rfl) rfl ?_
          refine s_callO (y := y_M_pass) (Y' := Y_M_pass) (as := [VR (some 382), VI a0, VI a1, VI a2]) (r := fun q => none) (M' := fun q => q) (kInvV (dt_M_lend 38 _ _ _ rfl) kin_M_pass 1 rfl (sc_382 hS) kse_M_pass rfl) kl_M_441 md_M_pass rfl rfl (fun q hq => c_M_pass hS a0 a1 a2 q2 q hq) (fun q4 => ?_)
          refine s_aload_n (dt_M_lend 39 _ _ _ rfl) rfl ?_
          refine s_getR (c := 1) (j := 46) (o := (some 411)) (dt_M_lend 40 _ _ _ rfl) (kf_M_101) (sc_382 hS) rfl rfl ?_
          refine s_iload (dt_M_lend 41 _ _ _ rfl) rfl ?_
          refine s_iload_n (dt_M_lend 42 _ _ _ rfl) rfl ?_
          refine s_iast (N := 171) (dt_M_lend 43 _ _ _ rfl) (sc_411 hS) rfl ?_
          refine s_letM (fun M5 => ?_)
          refine s_aload_n (dt_M_lend 44 _ _ _ rfl) rfl ?_
          refine s_getR (c := 1) (j := 46) (o := (some 411)) (dt_M_lend 45 _ _ _ rfl) (kf_M_101) (sc_382 hS) rfl rfl ?_
          refine s_iload (dt_M_lend 46 _ _ _ rfl) rfl ?_
          refine s_iconst (dt_M_lend 47 _ _ _ rfl) rfl ?_
          refine s_iadd (dt_M_lend 48 _ _ _ rfl) ?_
          refine s_iload_n (dt_M_lend 49 _ _ _ rfl) rfl ?_
          refine s_iast (N := 171) (dt_M_lend 50 _ _ _ rfl) (sc_411 hS) rfl ?_
          refine s_letM (fun M6 => ?_)
          refine s_aload_n (dt_M_lend 51 _ _ _ rfl) rfl ?_
          refine s_getR (c := 1) (j := 46) (o := (some 411)) (dt_M_lend 52 _ _ _ rfl) (kf_M_101) (sc_382 hS) rfl rfl ?_
          refine s_iload (dt_M_lend 53 _ _ _ rfl) rfl ?_
          refine s_iconst (dt_M_lend 54 _ _ _ rfl) rfl ?_
          refine s_iadd (dt_M_lend 55 _ _ _ rfl) ?_
          refine s_iload_n (dt_M_lend 56 _ _ _ rfl) rfl ?_
          refine s_iast (N := 171) (dt_M_lend 57 _ _ _ rfl) (sc_411 hS) rfl ?_
          refine s_letM (fun M7 => ?_)
          refine s_aload_n (dt_M_lend 58 _ _ _ rfl) rfl ?_
          refine s_getR (c := 1) (j := 46) (o := (some 411)) (dt_M_lend 59 _ _ _ rfl) (kf_M_101) (sc_382 hS) rfl rfl ?_
          refine s_iload (dt_M_lend 60 _ _ _ rfl) rfl ?_
          refine s_iconst (dt_M_lend 61 _ _ _ rfl) rfl ?_
          refine s_iadd (dt_M_lend 62 _ _ _ rfl) ?_
          refine s_iload (dt_M_lend 63 _ _ _ rfl) rfl ?_
          refine s_iast (N := 171) (dt_M_lend 64 _ _ _ rfl) (sc_411 hS) rfl ?_
          refine s_letM (fun M8 => ?_)
          refine s_aload_n (dt_M_lend 65 _ _ _ rfl) rfl ?_
          refine s_getR (c := 1) (j := 46) (o := (some 411)) (dt_M_lend 66 _ _ _ rfl) (kf_M_101) (sc_382 hS) rfl rfl ?_
          refine s_iload (dt_M_lend 67 _ _ _ rfl) rfl ?_
          refine s_iconst (dt_M_lend 68 _ _ _ rfl) rfl ?_
          refine s_iadd (dt_M_lend 69 _ _ _ rfl) ?_
          refine s_iconst (dt_M_lend 70 _ _ _ rfl) rfl ?_
          refine s_iast (N := 171) (dt_M_lend 71 _ _ _ rfl) (sc_411 hS) rfl ?_
          refine s_letM (fun M9 => ?_)
          refine s_aload_n (dt_M_lend 72 _ _ _ rfl) rfl ?_
          refine s_getR (c := 1) (j := 46) (o := (some 411)) (dt_M_lend 73 _ _ _ rfl) (kf_M_101) (sc_382 hS) rfl rfl ?_
          refine s_bipush (dt_M_lend 74 _ _ _ rfl) rfl ?_
          refine s_dup2 (dt_M_lend 75 _ _ _ rfl) rfl rfl ?_
          refine s_iald (N := 171) (dt_M_lend 76 _ _ _ rfl) (sc_411 hS) rfl ?_
          refine s_iconst (dt_M_lend 77 _ _ _ rfl) rfl ?_
          refine s_iadd (dt_M_lend 78 _ _ _ rfl) ?_
          refine s_iast (N := 171) (dt_M_lend 79 _ _ _ rfl) (sc_411 hS) rfl ?_
          refine s_letM (fun M10 => ?_)
          refine s_aload_n (dt_M_lend 80 _ _ _ rfl) rfl ?_
          refine s_getR (c := 1) (j := 46) (o := (some 411)) (dt_M_lend 81 _ _ _ rfl) (kf_M_101) (sc_382 hS) rfl rfl ?_
          refine s_bipush (dt_M_lend 82 _ _ _ rfl) rfl ?_
          refine s_iald (N := 171) (dt_M_lend 83 _ _ _ rfl) (sc_411 hS) rfl ?_
          refine s_iconst (dt_M_lend 84 _ _ _ rfl) rfl ?_
          refine s_isub (dt_M_lend 85 _ _ _ rfl) ?_
          exact s_iret (dt_M_lend 86 _ _ _ rfl) rfl rfl
      · refine s_iconst (dt_M_lend 21 _ _ _ rfl) rfl ?_
        exact s_iret (dt_M_lend 22 _ _ _ rfl) rfl rfl
theorem c_M_lend {S : KS} (hS : KExt 435 S)  (a0 : Int) (a1 : Int) (a2 : Int) (a3 : Int) (M : KM) : ∀ q, f_M_lend a0 a1 a2 a3 M = some q → Ctr y_M_lend Y_M_lend [VR (some 382), VI a0, VI a1, VI a2, VI a3] S M (some (VI q.1)) S (q.2) := fun q hq =>
  ctr_of md_M_lend (Nat.le_of_ble_eq_true rfl) ⟨Nat.le_refl _, Nat.le_refl _⟩ 1 hq rfl (fun _ G => sim_M_lend hS  a0 a1 a2 a3 M)
set_option maxRecDepth 100000 in
theorem sim_M_comeBack {G : Gam} {S : KS} (hS : KExt 435 S)  (a0 : Int) (M : KM) : Sim G Y_M_comeBack (f_M_comeBack a0 M) (kC 0 [some (VR (some 382)), some (VI a0), none, none] [] S M) (fun (q : KM) => Sum.inr (none, S, q)) := by
  unfold f_M_comeBack
  refine s_aload_n (dt_M_comeBack 0 _ _ _ rfl) rfl ?_
  refine s_getR (c := 1) (j := 46) (o := (some 411)) (dt_M_comeBack 1 _ _ _ rfl) (kf_M_101) (sc_382 hS) rfl rfl ?_
  refine s_iload_n (dt_M_comeBack 2 _ _ _ rfl) rfl ?_
  refine s_iald (N := 171) (dt_M_comeBack 3 _ _ _ rfl) (sc_411 hS) rfl ?_
  refine s_letI (fun v1 => ?_)
  refine s_istore_n (dt_M_comeBack 4 _ _ _ rfl) rfl ?_
  refine s_aload_n (dt_M_comeBack 5 _ _ _ rfl) rfl ?_
  refine s_getR (c := 1) (j := 46) (o := (some 411)) (dt_M_comeBack 6 _ _ _ rfl) (kf_M_101) (sc_382 hS) rfl rfl ?_
  refine s_iload_n (dt_M_comeBack 7 _ _ _ rfl) rfl ?_
  refine s_iconst (dt_M_comeBack 8 _ _ _ rfl) rfl ?_
  refine s_iadd (dt_M_comeBack 9 _ _ _ rfl) ?_
  refine s_iald (N := 171) (dt_M_comeBack 10 _ _ _ rfl) (sc_411 hS) rfl ?_
  refine s_letI (fun v2 => ?_)
  refine s_istore_n (dt_M_comeBack 11 _ _ _ rfl) rfl ?_
  refine s_aload_n (dt_M_comeBack 12 _ _ _ rfl) rfl ?_
  refine s_getR (c := 1) (j := 46) (o := (some 411)) (dt_M_comeBack 13 _ _ _ rfl) (kf_M_101) (sc_382 hS) rfl rfl ?_
  refine s_iload_n (dt_M_comeBack 14 _ _ _ rfl) rfl ?_
  refine s_iconst (dt_M_comeBack 15 _ _ _ rfl) rfl ?_
  refine s_iadd (dt_M_comeBack 16 _ _ _ rfl) ?_
  refine s_iconst (dt_M_comeBack 17 _ _ _ rfl) rfl ?_
  refine s_iast (N := 171) (dt_M_comeBack 18 _ _ _ rfl) (sc_411 hS) rfl ?_
  refine s_letM (fun M3 => ?_)
  refine s_aload_n (dt_M_comeBack 19 _ _ _ rfl) rfl ?_
  refine s_iload_n (dt_M_comeBack 20 _ _ _ rfl) rfl ?_
  refine s_callO (y := y_M_isAlive) (Y' := Y_M_isAlive) (as := [VR (some 382), VI v1]) (r := fun q => some (VI q)) (M' := fun q => M3) (kInvV (dt_M_comeBack 21 _ _ _ rfl) kin_M_isAlive 1 rfl (sc_382 hS) kse_M_isAlive rfl) kl_M_404 md_M_isAlive rfl rfl (fun q hq => c_M_isAlive hS v1 M3 q hq) (fun q4 => ?_)
  refine s_if_eq (tgt := 41) (dt_M_comeBack 22 _ _ _ rfl) rfl ?_ ?_
  · exact s_vret (dt_M_comeBack 27 _ _ _ rfl) rfl rfl
  · refine s_aload_n (dt_M_comeBack 23 _ _ _ rfl) rfl ?_
    refine s_iload_n (dt_M_comeBack 24 _ _ _ rfl) rfl ?_
    refine s_callO (y := y_M_isAlive) (Y' := Y_M_isAlive) (as := [VR (some 382), VI v2]) (r := fun q => some (VI q)) (M' := fun q => M3) (kInvV (dt_M_comeBack 25 _ _ _ rfl) kin_M_isAlive 1 rfl (sc_382 hS) kse_M_isAlive rfl) kl_M_404 md_M_isAlive rfl rfl (fun q hq => c_M_isAlive hS v2 M3 q hq) (fun q5 => ?_)
    refine s_if_ne (tgt := 42) (dt_M_comeBack 26 _ _ _ rfl) rfl ?_ ?_
    · exact s_vret (dt_M_comeBack 27 _ _ _ rfl) rfl rfl
    · refine s_aload_n (dt_M_comeBack 28 _ _ _ rfl) rfl ?_
      refine s_iload_n (dt_M_comeBack 29 _ _ _ rfl) rfl ?_
      refine s_iload_n (dt_M_comeBack 30 _ _ _ rfl) rfl ?_
      refine s_aload_n (dt_M_comeBack 31 _ _ _ rfl) rfl ?_
      refine s_getR (c := 1) (j := 46) (o := (some 411)) (dt_M_comeBack 32 _ _ _ rfl) (kf_M_101) (sc_382 hS) rfl rfl ?_
      refine s_iload_n (dt_M_comeBack 33 _ _ _ rfl) rfl ?_
      refine s_iconst (dt_M_comeBack 34 _ _ _ rfl) rfl ?_
      refine s_iadd (dt_M_comeBack 35 _ _ _ rfl) ?_
      refine s_iald (N := 171) (dt_M_comeBack 36 _ _ _ rfl) (sc_411 hS) rfl ?_
      refine s_callO (y := y_M_canGo) (Y' := Y_M_canGo) (as := [VR (some 382), VI v2, VI v1, VI (M3 411 (w32 (a0 + (2 : Int))).toNat)]) (r := fun q => some (VI q)) (M' := fun q => M3) (kInvV (dt_M_comeBack 37 _ _ _ rfl) kin_M_canGo 1 rfl (sc_382 hS) kse_M_canGo rfl) kl_M_432 md_M_canGo rfl rfl (fun q hq => c_M_canGo hS v2 v1 (M3 411 (w32 (a0 + (2 : Int))).toNat) M3 q hq) (fun q6 => ?_)
      refine s_bd (κ := fun t9 => kC 87 [none, none, none, none] [] S t9) ?_ (fun t9 => ?_)
      · refine s_if_eq (tgt := 76) (dt_M_comeBack 38 _ _ _ rfl) rfl ?_ ?_
        · refine s_aload_n (dt_M_comeBack 50 _ _ _ rfl) rfl ?_
          refine s_getR (c := 1) (j := 46) (o := (some 411)) (dt_M_comeBack 51 _ _ _ rfl) (kf_M_101) (sc_382 hS) rfl rfl ?_
          refine s_bipush (dt_M_comeBack 52 _ _ _ rfl) rfl ?_
          refine s_dup2 (dt_M_comeBack 53 _ _ _ rfl) rfl rfl ?_
          refine s_iald (N := 171) (dt_M_comeBack 54 _ _ _ rfl) (sc_411 hS) rfl ?_
          refine s_iconst (dt_M_comeBack 55 _ _ _ rfl) rfl ?_
          refine s_iadd (dt_M_comeBack 56 _ _ _ rfl) ?_
          refine s_iast (N := 171) (dt_M_comeBack 57 _ _ _ rfl) (sc_411 hS) rfl ?_
          refine s_letM (fun M7 => ?_)
          exact s_mask [false, false, false, false] (s_ret0 rfl)
        · refine s_aload_n (dt_M_comeBack 39 _ _ _ rfl) rfl ?_
          refine s_iload_n (dt_M_comeBack 40 _ _ _ rfl) rfl ?_
          refine s_iload_n (dt_M_comeBack 41 _ _ _ rfl) rfl ?_
          refine s_aload_n (dt_M_comeBack 42 _ _ _ rfl) rfl ?_
          refine s_getR (c := 1) (j := 46) (o := (some 411)) (dt_M_comeBack 43 _ _ _ rfl) (kf_M_101) (sc_382 hS) rfl rfl ?_
          refine s_iload_n (dt_M_comeBack 44 _ _ _ rfl) rfl ?_
          refine s_iconst (dt_M_comeBack 45 _ _ _ rfl) rfl ?_
          refine s_iadd (dt_M_comeBack 46 _ _ _ rfl) ?_
          refine s_iald (N := 171) (dt_M_comeBack 47 _ _ _ rfl) (sc_411 hS) rfl ?_
          refine s_callO (y := y_M_pass) (Y' := Y_M_pass) (as := [VR (some 382), VI v2, VI v1, VI (M3 411 (w32 (a0 + (2 : Int))).toNat)]) (r := fun q => none) (M' := fun q => q) (kInvV (dt_M_comeBack 48 _ _ _ rfl) kin_M_pass 1 rfl (sc_382 hS) kse_M_pass rfl) kl_M_441 md_M_pass rfl rfl (fun q hq => c_M_pass hS v2 v1 (M3 411 (w32 (a0 + (2 : Int))).toNat) M3 q hq) (fun q8 => ?_)
          refine s_goto (tgt := 87) (dt_M_comeBack 49 _ _ _ rfl) rfl ?_
          exact s_mask [false, false, false, false] (s_ret0 rfl)
      exact s_vret (dt_M_comeBack 58 _ _ _ rfl) rfl rfl
theorem c_M_comeBack {S : KS} (hS : KExt 435 S)  (a0 : Int) (M : KM) : ∀ q, f_M_comeBack a0 M = some q → Ctr y_M_comeBack Y_M_comeBack [VR (some 382), VI a0] S M (none) S (q) := fun q hq =>
  ctr_of md_M_comeBack (Nat.le_of_ble_eq_true rfl) ⟨Nat.le_refl _, Nat.le_refl _⟩ 2 hq rfl (fun _ G => sim_M_comeBack hS  a0 M)
