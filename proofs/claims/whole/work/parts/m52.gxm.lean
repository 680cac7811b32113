set_option maxRecDepth 100000 in
theorem sim_X_lend {G : Gam} {S : KS} (hS : KExt 382 S)  (a0 : Int) (a1 : Int) (a2 : Int) (a3 : Int) (M : KM) : Sim G Y_X_lend (f_X_lend a0 a1 a2 a3 M) (kC 0 [some (VR (some 0)), some (VI a0), some (VI a1), some (VI a2), some (VI a3), none, none] [] S M) (fun (q : Int × KM) => Sum.inr (some (VI q.1), S, q.2)) := by
  unfold f_X_lend
  refine s_iload (dt_X_lend 0 _ _ _ rfl) rfl ?_
  refine s_aload_n (dt_X_lend 1 _ _ _ rfl) rfl ?_
  refine s_getR (c := 0) (j := 4) (o := (some 34)) (dt_X_lend 2 _ _ _ rfl) (kf_X_34) (sc_0 hS) rfl rfl ?_
  refine s_getI (c := 10) (j := 4) (dt_X_lend 3 _ _ _ rfl) (kf_X_200) (sc_34 hS) rfl ?_
  refine s_bd (κ := fun t1 => kC 25 [some (VR (some 0)), some (VI a0), some (VI a1), some (VI a2), some (VI a3), none, none] [VI t1] S M) ?_ (fun t1 => ?_)
  · refine s_if_icmp_le (tgt := 24) (dt_X_lend 4 _ _ _ rfl) rfl ?_ ?_
    · refine s_iconst (dt_X_lend 10 _ _ _ rfl) rfl ?_
      exact s_mask [true, true, true, true, true, false, false] (s_ret0 rfl)
    · refine s_iload (dt_X_lend 5 _ _ _ rfl) rfl ?_
      refine s_sipush (dt_X_lend 6 _ _ _ rfl) rfl ?_
      refine s_if_icmp_gt (tgt := 24) (dt_X_lend 7 _ _ _ rfl) rfl ?_ ?_
      · refine s_iconst (dt_X_lend 8 _ _ _ rfl) rfl ?_
        refine s_goto (tgt := 25) (dt_X_lend 9 _ _ _ rfl) rfl ?_
        exact s_mask [true, true, true, true, true, false, false] (s_ret0 rfl)
      · refine s_iconst (dt_X_lend 10 _ _ _ rfl) rfl ?_
        exact s_mask [true, true, true, true, true, false, false] (s_ret0 rfl)
  refine s_istore (dt_X_lend 11 _ _ _ rfl) rfl ?_
  refine s_iload (dt_X_lend 12 _ _ _ rfl) rfl ?_
  refine s_if_eq (tgt := 55) (dt_X_lend 13 _ _ _ rfl) rfl ?_ ?_
  · refine s_iconst (dt_X_lend 26 _ _ _ rfl) rfl ?_
    exact s_iret (dt_X_lend 27 _ _ _ rfl) rfl rfl
  · refine s_aload_n (dt_X_lend 14 _ _ _ rfl) rfl ?_
    refine s_getR (c := 0) (j := 4) (o := (some 34)) (dt_X_lend 15 _ _ _ rfl) (kf_X_34) (sc_0 hS) rfl rfl ?_
    refine s_getI (c := 10) (j := 6) (dt_X_lend 16 _ _ _ rfl) (kf_X_238) (sc_34 hS) rfl ?_
    refine s_bipush (dt_X_lend 17 _ _ _ rfl) rfl ?_
    refine s_if_icmp_ge (tgt := 55) (dt_X_lend 18 _ _ _ rfl) rfl ?_ ?_
    · refine s_aload_n (dt_X_lend 19 _ _ _ rfl) rfl ?_
      refine s_iload_n (dt_X_lend 20 _ _ _ rfl) rfl ?_
      refine s_iload_n (dt_X_lend 21 _ _ _ rfl) rfl ?_
      refine s_iload_n (dt_X_lend 22 _ _ _ rfl) rfl ?_
      refine s_callO (y := y_X_friendsFor) (Y' := Y_X_friendsFor) (as := [VR (some 0), VI a0, VI a1, VI a2]) (r := fun q => some (VI q)) (M' := fun q => M) (kInvV (dt_X_lend 23 _ _ _ rfl) kin_X_friendsFor 0 rfl (sc_0 hS) kse_X_friendsFor rfl) kl_X_221 md_X_friendsFor rfl rfl (fun q hq => c_X_friendsFor hS a0 a1 a2 M q hq) (fun q2 => ?_)
      refine s_iconst (dt_X_lend 24 _ _ _ rfl) rfl ?_
      refine s_if_icmp_ne (tgt := 57) (dt_X_lend 25 _ _ _ rfl) rfl ?_ ?_
      · refine s_iconst (dt_X_lend 26 _ _ _ rfl) rfl ?_
        exact s_iret (dt_X_lend 27 _ _ _ rfl) rfl rfl
      · refine s_aload_n (dt_X_lend 28 _ _ _ rfl) rfl ?_
        refine s_getR (c := 0) (j := 4) (o := (some 34)) (dt_X_lend 29 _ _ _ rfl) (kf_X_34) (sc_0 hS) rfl rfl ?_
        refine s_iload_n (dt_X_lend 30 _ _ _ rfl) rfl ?_
        refine s_iload_n (dt_X_lend 31 _ _ _ rfl) rfl ?_
        refine s_iload_n (dt_X_lend 32 _ _ _ rfl) rfl ?_
        refine s_callO (y := y_State_moveYears) (Y' := Y_State_moveYears) (as := [VR (some 34), VI a0, VI a1, VI a2]) (r := fun q => none) (M' := fun q => q) (kInvV (dt_X_lend 33 _ _ _ rfl) kin_State_moveYears 10 rfl (sc_34 hS) kse_State_moveYears rfl) kl_X_228 md_State_moveYears rfl rfl (fun q hq => c_State_moveYears hS a0 a1 a2 M q hq) (fun q3 => ?_)
        refine s_aload_n (dt_X_lend 34 _ _ _ rfl) rfl ?_
        refine s_getR (c := 0) (j := 4) (o := (some 34)) (dt_X_lend 35 _ _ _ rfl) (kf_X_34) (sc_0 hS) rfl rfl ?_
        refine s_iload_n (dt_X_lend 36 _ _ _ rfl) rfl ?_
        refine s_iload_n (dt_X_lend 37 _ _ _ rfl) rfl ?_
        refine s_iload_n (dt_X_lend 38 _ _ _ rfl) rfl ?_
        refine s_iload (dt_X_lend 39 _ _ _ rfl) rfl ?_
        refine s_callO (y := y_State_addLoan) (Y' := Y_State_addLoan) (as := [VR (some 34), VI a0, VI a1, VI a2, VI a3]) (r := fun q => some (VI q.1)) (M' := fun q => q.2) (kInvV (dt_X_lend 40 _ _ _ rfl) kin_State_addLoan 10 rfl (sc_34 hS) kse_State_addLoan rfl) kl_X_241 md_State_addLoan rfl rfl (fun q hq => c_State_addLoan hS a0 a1 a2 a3 q3 q hq) (fun q4 => ?_)
        refine s_istore (dt_X_lend 41 _ _ _ rfl) rfl ?_
        refine s_aload_n (dt_X_lend 42 _ _ _ rfl) rfl ?_
        refine s_getR (c := 0) (j := 5) (o := (some 41)) (dt_X_lend 43 _ _ _ rfl) (kf_X_41) (sc_0 hS) rfl rfl ?_
        refine s_aload_n (dt_X_lend 44 _ _ _ rfl) rfl ?_
        refine s_getR (c := 0) (j := 4) (o := (some 34)) (dt_X_lend 45 _ _ _ rfl) (kf_X_34) (sc_0 hS) rfl rfl ?_
        refine s_callO (y := y_History_add) (Y' := Y_History_add) (as := [VR (some 41), VR (some 34)]) (r := fun q => none) (M' := fun q => q) (kInvV (dt_X_lend 46 _ _ _ rfl) kin_History_add 6 rfl (sc_41 hS) kse_History_add rfl) kl_X_235 md_History_add rfl rfl (fun q hq => c_History_add hS q4.2 q hq) (fun q5 => ?_)
        refine s_iload (dt_X_lend 47 _ _ _ rfl) rfl ?_
        exact s_iret (dt_X_lend 48 _ _ _ rfl) rfl rfl
    · refine s_iconst (dt_X_lend 26 _ _ _ rfl) rfl ?_
      exact s_iret (dt_X_lend 27 _ _ _ rfl) rfl rfl
theorem c_X_lend {S : KS} (hS : KExt 382 S)  (a0 : Int) (a1 : Int) (a2 : Int) (a3 : Int) (M : KM) : ∀ q, f_X_lend a0 a1 a2 a3 M = some q → Ctr y_X_lend Y_X_lend [VR (some 0), VI a0, VI a1, VI a2, VI a3] S M (some (VI q.1)) S (q.2) := fun q hq =>
  ctr_of md_X_lend (Nat.le_of_ble_eq_true rfl) ⟨Nat.le_refl _, Nat.le_refl _⟩ 2 hq rfl (fun _ G => sim_X_lend hS  a0 a1 a2 a3 M)
set_option maxRecDepth 100000 in
theorem sim_State_returnYears {G : Gam} {S : KS} (hS : KExt 382 S)  (a0 : Int) (a1 : Int) (a2 : Int) (a3 : Int) (a4 : Int) (M : KM) : Sim G Y_State_returnYears (f_State_returnYears a0 a1 a2 a3 a4 M) (kC 0 [some (VR (some 34)), some (VI a0), some (VI a1), some (VI a2), some (VI a3), some (VI a4)] [] S M) (fun (q : KM) => Sum.inr (none, S, q)) := by
  unfold f_State_returnYears
  refine s_aload_n (dt_State_returnYears 0 _ _ _ rfl) rfl ?_
  refine s_getI (c := 10) (j := 3) (dt_State_returnYears 1 _ _ _ rfl) (kf_State_43) (sc_34 hS) rfl ?_
  refine s_iload_n (dt_State_returnYears 2 _ _ _ rfl) rfl ?_
  refine s_inv (y := y_X_isIn) (Y' := Y_X_isIn) (as := [VI (M 34 3), VI a0]) (r := some (VI (isInV (M 34 3) a0))) (M' := M) (kInvS (dt_State_returnYears 3 _ _ _ rfl) kst_X_isIn rfl) kl_State_72 md_X_isIn rfl rfl (c_X_isIn hS (M 34 3) a0 M) ?_
  refine s_if_eq (tgt := 22) (dt_State_returnYears 4 _ _ _ rfl) rfl ?_ ?_
  · exact s_vret (dt_State_returnYears 10 _ _ _ rfl) rfl rfl
  · refine s_aload_n (dt_State_returnYears 5 _ _ _ rfl) rfl ?_
    refine s_getI (c := 10) (j := 3) (dt_State_returnYears 6 _ _ _ rfl) (kf_State_43) (sc_34 hS) rfl ?_
    refine s_iload_n (dt_State_returnYears 7 _ _ _ rfl) rfl ?_
    refine s_inv (y := y_X_isIn) (Y' := Y_X_isIn) (as := [VI (M 34 3), VI a1]) (r := some (VI (isInV (M 34 3) a1))) (M' := M) (kInvS (dt_State_returnYears 8 _ _ _ rfl) kst_X_isIn rfl) kl_State_72 md_X_isIn rfl rfl (c_X_isIn hS (M 34 3) a1 M) ?_
    refine s_if_ne (tgt := 23) (dt_State_returnYears 9 _ _ _ rfl) rfl ?_ ?_
    · exact s_vret (dt_State_returnYears 10 _ _ _ rfl) rfl rfl
    · refine s_aload_n (dt_State_returnYears 11 _ _ _ rfl) rfl ?_
      refine s_iload_n (dt_State_returnYears 12 _ _ _ rfl) rfl ?_
      refine s_iload_n (dt_State_returnYears 13 _ _ _ rfl) rfl ?_
      refine s_iload_n (dt_State_returnYears 14 _ _ _ rfl) rfl ?_
      refine s_iload (dt_State_returnYears 15 _ _ _ rfl) rfl ?_
      refine s_iload (dt_State_returnYears 16 _ _ _ rfl) rfl ?_
      refine s_callO (y := y_State_canMove) (Y' := Y_State_canMove) (as := [VR (some 34), VI a0, VI a1, VI a2, VI a3, VI a4]) (r := fun q => some (VI q)) (M' := fun q => M) (kInvV (dt_State_returnYears 17 _ _ _ rfl) kin_State_canMove 10 rfl (sc_34 hS) kse_State_canMove rfl) kl_State_86 md_State_canMove rfl rfl (fun q hq => c_State_canMove hS a0 a1 a2 a3 a4 M q hq) (fun q1 => ?_)
      refine s_bd (κ := fun t4 => kC 57 [none, none, none, none, none, none] [] S t4) ?_ (fun t4 => ?_)
      · refine s_if_eq (tgt := 47) (dt_State_returnYears 18 _ _ _ rfl) rfl ?_ ?_
        · refine s_aload_n (dt_State_returnYears 25 _ _ _ rfl) rfl ?_
          refine s_dup (dt_State_returnYears 26 _ _ _ rfl) rfl ?_
          refine s_getI (c := 10) (j := 7) (dt_State_returnYears 27 _ _ _ rfl) (kf_State_58) (sc_34 hS) rfl ?_
          refine s_iconst (dt_State_returnYears 28 _ _ _ rfl) rfl ?_
          refine s_iadd (dt_State_returnYears 29 _ _ _ rfl) ?_
          refine s_putI (c := 10) (j := 7) (dt_State_returnYears 30 _ _ _ rfl) kp_State_58 (sc_34 hS) ⟨rfl, rfl⟩ ?_
          refine s_letM (fun M2 => ?_)
          exact s_mask [false, false, false, false, false, false] (s_ret0 rfl)
        · refine s_aload_n (dt_State_returnYears 19 _ _ _ rfl) rfl ?_
          refine s_iload_n (dt_State_returnYears 20 _ _ _ rfl) rfl ?_
          refine s_iload_n (dt_State_returnYears 21 _ _ _ rfl) rfl ?_
          refine s_iload_n (dt_State_returnYears 22 _ _ _ rfl) rfl ?_
          refine s_callO (y := y_State_moveYears) (Y' := Y_State_moveYears) (as := [VR (some 34), VI a0, VI a1, VI a2]) (r := fun q => none) (M' := fun q => q) (kInvV (dt_State_returnYears 23 _ _ _ rfl) kin_State_moveYears 10 rfl (sc_34 hS) kse_State_moveYears rfl) kl_State_90 md_State_moveYears rfl rfl (fun q hq => c_State_moveYears hS a0 a1 a2 M q hq) (fun q3 => ?_)
          refine s_goto (tgt := 57) (dt_State_returnYears 24 _ _ _ rfl) rfl ?_
          exact s_mask [false, false, false, false, false, false] (s_ret0 rfl)
      exact s_vret (dt_State_returnYears 31 _ _ _ rfl) rfl rfl
theorem c_State_returnYears {S : KS} (hS : KExt 382 S)  (a0 : Int) (a1 : Int) (a2 : Int) (a3 : Int) (a4 : Int) (M : KM) : ∀ q, f_State_returnYears a0 a1 a2 a3 a4 M = some q → Ctr y_State_returnYears Y_State_returnYears [VR (some 34), VI a0, VI a1, VI a2, VI a3, VI a4] S M (none) S (q) := fun q hq =>
  ctr_of md_State_returnYears (Nat.le_of_ble_eq_true rfl) ⟨Nat.le_refl _, Nat.le_refl _⟩ 0 hq rfl (fun _ G => sim_State_returnYears hS  a0 a1 a2 a3 a4 M)
set_option maxRecDepth 100000 in
theorem sim_State_bringBack {G : Gam} {S : KS} (hS : KExt 382 S)  (a0 : Int) (a1 : Int) (M : KM) : Sim G Y_State_bringBack (f_State_bringBack a0 a1 M) (kC 0 [some (VR (some 34)), some (VI a0), some (VI a1), none] [] S M) (fun (q : KM) => Sum.inr (none, S, q)) := by
  unfold f_State_bringBack
  refine s_iconst (dt_State_bringBack 0 _ _ _ rfl) rfl ?_
  refine s_istore_n (dt_State_bringBack 1 _ _ _ rfl) rfl ?_
  refine s_bd (κ := (fun (e5 : KM) => kC 84 [none, none, none, none] [] S e5)) (s_mask [true, true, true, true] (s_while (c := fun s1 => kC 2 [some (VR (some 34)), some (VI a0), some (VI a1), some (VI s1.1)] [] S s1.2) (fun s1 => ?_) ((0 : Int), M))) ?_
  · refine s_iload_n (dt_State_bringBack 2 _ _ _ rfl) rfl ?_
    refine s_aload_n (dt_State_bringBack 3 _ _ _ rfl) rfl ?_
    refine s_getI (c := 10) (j := 6) (dt_State_bringBack 4 _ _ _ rfl) (kf_State_55) (sc_34 hS) rfl ?_
    refine s_if_icmp_ge (tgt := 84) (dt_State_bringBack 5 _ _ _ rfl) rfl ?_ ?_
    · refine s_aload_n (dt_State_bringBack 6 _ _ _ rfl) rfl ?_
      refine s_getR (c := 10) (j := 12) (o := (some 40)) (dt_State_bringBack 7 _ _ _ rfl) (kf_State_27) (sc_34 hS) rfl rfl ?_
      refine s_iload_n (dt_State_bringBack 8 _ _ _ rfl) rfl ?_
      refine s_inv (y := y_X_at) (Y' := Y_X_at) (as := [VR (some 40), VI s1.1]) (r := some (VI (atM s1.2 40 30 s1.1))) (M' := s1.2) (kInvS (dt_State_bringBack 9 _ _ _ rfl) kst_X_at rfl) kl_State_64 md_X_at rfl rfl (c_X_at hS ⟨(sc_40 hS), by decide⟩ s1.1 s1.2) ?_
      refine s_aload_n (dt_State_bringBack 10 _ _ _ rfl) rfl ?_
      refine s_getI (c := 10) (j := 4) (dt_State_bringBack 11 _ _ _ rfl) (kf_State_46) (sc_34 hS) rfl ?_
      refine s_bd (κ := fun t4 => kC 78 [some (VR (some 34)), some (VI a0), some (VI a1), some (VI s1.1)] [] S t4) ?_ (fun t4 => ?_)
      · refine s_if_icmp_ne (tgt := 78) (dt_State_bringBack 12 _ _ _ rfl) rfl ?_ ?_
        · refine s_aload_n (dt_State_bringBack 13 _ _ _ rfl) rfl ?_
          refine s_getI (c := 10) (j := 8) (dt_State_bringBack 14 _ _ _ rfl) (kf_State_61) (sc_34 hS) rfl ?_
          refine s_iload_n (dt_State_bringBack 15 _ _ _ rfl) rfl ?_
          refine s_inv (y := y_X_isIn) (Y' := Y_X_isIn) (as := [VI (s1.2 34 8), VI s1.1]) (r := some (VI (isInV (s1.2 34 8) s1.1))) (M' := s1.2) (kInvS (dt_State_bringBack 16 _ _ _ rfl) kst_X_isIn rfl) kl_State_72 md_X_isIn rfl rfl (c_X_isIn hS (s1.2 34 8) s1.1 s1.2) ?_
          refine s_if_ne (tgt := 78) (dt_State_bringBack 17 _ _ _ rfl) rfl ?_ ?_
          · refine s_aload_n (dt_State_bringBack 18 _ _ _ rfl) rfl ?_
            refine s_dup (dt_State_bringBack 19 _ _ _ rfl) rfl ?_
            refine s_getI (c := 10) (j := 8) (dt_State_bringBack 20 _ _ _ rfl) (kf_State_61) (sc_34 hS) rfl ?_
            refine s_iconst (dt_State_bringBack 21 _ _ _ rfl) rfl ?_
            refine s_iload_n (dt_State_bringBack 22 _ _ _ rfl) rfl ?_
            refine s_ishl (dt_State_bringBack 23 _ _ _ rfl) ?_
            refine s_ior (dt_State_bringBack 24 _ _ _ rfl) ?_
            refine s_putI (c := 10) (j := 8) (dt_State_bringBack 25 _ _ _ rfl) kp_State_61 (sc_34 hS) ⟨rfl, rfl⟩ ?_
            refine s_letM (fun M2 => ?_)
            refine s_aload_n (dt_State_bringBack 26 _ _ _ rfl) rfl ?_
            refine s_aload_n (dt_State_bringBack 27 _ _ _ rfl) rfl ?_
            refine s_getR (c := 10) (j := 10) (o := (some 38)) (dt_State_bringBack 28 _ _ _ rfl) (kf_State_21) (sc_34 hS) rfl rfl ?_
            refine s_iload_n (dt_State_bringBack 29 _ _ _ rfl) rfl ?_
            refine s_inv (y := y_X_at) (Y' := Y_X_at) (as := [VR (some 38), VI s1.1]) (r := some (VI (atM M2 38 30 s1.1))) (M' := M2) (kInvS (dt_State_bringBack 30 _ _ _ rfl) kst_X_at rfl) kl_State_64 md_X_at rfl rfl (c_X_at hS ⟨(sc_38 hS), by decide⟩ s1.1 M2) ?_
            refine s_aload_n (dt_State_bringBack 31 _ _ _ rfl) rfl ?_
            refine s_getR (c := 10) (j := 9) (o := (some 37)) (dt_State_bringBack 32 _ _ _ rfl) (kf_State_18) (sc_34 hS) rfl rfl ?_
            refine s_iload_n (dt_State_bringBack 33 _ _ _ rfl) rfl ?_
            refine s_inv (y := y_X_at) (Y' := Y_X_at) (as := [VR (some 37), VI s1.1]) (r := some (VI (atM M2 37 30 s1.1))) (M' := M2) (kInvS (dt_State_bringBack 34 _ _ _ rfl) kst_X_at rfl) kl_State_64 md_X_at rfl rfl (c_X_at hS ⟨(sc_37 hS), by decide⟩ s1.1 M2) ?_
            refine s_aload_n (dt_State_bringBack 35 _ _ _ rfl) rfl ?_
            refine s_getR (c := 10) (j := 11) (o := (some 39)) (dt_State_bringBack 36 _ _ _ rfl) (kf_State_24) (sc_34 hS) rfl rfl ?_
            refine s_iload_n (dt_State_bringBack 37 _ _ _ rfl) rfl ?_
            refine s_inv (y := y_X_at) (Y' := Y_X_at) (as := [VR (some 39), VI s1.1]) (r := some (VI (atM M2 39 30 s1.1))) (M' := M2) (kInvS (dt_State_bringBack 38 _ _ _ rfl) kst_X_at rfl) kl_State_64 md_X_at rfl rfl (c_X_at hS ⟨(sc_39 hS), by decide⟩ s1.1 M2) ?_
            refine s_iload_n (dt_State_bringBack 39 _ _ _ rfl) rfl ?_
            refine s_iload_n (dt_State_bringBack 40 _ _ _ rfl) rfl ?_
            refine s_callO (y := y_State_returnYears) (Y' := Y_State_returnYears) (as := [VR (some 34), VI (atM M2 38 30 s1.1), VI (atM M2 37 30 s1.1), VI (atM M2 39 30 s1.1), VI a0, VI a1]) (r := fun q => none) (M' := fun q => q) (kInvV (dt_State_bringBack 41 _ _ _ rfl) kin_State_returnYears 10 rfl (sc_34 hS) kse_State_returnYears rfl) kl_State_82 md_State_returnYears rfl rfl (fun q hq => c_State_returnYears hS (atM M2 38 30 s1.1) (atM M2 37 30 s1.1) (atM M2 39 30 s1.1) a0 a1 M2 q hq) (fun q3 => ?_)
            exact s_mask [true, true, true, true] (s_ret0 rfl)
          · exact s_mask [true, true, true, true] (s_ret0 rfl)
        · exact s_mask [true, true, true, true] (s_ret0 rfl)
      refine s_iinc (dt_State_bringBack 42 _ _ _ rfl) rfl rfl ?_
      refine s_goto (tgt := 2) (dt_State_bringBack 43 _ _ _ rfl) rfl ?_
      exact s_mask [true, true, true, true] (s_ret0 rfl)
    · exact s_mask [false, false, false, false] (s_ret0 rfl)
  intro e5
  exact s_vret (dt_State_bringBack 44 _ _ _ rfl) rfl rfl
theorem c_State_bringBack {S : KS} (hS : KExt 382 S)  (a0 : Int) (a1 : Int) (M : KM) : ∀ q, f_State_bringBack a0 a1 M = some q → Ctr y_State_bringBack Y_State_bringBack [VR (some 34), VI a0, VI a1] S M (none) S (q) := fun q hq =>
  ctr_of md_State_bringBack (Nat.le_of_ble_eq_true rfl) ⟨Nat.le_refl _, Nat.le_refl _⟩ 1 hq rfl (fun _ G => sim_State_bringBack hS  a0 a1 M)
set_option maxRecDepth 100000 in
theorem sim_State_growOlder {G : Gam} {S : KS} (hS : KExt 382 S)  (a0 : Int) (M : KM) : Sim G Y_State_growOlder (f_State_growOlder a0 M) (kC 0 [some (VR (some 34)), some (VI a0), none] [] S M) (fun (q : KM) => Sum.inr (none, S, q)) := by
  unfold f_State_growOlder
  refine s_iconst (dt_State_growOlder 0 _ _ _ rfl) rfl ?_
  refine s_istore_n (dt_State_growOlder 1 _ _ _ rfl) rfl ?_
  refine s_bd (κ := (fun (e4 : KM) => kC 49 [none, none, none] [] S e4)) (s_mask [true, true, true] (s_while (c := fun s1 => kC 2 [some (VR (some 34)), some (VI a0), some (VI s1.1)] [] S s1.2) (fun s1 => ?_) ((0 : Int), M))) ?_
  · refine s_iload_n (dt_State_growOlder 2 _ _ _ rfl) rfl ?_
    refine s_aload_n (dt_State_growOlder 3 _ _ _ rfl) rfl ?_
    refine s_getI (c := 10) (j := 2) (dt_State_growOlder 4 _ _ _ rfl) (kf_State_42) (sc_34 hS) rfl ?_
    refine s_if_icmp_ge (tgt := 49) (dt_State_growOlder 5 _ _ _ rfl) rfl ?_ ?_
    · refine s_aload_n (dt_State_growOlder 6 _ _ _ rfl) rfl ?_
      refine s_getI (c := 10) (j := 3) (dt_State_growOlder 7 _ _ _ rfl) (kf_State_43) (sc_34 hS) rfl ?_
      refine s_iload_n (dt_State_growOlder 8 _ _ _ rfl) rfl ?_
      refine s_inv (y := y_X_isIn) (Y' := Y_X_isIn) (as := [VI (s1.2 34 3), VI s1.1]) (r := some (VI (isInV (s1.2 34 3) s1.1))) (M' := s1.2) (kInvS (dt_State_growOlder 9 _ _ _ rfl) kst_X_isIn rfl) kl_State_72 md_X_isIn rfl rfl (c_X_isIn hS (s1.2 34 3) s1.1 s1.2) ?_
      refine s_bd (κ := fun t3 => kC 43 [some (VR (some 34)), some (VI a0), some (VI s1.1)] [] S t3) ?_ (fun t3 => ?_)
      · refine s_if_eq (tgt := 43) (dt_State_growOlder 10 _ _ _ rfl) rfl ?_ ?_
        · exact s_mask [true, true, true] (s_ret0 rfl)
        · refine s_aload_n (dt_State_growOlder 11 _ _ _ rfl) rfl ?_
          refine s_getR (c := 10) (j := 0) (o := (some 35)) (dt_State_growOlder 12 _ _ _ rfl) (kf_State_9) (sc_34 hS) rfl rfl ?_
          refine s_iload_n (dt_State_growOlder 13 _ _ _ rfl) rfl ?_
          refine s_iload_n (dt_State_growOlder 14 _ _ _ rfl) rfl ?_
          refine s_aload_n (dt_State_growOlder 15 _ _ _ rfl) rfl ?_
          refine s_getR (c := 10) (j := 0) (o := (some 35)) (dt_State_growOlder 16 _ _ _ rfl) (kf_State_9) (sc_34 hS) rfl rfl ?_
          refine s_iload_n (dt_State_growOlder 17 _ _ _ rfl) rfl ?_
          refine s_inv (y := y_X_at) (Y' := Y_X_at) (as := [VR (some 35), VI s1.1]) (r := some (VI (atM s1.2 35 8 s1.1))) (M' := s1.2) (kInvS (dt_State_growOlder 18 _ _ _ rfl) kst_X_at rfl) kl_State_64 md_X_at rfl rfl (c_X_at hS ⟨(sc_35 hS), by decide⟩ s1.1 s1.2) ?_
          refine s_iconst (dt_State_growOlder 19 _ _ _ rfl) rfl ?_
          refine s_iadd (dt_State_growOlder 20 _ _ _ rfl) ?_
          refine s_mmin (dt_State_growOlder 21 _ _ _ rfl) kj_State_76 rfl ?_
          refine s_inv (y := y_X_put) (Y' := Y_X_put) (as := [VR (some 35), VI s1.1, VI (min a0 (w32 ((atM s1.2 35 8 s1.1) + (1 : Int))))]) (r := none) (M' := (putM s1.2 35 8 s1.1 (min a0 (w32 ((atM s1.2 35 8 s1.1) + (1 : Int)))))) (kInvS (dt_State_growOlder 22 _ _ _ rfl) kst_X_put rfl) kl_State_68 md_X_put rfl rfl (c_X_put hS ⟨(sc_35 hS), by decide⟩ s1.1 (min a0 (w32 ((atM s1.2 35 8 s1.1) + (1 : Int)))) s1.2) ?_
          refine s_letM (fun M2 => ?_)
          exact s_mask [true, true, true] (s_ret0 rfl)
      refine s_iinc (dt_State_growOlder 23 _ _ _ rfl) rfl rfl ?_
      refine s_goto (tgt := 2) (dt_State_growOlder 24 _ _ _ rfl) rfl ?_
      exact s_mask [true, true, true] (s_ret0 rfl)
    · exact s_mask [false, false, false] (s_ret0 rfl)
  intro e4
  exact s_vret (dt_State_growOlder 25 _ _ _ rfl) rfl rfl
theorem c_State_growOlder {S : KS} (hS : KExt 382 S)  (a0 : Int) (M : KM) : ∀ q, f_State_growOlder a0 M = some q → Ctr y_State_growOlder Y_State_growOlder [VR (some 34), VI a0] S M (none) S (q) := fun q hq =>
  ctr_of md_State_growOlder (Nat.le_of_ble_eq_true rfl) ⟨Nat.le_refl _, Nat.le_refl _⟩ 1 hq rfl (fun _ G => sim_State_growOlder hS  a0 M)
set_option maxRecDepth 100000 in
theorem sim_X_drawDeaths {G : Gam} {S : KS} (hS : KExt 382 S)   (M : KM) : Sim G Y_X_drawDeaths (f_X_drawDeaths  M) (kC 0 [some (VR (some 0)), none, none] [] S M) (fun (q : Int × KM) => Sum.inr (some (VI q.1), S, q.2)) := by
  unfold f_X_drawDeaths
  refine s_iconst (dt_X_drawDeaths 0 _ _ _ rfl) rfl ?_
  refine s_istore_n (dt_X_drawDeaths 1 _ _ _ rfl) rfl ?_
  refine s_iconst (dt_X_drawDeaths 2 _ _ _ rfl) rfl ?_
  refine s_istore_n (dt_X_drawDeaths 3 _ _ _ rfl) rfl ?_
  refine s_bd (κ := (fun (e7 : Int × KM) => kC 102 [none, some (VI e7.1), none] [] S e7.2)) (s_mask [true, true, true] (s_while (c := fun s1 => kC 4 [some (VR (some 0)), some (VI s1.1), some (VI s1.2.1)] [] S s1.2.2) (fun s1 => ?_) ((0 : Int), (0 : Int), M))) ?_
  · refine s_iload_n (dt_X_drawDeaths 4 _ _ _ rfl) rfl ?_
    refine s_aload_n (dt_X_drawDeaths 5 _ _ _ rfl) rfl ?_
    refine s_getR (c := 0) (j := 2) (o := (some 2)) (dt_X_drawDeaths 6 _ _ _ rfl) (kf_X_20) (sc_0 hS) rfl rfl ?_
    refine s_getI (c := 12) (j := 0) (dt_X_drawDeaths 7 _ _ _ rfl) (kf_X_124) (sc_2 hS) rfl ?_
    refine s_if_icmp_ge (tgt := 102) (dt_X_drawDeaths 8 _ _ _ rfl) rfl ?_ ?_
    · refine s_aload_n (dt_X_drawDeaths 9 _ _ _ rfl) rfl ?_
      refine s_iload_n (dt_X_drawDeaths 10 _ _ _ rfl) rfl ?_
      refine s_callO (y := y_X_isAlive) (Y' := Y_X_isAlive) (as := [VR (some 0), VI s1.2.1]) (r := fun q => some (VI q)) (M' := fun q => s1.2.2) (kInvV (dt_X_drawDeaths 11 _ _ _ rfl) kin_X_isAlive 0 rfl (sc_0 hS) kse_X_isAlive rfl) kl_X_147 md_X_isAlive rfl rfl (fun q hq => c_X_isAlive hS s1.2.1 s1.2.2 q hq) (fun q2 => ?_)
      refine s_bd (κ := fun t6 => kC 96 [some (VR (some 0)), some (VI t6.1), some (VI s1.2.1)] [] S t6.2) ?_ (fun t6 => ?_)
      · refine s_if_eq (tgt := 96) (dt_X_drawDeaths 12 _ _ _ rfl) rfl ?_ ?_
        · exact s_mask [true, true, true] (s_ret0 rfl)
        · refine s_aload_n (dt_X_drawDeaths 13 _ _ _ rfl) rfl ?_
          refine s_getR (c := 0) (j := 4) (o := (some 34)) (dt_X_drawDeaths 14 _ _ _ rfl) (kf_X_34) (sc_0 hS) rfl rfl ?_
          refine s_aload_n (dt_X_drawDeaths 15 _ _ _ rfl) rfl ?_
          refine s_getR (c := 0) (j := 4) (o := (some 34)) (dt_X_drawDeaths 16 _ _ _ rfl) (kf_X_34) (sc_0 hS) rfl rfl ?_
          refine s_getI (c := 10) (j := 5) (dt_X_drawDeaths 17 _ _ _ rfl) (kf_X_263) (sc_34 hS) rfl ?_
          refine s_sipush (dt_X_drawDeaths 18 _ _ _ rfl) rfl ?_
          refine s_imul (dt_X_drawDeaths 19 _ _ _ rfl) ?_
          refine s_bipush (dt_X_drawDeaths 20 _ _ _ rfl) rfl ?_
          refine s_iadd (dt_X_drawDeaths 21 _ _ _ rfl) ?_
          refine s_sipush (dt_X_drawDeaths 22 _ _ _ rfl) rfl ?_
          refine s_irem (dt_X_drawDeaths 23 _ _ _ rfl) ?_
          refine s_putI (c := 10) (j := 5) (dt_X_drawDeaths 24 _ _ _ rfl) kp_X_263 (sc_34 hS) ⟨rfl, rfl⟩ ?_
          refine s_letM (fun M3 => ?_)
          refine s_aload_n (dt_X_drawDeaths 25 _ _ _ rfl) rfl ?_
          refine s_getR (c := 0) (j := 4) (o := (some 34)) (dt_X_drawDeaths 26 _ _ _ rfl) (kf_X_34) (sc_0 hS) rfl rfl ?_
          refine s_getI (c := 10) (j := 5) (dt_X_drawDeaths 27 _ _ _ rfl) (kf_X_263) (sc_34 hS) rfl ?_
          refine s_bipush (dt_X_drawDeaths 28 _ _ _ rfl) rfl ?_
          refine s_idiv (dt_X_drawDeaths 29 _ _ _ rfl) ?_
          refine s_aload_n (dt_X_drawDeaths 30 _ _ _ rfl) rfl ?_
          refine s_aload_n (dt_X_drawDeaths 31 _ _ _ rfl) rfl ?_
          refine s_getR (c := 0) (j := 4) (o := (some 34)) (dt_X_drawDeaths 32 _ _ _ rfl) (kf_X_34) (sc_0 hS) rfl rfl ?_
          refine s_getR (c := 10) (j := 0) (o := (some 35)) (dt_X_drawDeaths 33 _ _ _ rfl) (kf_X_137) (sc_34 hS) rfl rfl ?_
          refine s_iload_n (dt_X_drawDeaths 34 _ _ _ rfl) rfl ?_
          refine s_inv (y := y_X_at) (Y' := Y_X_at) (as := [VR (some 35), VI s1.2.1]) (r := some (VI (atM M3 35 8 s1.2.1))) (M' := M3) (kInvS (dt_X_drawDeaths 35 _ _ _ rfl) kst_X_at rfl) kl_X_140 md_X_at rfl rfl (c_X_at hS ⟨(sc_35 hS), by decide⟩ s1.2.1 M3) ?_
          refine s_callO (y := y_X_oddsAt) (Y' := Y_X_oddsAt) (as := [VR (some 0), VI (atM M3 35 8 s1.2.1)]) (r := fun q => some (VI q.1)) (M' := fun q => q.2) (kInvV (dt_X_drawDeaths 36 _ _ _ rfl) kin_X_oddsAt 0 rfl (sc_0 hS) kse_X_oddsAt rfl) kl_X_166 md_X_oddsAt rfl rfl (fun q hq => c_X_oddsAt hS (atM M3 35 8 s1.2.1) M3 q hq) (fun q4 => ?_)
          refine s_if_icmp_ge (tgt := 96) (dt_X_drawDeaths 37 _ _ _ rfl) rfl ?_ ?_
          · refine s_aload_n (dt_X_drawDeaths 38 _ _ _ rfl) rfl ?_
            refine s_getR (c := 0) (j := 4) (o := (some 34)) (dt_X_drawDeaths 39 _ _ _ rfl) (kf_X_34) (sc_0 hS) rfl rfl ?_
            refine s_dup (dt_X_drawDeaths 40 _ _ _ rfl) rfl ?_
            refine s_getI (c := 10) (j := 3) (dt_X_drawDeaths 41 _ _ _ rfl) (kf_X_183) (sc_34 hS) rfl ?_
            refine s_iconst (dt_X_drawDeaths 42 _ _ _ rfl) rfl ?_
            refine s_iload_n (dt_X_drawDeaths 43 _ _ _ rfl) rfl ?_
            refine s_ishl (dt_X_drawDeaths 44 _ _ _ rfl) ?_
            refine s_iconst (dt_X_drawDeaths 45 _ _ _ rfl) rfl ?_
            refine s_ixor (dt_X_drawDeaths 46 _ _ _ rfl) ?_
            refine s_iand (dt_X_drawDeaths 47 _ _ _ rfl) ?_
            refine s_putI (c := 10) (j := 3) (dt_X_drawDeaths 48 _ _ _ rfl) kp_X_183 (sc_34 hS) ⟨rfl, rfl⟩ ?_
            refine s_letM (fun M5 => ?_)
            refine s_iinc (dt_X_drawDeaths 49 _ _ _ rfl) rfl rfl ?_
            exact s_mask [true, true, true] (s_ret0 rfl)
          · exact s_mask [true, true, true] (s_ret0 rfl)
      refine s_iinc (dt_X_drawDeaths 50 _ _ _ rfl) rfl rfl ?_
      refine s_goto (tgt := 4) (dt_X_drawDeaths 51 _ _ _ rfl) rfl ?_
      exact s_mask [true, true, true] (s_ret0 rfl)
    · exact s_mask [false, true, false] (s_ret0 rfl)
  intro e7
  refine s_iload_n (dt_X_drawDeaths 52 _ _ _ rfl) rfl ?_
  exact s_iret (dt_X_drawDeaths 53 _ _ _ rfl) rfl rfl
theorem c_X_drawDeaths {S : KS} (hS : KExt 382 S)   (M : KM) : ∀ q, f_X_drawDeaths  M = some q → Ctr y_X_drawDeaths Y_X_drawDeaths [VR (some 0)] S M (some (VI q.1)) S (q.2) := fun q hq =>
  ctr_of md_X_drawDeaths (Nat.le_of_ble_eq_true rfl) ⟨Nat.le_refl _, Nat.le_refl _⟩ 2 hq rfl (fun _ G => sim_X_drawDeaths hS   M)
set_option maxRecDepth 100000 in
theorem sim_X_year {G : Gam} {S : KS} (hS : KExt 382 S)   (M : KM) : Sim G Y_X_year (f_X_year  M) (kC 0 [some (VR (some 0)), none] [] S M) (fun (q : Int × KM) => Sum.inr (some (VI q.1), S, q.2)) := by
  unfold f_X_year
  refine s_aload_n (dt_X_year 0 _ _ _ rfl) rfl ?_
  refine s_getR (c := 0) (j := 4) (o := (some 34)) (dt_X_year 1 _ _ _ rfl) (kf_X_34) (sc_0 hS) rfl rfl ?_
  refine s_getI (c := 10) (j := 4) (dt_X_year 2 _ _ _ rfl) (kf_X_200) (sc_34 hS) rfl ?_
  refine s_sipush (dt_X_year 3 _ _ _ rfl) rfl ?_
  refine s_if_icmp_lt (tgt := 15) (dt_X_year 4 _ _ _ rfl) rfl ?_ ?_
  · refine s_aload_n (dt_X_year 7 _ _ _ rfl) rfl ?_
    refine s_getR (c := 0) (j := 4) (o := (some 34)) (dt_X_year 8 _ _ _ rfl) (kf_X_34) (sc_0 hS) rfl rfl ?_
    refine s_dup (dt_X_year 9 _ _ _ rfl) rfl ?_
    refine s_getI (c := 10) (j := 4) (dt_X_year 10 _ _ _ rfl) (kf_X_200) (sc_34 hS) rfl ?_
    refine s_iconst (dt_X_year 11 _ _ _ rfl) rfl ?_
    refine s_iadd (dt_X_year 12 _ _ _ rfl) ?_
    refine s_putI (c := 10) (j := 4) (dt_X_year 13 _ _ _ rfl) kp_X_200 (sc_34 hS) ⟨rfl, rfl⟩ ?_
    refine s_letM (fun M1 => ?_)
    refine s_aload_n (dt_X_year 14 _ _ _ rfl) rfl ?_
    refine s_getR (c := 0) (j := 4) (o := (some 34)) (dt_X_year 15 _ _ _ rfl) (kf_X_34) (sc_0 hS) rfl rfl ?_
    refine s_aload_n (dt_X_year 16 _ _ _ rfl) rfl ?_
    refine s_getR (c := 0) (j := 2) (o := (some 2)) (dt_X_year 17 _ _ _ rfl) (kf_X_20) (sc_0 hS) rfl rfl ?_
    refine s_getI (c := 12) (j := 13) (dt_X_year 18 _ _ _ rfl) (kf_X_180) (sc_2 hS) rfl ?_
    refine s_callO (y := y_State_growOlder) (Y' := Y_State_growOlder) (as := [VR (some 34), VI (M1 2 13)]) (r := fun q => none) (M' := fun q => q) (kInvV (dt_X_year 19 _ _ _ rfl) kin_State_growOlder 10 rfl (sc_34 hS) kse_State_growOlder rfl) kl_X_252 md_State_growOlder rfl rfl (fun q hq => c_State_growOlder hS (M1 2 13) M1 q hq) (fun q2 => ?_)
    refine s_aload_n (dt_X_year 20 _ _ _ rfl) rfl ?_
    refine s_getR (c := 0) (j := 4) (o := (some 34)) (dt_X_year 21 _ _ _ rfl) (kf_X_34) (sc_0 hS) rfl rfl ?_
    refine s_aload_n (dt_X_year 22 _ _ _ rfl) rfl ?_
    refine s_getR (c := 0) (j := 2) (o := (some 2)) (dt_X_year 23 _ _ _ rfl) (kf_X_20) (sc_0 hS) rfl rfl ?_
    refine s_getI (c := 12) (j := 12) (dt_X_year 24 _ _ _ rfl) (kf_X_177) (sc_2 hS) rfl ?_
    refine s_aload_n (dt_X_year 25 _ _ _ rfl) rfl ?_
    refine s_getR (c := 0) (j := 2) (o := (some 2)) (dt_X_year 26 _ _ _ rfl) (kf_X_20) (sc_0 hS) rfl rfl ?_
    refine s_getI (c := 12) (j := 13) (dt_X_year 27 _ _ _ rfl) (kf_X_180) (sc_2 hS) rfl ?_
    refine s_callO (y := y_State_bringBack) (Y' := Y_State_bringBack) (as := [VR (some 34), VI (q2 2 12), VI (q2 2 13)]) (r := fun q => none) (M' := fun q => q) (kInvV (dt_X_year 28 _ _ _ rfl) kin_State_bringBack 10 rfl (sc_34 hS) kse_State_bringBack rfl) kl_X_255 md_State_bringBack rfl rfl (fun q hq => c_State_bringBack hS (q2 2 12) (q2 2 13) q2 q hq) (fun q3 => ?_)
    refine s_aload_n (dt_X_year 29 _ _ _ rfl) rfl ?_
    refine s_callO (y := y_X_drawDeaths) (Y' := Y_X_drawDeaths) (as := [VR (some 0)]) (r := fun q => some (VI q.1)) (M' := fun q => q.2) (kInvV (dt_X_year 30 _ _ _ rfl) kin_X_drawDeaths 0 rfl (sc_0 hS) kse_X_drawDeaths rfl) kl_X_259 md_X_drawDeaths rfl rfl (fun q hq => c_X_drawDeaths hS q3 q hq) (fun q4 => ?_)
    refine s_istore_n (dt_X_year 31 _ _ _ rfl) rfl ?_
    refine s_aload_n (dt_X_year 32 _ _ _ rfl) rfl ?_
    refine s_getR (c := 0) (j := 5) (o := (some 41)) (dt_X_year 33 _ _ _ rfl) (kf_X_41) (sc_0 hS) rfl rfl ?_
    refine s_aload_n (dt_X_year 34 _ _ _ rfl) rfl ?_
    refine s_getR (c := 0) (j := 4) (o := (some 34)) (dt_X_year 35 _ _ _ rfl) (kf_X_34) (sc_0 hS) rfl rfl ?_
    refine s_callO (y := y_History_add) (Y' := Y_History_add) (as := [VR (some 41), VR (some 34)]) (r := fun q => none) (M' := fun q => q) (kInvV (dt_X_year 36 _ _ _ rfl) kin_History_add 6 rfl (sc_41 hS) kse_History_add rfl) kl_X_235 md_History_add rfl rfl (fun q hq => c_History_add hS q4.2 q hq) (fun q5 => ?_)
    refine s_iload_n (dt_X_year 37 _ _ _ rfl) rfl ?_
    exact s_iret (dt_X_year 38 _ _ _ rfl) rfl rfl
  · refine s_iconst (dt_X_year 5 _ _ _ rfl) rfl ?_
    exact s_iret (dt_X_year 6 _ _ _ rfl) rfl rfl
theorem c_X_year {S : KS} (hS : KExt 382 S)   (M : KM) : ∀ q, f_X_year  M = some q → Ctr y_X_year Y_X_year [VR (some 0)] S M (some (VI q.1)) S (q.2) := fun q hq =>
  ctr_of md_X_year (Nat.le_of_ble_eq_true rfl) ⟨Nat.le_refl _, Nat.le_refl _⟩ 1 hq rfl (fun _ G => sim_X_year hS   M)
set_option maxRecDepth 100000 in
theorem sim_History_goBack {G : Gam} {S : KS} (hS : KExt 382 S)   (M : KM) : Sim G Y_History_goBack (f_History_goBack  M) (kC 0 [some (VR (some 41)), some (VR (some 34))] [] S M) (fun (q : Int × KM) => Sum.inr (some (VI q.1), S, q.2)) := by
  unfold f_History_goBack
  refine s_aload_n (dt_History_goBack 0 _ _ _ rfl) rfl ?_
  refine s_getI (c := 6) (j := 2) (dt_History_goBack 1 _ _ _ rfl) (kf_History_21) (sc_41 hS) rfl ?_
  refine s_if_gt (tgt := 9) (dt_History_goBack 2 _ _ _ rfl) rfl ?_ ?_
  · refine s_iconst (dt_History_goBack 3 _ _ _ rfl) rfl ?_
    exact s_zret01 (dt_History_goBack 4 _ _ _ rfl) rfl rfl rfl
  · refine s_aload_n (dt_History_goBack 5 _ _ _ rfl) rfl ?_
    refine s_dup (dt_History_goBack 6 _ _ _ rfl) rfl ?_
    refine s_getI (c := 6) (j := 2) (dt_History_goBack 7 _ _ _ rfl) (kf_History_21) (sc_41 hS) rfl ?_
    refine s_iconst (dt_History_goBack 8 _ _ _ rfl) rfl ?_
    refine s_isub (dt_History_goBack 9 _ _ _ rfl) ?_
    refine s_putI (c := 6) (j := 2) (dt_History_goBack 10 _ _ _ rfl) kp_History_21 (sc_41 hS) ⟨rfl, rfl⟩ ?_
    refine s_letM (fun M1 => ?_)
    refine s_aload_n (dt_History_goBack 11 _ _ _ rfl) rfl ?_
    refine s_dup (dt_History_goBack 12 _ _ _ rfl) rfl ?_
    refine s_getI (c := 6) (j := 3) (dt_History_goBack 13 _ _ _ rfl) (kf_History_24) (sc_41 hS) rfl ?_
    refine s_iconst (dt_History_goBack 14 _ _ _ rfl) rfl ?_
    refine s_iadd (dt_History_goBack 15 _ _ _ rfl) ?_
    refine s_putI (c := 6) (j := 3) (dt_History_goBack 16 _ _ _ rfl) kp_History_24 (sc_41 hS) ⟨rfl, rfl⟩ ?_
    refine s_letM (fun M2 => ?_)
    refine s_aload_n (dt_History_goBack 17 _ _ _ rfl) rfl ?_
    refine s_aload_n (dt_History_goBack 18 _ _ _ rfl) rfl ?_
    refine s_getI (c := 6) (j := 2) (dt_History_goBack 19 _ _ _ rfl) (kf_History_21) (sc_41 hS) rfl ?_
    refine s_callO (y := y_History_stateAfter) (Y' := Y_History_stateAfter) (as := [VR (some 41), VI (M2 41 2)]) (r := fun q => some (VR (some q))) (M' := fun q => M2) (kInvV (dt_History_goBack 20 _ _ _ rfl) kin_History_stateAfter 6 rfl (sc_41 hS) kse_History_stateAfter rfl) kl_History_28 md_History_stateAfter rfl rfl (fun q hq => c_History_stateAfter hS (M2 41 2) M2 q hq) (fun q3 => ?_)
    refine s_aload_n (dt_History_goBack 21 _ _ _ rfl) rfl ?_
    refine s_if (fun h4 => ?_)
    refine s_callO (y := y_State_copy) (Y' := Y_State_copy) (as := [VR (some q3), VR (some 34)]) (r := fun q => none) (M' := fun q => q) (kInvS (dt_History_goBack 22 _ _ _ rfl) kst_State_copy rfl) kl_History_32 md_State_copy rfl rfl (fun q hq => c_State_copy hS (kSt_of hS h4) (kSt_of hS (by decide)) M2 q hq) (fun q5 => ?_)
    refine s_iconst (dt_History_goBack 23 _ _ _ rfl) rfl ?_
    exact s_zret01 (dt_History_goBack 24 _ _ _ rfl) rfl rfl rfl
theorem c_History_goBack {S : KS} (hS : KExt 382 S)   (M : KM) : ∀ q, f_History_goBack  M = some q → Ctr y_History_goBack Y_History_goBack [VR (some 41), VR (some 34)] S M (some (VI q.1)) S (q.2) := fun q hq =>
  ctr_of md_History_goBack (Nat.le_of_ble_eq_true rfl) ⟨Nat.le_refl _, Nat.le_refl _⟩ 0 hq rfl (fun _ G => sim_History_goBack hS   M)
set_option maxRecDepth 100000 in
theorem sim_X_undo {G : Gam} {S : KS} (hS : KExt 382 S)   (M : KM) : Sim G Y_X_undo (f_X_undo  M) (kC 0 [some (VR (some 0))] [] S M) (fun (q : Int × KM) => Sum.inr (some (VI q.1), S, q.2)) := by
  unfold f_X_undo
  refine s_aload_n (dt_X_undo 0 _ _ _ rfl) rfl ?_
  refine s_getR (c := 0) (j := 5) (o := (some 41)) (dt_X_undo 1 _ _ _ rfl) (kf_X_41) (sc_0 hS) rfl rfl ?_
  refine s_aload_n (dt_X_undo 2 _ _ _ rfl) rfl ?_
  refine s_getR (c := 0) (j := 4) (o := (some 34)) (dt_X_undo 3 _ _ _ rfl) (kf_X_34) (sc_0 hS) rfl rfl ?_
  refine s_callO (y := y_History_goBack) (Y' := Y_History_goBack) (as := [VR (some 41), VR (some 34)]) (r := fun q => some (VI q.1)) (M' := fun q => q.2) (kInvV (dt_X_undo 4 _ _ _ rfl) kin_History_goBack 6 rfl (sc_41 hS) kse_History_goBack rfl) kl_X_266 md_History_goBack rfl rfl (fun q hq => c_History_goBack hS M q hq) (fun q1 => ?_)
  exact s_zret (dt_X_undo 5 _ _ _ rfl) rfl rfl
theorem c_X_undo {S : KS} (hS : KExt 382 S)   (M : KM) : ∀ q, f_X_undo  M = some q → Ctr y_X_undo Y_X_undo [VR (some 0)] S M (some (VI q.1)) S (q.2) := fun q hq =>
  ctr_of md_X_undo (Nat.le_of_ble_eq_true rfl) ⟨Nat.le_refl _, Nat.le_refl _⟩ 0 hq rfl (fun _ G => sim_X_undo hS   M)
set_option maxRecDepth 100000 in
theorem sim_History_goOn {G : Gam} {S : KS} (hS : KExt 382 S)   (M : KM) : Sim G Y_History_goOn (f_History_goOn  M) (kC 0 [some (VR (some 41)), some (VR (some 34))] [] S M) (fun (q : Int × KM) => Sum.inr (some (VI q.1), S, q.2)) := by
  unfold f_History_goOn
  refine s_aload_n (dt_History_goOn 0 _ _ _ rfl) rfl ?_
  refine s_getI (c := 6) (j := 3) (dt_History_goOn 1 _ _ _ rfl) (kf_History_24) (sc_41 hS) rfl ?_
  refine s_if_gt (tgt := 9) (dt_History_goOn 2 _ _ _ rfl) rfl ?_ ?_
  · refine s_iconst (dt_History_goOn 3 _ _ _ rfl) rfl ?_
    exact s_zret01 (dt_History_goOn 4 _ _ _ rfl) rfl rfl rfl
  · refine s_aload_n (dt_History_goOn 5 _ _ _ rfl) rfl ?_
    refine s_dup (dt_History_goOn 6 _ _ _ rfl) rfl ?_
    refine s_getI (c := 6) (j := 3) (dt_History_goOn 7 _ _ _ rfl) (kf_History_24) (sc_41 hS) rfl ?_
    refine s_iconst (dt_History_goOn 8 _ _ _ rfl) rfl ?_
    refine s_isub (dt_History_goOn 9 _ _ _ rfl) ?_
    refine s_putI (c := 6) (j := 3) (dt_History_goOn 10 _ _ _ rfl) kp_History_24 (sc_41 hS) ⟨rfl, rfl⟩ ?_
    refine s_letM (fun M1 => ?_)
    refine s_aload_n (dt_History_goOn 11 _ _ _ rfl) rfl ?_
    refine s_dup (dt_History_goOn 12 _ _ _ rfl) rfl ?_
    refine s_getI (c := 6) (j := 2) (dt_History_goOn 13 _ _ _ rfl) (kf_History_21) (sc_41 hS) rfl ?_
    refine s_iconst (dt_History_goOn 14 _ _ _ rfl) rfl ?_
    refine s_iadd (dt_History_goOn 15 _ _ _ rfl) ?_
    refine s_putI (c := 6) (j := 2) (dt_History_goOn 16 _ _ _ rfl) kp_History_21 (sc_41 hS) ⟨rfl, rfl⟩ ?_
    refine s_letM (fun M2 => ?_)
    refine s_aload_n (dt_History_goOn 17 _ _ _ rfl) rfl ?_
    refine s_aload_n (dt_History_goOn 18 _ _ _ rfl) rfl ?_
    refine s_getI (c := 6) (j := 2) (dt_History_goOn 19 _ _ _ rfl) (kf_History_21) (sc_41 hS) rfl ?_
    refine s_callO (y := y_History_stateAfter) (Y' := Y_History_stateAfter) (as := [VR (some 41), VI (M2 41 2)]) (r := fun q => some (VR (some q))) (M' := fun q => M2) (kInvV (dt_History_goOn 20 _ _ _ rfl) kin_History_stateAfter 6 rfl (sc_41 hS) kse_History_stateAfter rfl) kl_History_28 md_History_stateAfter rfl rfl (fun q hq => c_History_stateAfter hS (M2 41 2) M2 q hq) (fun q3 => ?_)
    refine s_aload_n (dt_History_goOn 21 _ _ _ rfl) rfl ?_
    refine s_if (fun h4 => ?_)
    refine s_callO (y := y_State_copy) (Y' := Y_State_copy) (as := [VR (some q3), VR (some 34)]) (r := fun q => none) (M' := fun q => q) (kInvS (dt_History_goOn 22 _ _ _ rfl) kst_State_copy rfl) kl_History_32 md_State_copy rfl rfl (fun q hq => c_State_copy hS (kSt_of hS h4) (kSt_of hS (by decide)) M2 q hq) (fun q5 => ?_)
    refine s_iconst (dt_History_goOn 23 _ _ _ rfl) rfl ?_
    exact s_zret01 (dt_History_goOn 24 _ _ _ rfl) rfl rfl rfl
theorem c_History_goOn {S : KS} (hS : KExt 382 S)   (M : KM) : ∀ q, f_History_goOn  M = some q → Ctr y_History_goOn Y_History_goOn [VR (some 41), VR (some 34)] S M (some (VI q.1)) S (q.2) := fun q hq =>
  ctr_of md_History_goOn (Nat.le_of_ble_eq_true rfl) ⟨Nat.le_refl _, Nat.le_refl _⟩ 0 hq rfl (fun _ G => sim_History_goOn hS   M)
set_option maxRecDepth 100000 in
theorem sim_X_redo {G : Gam} {S : KS} (hS : KExt 382 S)   (M : KM) : Sim G Y_X_redo (f_X_redo  M) (kC 0 [some (VR (some 0))] [] S M) (fun (q : Int × KM) => Sum.inr (some (VI q.1), S, q.2)) := by
  unfold f_X_redo
  refine s_aload_n (dt_X_redo 0 _ _ _ rfl) rfl ?_
  refine s_getR (c := 0) (j := 5) (o := (some 41)) (dt_X_redo 1 _ _ _ rfl) (kf_X_41) (sc_0 hS) rfl rfl ?_
  refine s_aload_n (dt_X_redo 2 _ _ _ rfl) rfl ?_
  refine s_getR (c := 0) (j := 4) (o := (some 34)) (dt_X_redo 3 _ _ _ rfl) (kf_X_34) (sc_0 hS) rfl rfl ?_
  refine s_callO (y := y_History_goOn) (Y' := Y_History_goOn) (as := [VR (some 41), VR (some 34)]) (r := fun q => some (VI q.1)) (M' := fun q => q.2) (kInvV (dt_X_redo 4 _ _ _ rfl) kin_History_goOn 6 rfl (sc_41 hS) kse_History_goOn rfl) kl_X_270 md_History_goOn rfl rfl (fun q hq => c_History_goOn hS M q hq) (fun q1 => ?_)
  exact s_zret (dt_X_redo 5 _ _ _ rfl) rfl rfl
theorem c_X_redo {S : KS} (hS : KExt 382 S)   (M : KM) : ∀ q, f_X_redo  M = some q → Ctr y_X_redo Y_X_redo [VR (some 0)] S M (some (VI q.1)) S (q.2) := fun q hq =>
  ctr_of md_X_redo (Nat.le_of_ble_eq_true rfl) ⟨Nat.le_refl _, Nat.le_refl _⟩ 0 hq rfl (fun _ G => sim_X_redo hS   M)
set_option maxRecDepth 100000 in
theorem sim_X_loan {G : Gam} {S : KS} (hS : KExt 382 S)  (a0 : Int) (a1 : Int) (M : KM) : Sim G Y_X_loan (f_X_loan a0 a1 M) (kC 0 [some (VR (some 0)), some (VI a0), some (VI a1)] [] S M) (fun (q : Int) => Sum.inr (some (VI q), S, M)) := by
  unfold f_X_loan
  refine s_iload_n (dt_X_loan 0 _ _ _ rfl) rfl ?_
  refine s_if_lt (tgt := 15) (dt_X_loan 1 _ _ _ rfl) rfl ?_ ?_
  · refine s_iconst (dt_X_loan 7 _ _ _ rfl) rfl ?_
    exact s_iret (dt_X_loan 8 _ _ _ rfl) rfl rfl
  · refine s_iload_n (dt_X_loan 2 _ _ _ rfl) rfl ?_
    refine s_aload_n (dt_X_loan 3 _ _ _ rfl) rfl ?_
    refine s_getR (c := 0) (j := 4) (o := (some 34)) (dt_X_loan 4 _ _ _ rfl) (kf_X_34) (sc_0 hS) rfl rfl ?_
    refine s_getI (c := 10) (j := 6) (dt_X_loan 5 _ _ _ rfl) (kf_X_238) (sc_34 hS) rfl ?_
    refine s_if_icmp_lt (tgt := 17) (dt_X_loan 6 _ _ _ rfl) rfl ?_ ?_
    · refine s_iload_n (dt_X_loan 9 _ _ _ rfl) rfl ?_
      refine s_tcase (tgt := 52) (dt_X_loan 10 _ _ _ rfl) rfl rfl rfl ?_ (fun h2 => ?_)
      · refine s_aload_n (dt_X_loan 11 _ _ _ rfl) rfl ?_
        refine s_getR (c := 0) (j := 4) (o := (some 34)) (dt_X_loan 12 _ _ _ rfl) (kf_X_34) (sc_0 hS) rfl rfl ?_
        refine s_getR (c := 10) (j := 9) (o := (some 37)) (dt_X_loan 13 _ _ _ rfl) (kf_X_273) (sc_34 hS) rfl rfl ?_
        refine s_iload_n (dt_X_loan 14 _ _ _ rfl) rfl ?_
        refine s_inv (y := y_X_at) (Y' := Y_X_at) (as := [VR (some 37), VI a0]) (r := some (VI (atM M 37 30 a0))) (M' := M) (kInvS (dt_X_loan 15 _ _ _ rfl) kst_X_at rfl) kl_X_140 md_X_at rfl rfl (c_X_at hS ⟨(sc_37 hS), by decide⟩ a0 M) ?_
        exact s_iret (dt_X_loan 16 _ _ _ rfl) rfl rfl
      refine s_tcase (tgt := 64) (dt_X_loan 10 _ _ _ rfl) rfl rfl rfl ?_ (fun h3 => ?_)
      · refine s_aload_n (dt_X_loan 17 _ _ _ rfl) rfl ?_
        refine s_getR (c := 0) (j := 4) (o := (some 34)) (dt_X_loan 18 _ _ _ rfl) (kf_X_34) (sc_0 hS) rfl rfl ?_
        refine s_getR (c := 10) (j := 10) (o := (some 38)) (dt_X_loan 19 _ _ _ rfl) (kf_X_276) (sc_34 hS) rfl rfl ?_
        refine s_iload_n (dt_X_loan 20 _ _ _ rfl) rfl ?_
        refine s_inv (y := y_X_at) (Y' := Y_X_at) (as := [VR (some 38), VI a0]) (r := some (VI (atM M 38 30 a0))) (M' := M) (kInvS (dt_X_loan 21 _ _ _ rfl) kst_X_at rfl) kl_X_140 md_X_at rfl rfl (c_X_at hS ⟨(sc_38 hS), by decide⟩ a0 M) ?_
        exact s_iret (dt_X_loan 22 _ _ _ rfl) rfl rfl
      refine s_tcase (tgt := 76) (dt_X_loan 10 _ _ _ rfl) rfl rfl rfl ?_ (fun h4 => ?_)
      · refine s_aload_n (dt_X_loan 23 _ _ _ rfl) rfl ?_
        refine s_getR (c := 0) (j := 4) (o := (some 34)) (dt_X_loan 24 _ _ _ rfl) (kf_X_34) (sc_0 hS) rfl rfl ?_
        refine s_getR (c := 10) (j := 11) (o := (some 39)) (dt_X_loan 25 _ _ _ rfl) (kf_X_279) (sc_34 hS) rfl rfl ?_
        refine s_iload_n (dt_X_loan 26 _ _ _ rfl) rfl ?_
        refine s_inv (y := y_X_at) (Y' := Y_X_at) (as := [VR (some 39), VI a0]) (r := some (VI (atM M 39 30 a0))) (M' := M) (kInvS (dt_X_loan 27 _ _ _ rfl) kst_X_at rfl) kl_X_140 md_X_at rfl rfl (c_X_at hS ⟨(sc_39 hS), by decide⟩ a0 M) ?_
        exact s_iret (dt_X_loan 28 _ _ _ rfl) rfl rfl
      refine s_tcase (tgt := 88) (dt_X_loan 10 _ _ _ rfl) rfl rfl rfl ?_ (fun h5 => ?_)
      · refine s_aload_n (dt_X_loan 29 _ _ _ rfl) rfl ?_
        refine s_getR (c := 0) (j := 4) (o := (some 34)) (dt_X_loan 30 _ _ _ rfl) (kf_X_34) (sc_0 hS) rfl rfl ?_
        refine s_getR (c := 10) (j := 12) (o := (some 40)) (dt_X_loan 31 _ _ _ rfl) (kf_X_282) (sc_34 hS) rfl rfl ?_
        refine s_iload_n (dt_X_loan 32 _ _ _ rfl) rfl ?_
        refine s_inv (y := y_X_at) (Y' := Y_X_at) (as := [VR (some 40), VI a0]) (r := some (VI (atM M 40 30 a0))) (M' := M) (kInvS (dt_X_loan 33 _ _ _ rfl) kst_X_at rfl) kl_X_140 md_X_at rfl rfl (c_X_at hS ⟨(sc_40 hS), by decide⟩ a0 M) ?_
        exact s_iret (dt_X_loan 34 _ _ _ rfl) rfl rfl
      refine s_tcase (tgt := 100) (dt_X_loan 10 _ _ _ rfl) rfl rfl rfl ?_ (fun h6 => ?_)
      · refine s_aload_n (dt_X_loan 35 _ _ _ rfl) rfl ?_
        refine s_getR (c := 0) (j := 4) (o := (some 34)) (dt_X_loan 36 _ _ _ rfl) (kf_X_34) (sc_0 hS) rfl rfl ?_
        refine s_getI (c := 10) (j := 8) (dt_X_loan 37 _ _ _ rfl) (kf_X_285) (sc_34 hS) rfl ?_
        refine s_iload_n (dt_X_loan 38 _ _ _ rfl) rfl ?_
        refine s_inv (y := y_X_isIn) (Y' := Y_X_isIn) (as := [VI (M 34 8), VI a0]) (r := some (VI (isInV (M 34 8) a0))) (M' := M) (kInvS (dt_X_loan 39 _ _ _ rfl) kst_X_isIn rfl) kl_X_186 md_X_isIn rfl rfl (c_X_isIn hS (M 34 8) a0 M) ?_
        refine s_bd (κ := fun t1 => kC 119 [none, none, none] [VI t1] S M) ?_ (fun t1 => ?_)
        · refine s_if_eq (tgt := 118) (dt_X_loan 40 _ _ _ rfl) rfl ?_ ?_
          · refine s_iconst (dt_X_loan 43 _ _ _ rfl) rfl ?_
            exact s_mask [false, false, false] (s_ret0 rfl)
          · refine s_iconst (dt_X_loan 41 _ _ _ rfl) rfl ?_
            refine s_goto (tgt := 119) (dt_X_loan 42 _ _ _ rfl) rfl ?_
            exact s_mask [false, false, false] (s_ret0 rfl)
        exact s_iret (dt_X_loan 44 _ _ _ rfl) rfl rfl
      refine s_tdef (tgt := 120) (dt_X_loan 10 _ _ _ rfl) (by omega) rfl ?_
      refine s_iconst (dt_X_loan 45 _ _ _ rfl) rfl ?_
      exact s_iret (dt_X_loan 46 _ _ _ rfl) rfl rfl
    · refine s_iconst (dt_X_loan 7 _ _ _ rfl) rfl ?_
      exact s_iret (dt_X_loan 8 _ _ _ rfl) rfl rfl
theorem c_X_loan {S : KS} (hS : KExt 382 S)  (a0 : Int) (a1 : Int) (M : KM) : ∀ q, f_X_loan a0 a1 M = some q → Ctr y_X_loan Y_X_loan [VR (some 0), VI a0, VI a1] S M (some (VI q)) S (M) := fun q hq =>
  ctr_of md_X_loan (Nat.le_of_ble_eq_true rfl) ⟨Nat.le_refl _, Nat.le_refl _⟩ 0 hq rfl (fun _ G => sim_X_loan hS  a0 a1 M)
set_option maxRecDepth 100000 in
theorem sim_JI_bitCount {G : Gam} {S : KS} (hS : KExt 382 S)  (a0 : Int) (M : KM) : Sim G Y_JI_bitCount (f_JI_bitCount a0 M) (kC 0 [some (VI a0)] [] S M) (fun (q : Int) => Sum.inr (some (VI q), S, M)) := by
  unfold f_JI_bitCount
  refine s_iload_n (dt_JI_bitCount 0 _ _ _ rfl) rfl ?_
  refine s_iload_n (dt_JI_bitCount 1 _ _ _ rfl) rfl ?_
  refine s_iconst (dt_JI_bitCount 2 _ _ _ rfl) rfl ?_
  refine s_iushr (dt_JI_bitCount 3 _ _ _ rfl) ?_
  refine s_ldcw (n := (1431655765 : Int)) (kc_JI_265) (dt_JI_bitCount 4 _ _ _ rfl) rfl ?_
  refine s_iand (dt_JI_bitCount 5 _ _ _ rfl) ?_
  refine s_isub (dt_JI_bitCount 6 _ _ _ rfl) ?_
  refine s_letI (fun v1 => ?_)
  refine s_istore_n (dt_JI_bitCount 7 _ _ _ rfl) rfl ?_
  refine s_iload_n (dt_JI_bitCount 8 _ _ _ rfl) rfl ?_
  refine s_ldcw (n := (858993459 : Int)) (kc_JI_266) (dt_JI_bitCount 9 _ _ _ rfl) rfl ?_
  refine s_iand (dt_JI_bitCount 10 _ _ _ rfl) ?_
  refine s_iload_n (dt_JI_bitCount 11 _ _ _ rfl) rfl ?_
  refine s_iconst (dt_JI_bitCount 12 _ _ _ rfl) rfl ?_
  refine s_iushr (dt_JI_bitCount 13 _ _ _ rfl) ?_
  refine s_ldcw (n := (858993459 : Int)) (kc_JI_266) (dt_JI_bitCount 14 _ _ _ rfl) rfl ?_
  refine s_iand (dt_JI_bitCount 15 _ _ _ rfl) ?_
  refine s_iadd (dt_JI_bitCount 16 _ _ _ rfl) ?_
  refine s_letI (fun v2 => ?_)
  refine s_istore_n (dt_JI_bitCount 17 _ _ _ rfl) rfl ?_
  refine s_iload_n (dt_JI_bitCount 18 _ _ _ rfl) rfl ?_
  refine s_iload_n (dt_JI_bitCount 19 _ _ _ rfl) rfl ?_
  refine s_iconst (dt_JI_bitCount 20 _ _ _ rfl) rfl ?_
  refine s_iushr (dt_JI_bitCount 21 _ _ _ rfl) ?_
  refine s_iadd (dt_JI_bitCount 22 _ _ _ rfl) ?_
  refine s_ldcw (n := (252645135 : Int)) (kc_JI_267) (dt_JI_bitCount 23 _ _ _ rfl) rfl ?_
  refine s_iand (dt_JI_bitCount 24 _ _ _ rfl) ?_
  refine s_letI (fun v3 => ?_)
  refine s_istore_n (dt_JI_bitCount 25 _ _ _ rfl) rfl ?_
  refine s_iload_n (dt_JI_bitCount 26 _ _ _ rfl) rfl ?_
  refine s_iload_n (dt_JI_bitCount 27 _ _ _ rfl) rfl ?_
  refine s_bipush (dt_JI_bitCount 28 _ _ _ rfl) rfl ?_
  refine s_iushr (dt_JI_bitCount 29 _ _ _ rfl) ?_
  refine s_iadd (dt_JI_bitCount 30 _ _ _ rfl) ?_
  refine s_letI (fun v4 => ?_)
  refine s_istore_n (dt_JI_bitCount 31 _ _ _ rfl) rfl ?_
  refine s_iload_n (dt_JI_bitCount 32 _ _ _ rfl) rfl ?_
  refine s_iload_n (dt_JI_bitCount 33 _ _ _ rfl) rfl ?_
  refine s_bipush (dt_JI_bitCount 34 _ _ _ rfl) rfl ?_
  refine s_iushr (dt_JI_bitCount 35 _ _ _ rfl) ?_
  refine s_iadd (dt_JI_bitCount 36 _ _ _ rfl) ?_
  refine s_letI (fun v5 => ?_)
  refine s_istore_n (dt_JI_bitCount 37 _ _ _ rfl) rfl ?_
  refine s_iload_n (dt_JI_bitCount 38 _ _ _ rfl) rfl ?_
  refine s_bipush (dt_JI_bitCount 39 _ _ _ rfl) rfl ?_
  refine s_iand (dt_JI_bitCount 40 _ _ _ rfl) ?_
  exact s_iret (dt_JI_bitCount 41 _ _ _ rfl) rfl rfl
theorem c_JI_bitCount {S : KS} (hS : KExt 382 S)  (a0 : Int) (M : KM) : ∀ q, f_JI_bitCount a0 M = some q → Ctr y_JI_bitCount Y_JI_bitCount [VI a0] S M (some (VI q)) S (M) := fun q hq =>
  ctr_of md_JI_bitCount (Nat.le_of_ble_eq_true rfl) ⟨Nat.le_refl _, Nat.le_refl _⟩ 0 hq rfl (fun _ G => sim_JI_bitCount hS  a0 M)
set_option maxRecDepth 100000 in
theorem sim_X_target {G : Gam} {S : KS} (hS : KExt 382 S)  (a0 : Int) (a1 : Int) (M : KM) : Sim G Y_X_target (f_X_target a0 a1 M) (kC 0 [some (VR (some 0)), some (VI a0), some (VI a1)] [] S M) (fun (q : Int × KM) => Sum.inr (some (VI q.1), S, q.2)) := by
  unfold f_X_target
  refine s_aload_n (dt_X_target 0 _ _ _ rfl) rfl ?_
  refine s_iload_n (dt_X_target 1 _ _ _ rfl) rfl ?_
  refine s_callO (y := y_X_isPerson) (Y' := Y_X_isPerson) (as := [VR (some 0), VI a0]) (r := fun q => some (VI q)) (M' := fun q => M) (kInvV (dt_X_target 2 _ _ _ rfl) kin_X_isPerson 0 rfl (sc_0 hS) kse_X_isPerson rfl) kl_X_133 md_X_isPerson rfl rfl (fun q hq => c_X_isPerson hS a0 M q hq) (fun q1 => ?_)
  refine s_if_eq (tgt := 16) (dt_X_target 3 _ _ _ rfl) rfl ?_ ?_
  · refine s_iconst (dt_X_target 8 _ _ _ rfl) rfl ?_
    exact s_iret (dt_X_target 9 _ _ _ rfl) rfl rfl
  · refine s_aload_n (dt_X_target 4 _ _ _ rfl) rfl ?_
    refine s_iload_n (dt_X_target 5 _ _ _ rfl) rfl ?_
    refine s_callO (y := y_X_isAge) (Y' := Y_X_isAge) (as := [VR (some 0), VI a1]) (r := fun q => some (VI q)) (M' := fun q => M) (kInvV (dt_X_target 6 _ _ _ rfl) kin_X_isAge 0 rfl (sc_0 hS) kse_X_isAge rfl) kl_X_163 md_X_isAge rfl rfl (fun q hq => c_X_isAge hS a1 M q hq) (fun q2 => ?_)
    refine s_if_ne (tgt := 18) (dt_X_target 7 _ _ _ rfl) rfl ?_ ?_
    · refine s_iconst (dt_X_target 8 _ _ _ rfl) rfl ?_
      exact s_iret (dt_X_target 9 _ _ _ rfl) rfl rfl
    · refine s_aload_n (dt_X_target 10 _ _ _ rfl) rfl ?_
      refine s_getR (c := 0) (j := 8) (o := (some 331)) (dt_X_target 11 _ _ _ rfl) (kf_X_52) (sc_0 hS) rfl rfl ?_
      refine s_iload_n (dt_X_target 12 _ _ _ rfl) rfl ?_
      refine s_iload_n (dt_X_target 13 _ _ _ rfl) rfl ?_
      refine s_inv (y := y_X_put) (Y' := Y_X_put) (as := [VR (some 331), VI a0, VI a1]) (r := none) (M' := (putM M 331 8 a0 a1)) (kInvS (dt_X_target 14 _ _ _ rfl) kst_X_put rfl) kl_X_288 md_X_put rfl rfl (c_X_put hS ⟨(sc_331 hS), by decide⟩ a0 a1 M) ?_
      refine s_letM (fun M3 => ?_)
      refine s_aload_n (dt_X_target 15 _ _ _ rfl) rfl ?_
      refine s_dup (dt_X_target 16 _ _ _ rfl) rfl ?_
      refine s_getI (c := 0) (j := 9) (dt_X_target 17 _ _ _ rfl) (kf_X_56) (sc_0 hS) rfl ?_
      refine s_iconst (dt_X_target 18 _ _ _ rfl) rfl ?_
      refine s_iload_n (dt_X_target 19 _ _ _ rfl) rfl ?_
      refine s_ishl (dt_X_target 20 _ _ _ rfl) ?_
      refine s_ior (dt_X_target 21 _ _ _ rfl) ?_
      refine s_putI (c := 0) (j := 9) (dt_X_target 22 _ _ _ rfl) kp_X_56 (sc_0 hS) ⟨rfl, rfl⟩ ?_
      refine s_letM (fun M4 => ?_)
      refine s_aload_n (dt_X_target 23 _ _ _ rfl) rfl ?_
      refine s_getI (c := 0) (j := 9) (dt_X_target 24 _ _ _ rfl) (kf_X_56) (sc_0 hS) rfl ?_
      refine s_callO (y := y_JI_bitCount) (Y' := Y_JI_bitCount) (as := [VI (M4 0 9)]) (r := fun q => some (VI q)) (M' := fun q => M4) (kInvS (dt_X_target 25 _ _ _ rfl) kst_JI_bitCount rfl) kl_X_292 md_JI_bitCount rfl rfl (fun q hq => c_JI_bitCount hS (M4 0 9) M4 q hq) (fun q5 => ?_)
      exact s_iret (dt_X_target 26 _ _ _ rfl) rfl rfl
theorem c_X_target {S : KS} (hS : KExt 382 S)  (a0 : Int) (a1 : Int) (M : KM) : ∀ q, f_X_target a0 a1 M = some q → Ctr y_X_target Y_X_target [VR (some 0), VI a0, VI a1] S M (some (VI q.1)) S (q.2) := fun q hq =>
  ctr_of md_X_target (Nat.le_of_ble_eq_true rfl) ⟨Nat.le_refl _, Nat.le_refl _⟩ 0 hq rfl (fun _ G => sim_X_target hS  a0 a1 M)
set_option maxRecDepth 100000 in
theorem sim_X_hush {G : Gam} {S : KS} (hS : KExt 382 S)   (M : KM) : Sim G Y_X_hush (f_X_hush  M) (kC 0 [some (VR (some 0)), none] [] S M) (fun (q : Int × KM) => Sum.inr (some (VI q.1), S, q.2)) := by
  unfold f_X_hush
  refine s_aload_n (dt_X_hush 0 _ _ _ rfl) rfl ?_
  refine s_getI (c := 0) (j := 9) (dt_X_hush 1 _ _ _ rfl) (kf_X_56) (sc_0 hS) rfl ?_
  refine s_callO (y := y_JI_bitCount) (Y' := Y_JI_bitCount) (as := [VI (M 0 9)]) (r := fun q => some (VI q)) (M' := fun q => M) (kInvS (dt_X_hush 2 _ _ _ rfl) kst_JI_bitCount rfl) kl_X_292 md_JI_bitCount rfl rfl (fun q hq => c_JI_bitCount hS (M 0 9) M q hq) (fun q1 => ?_)
  refine s_istore_n (dt_X_hush 3 _ _ _ rfl) rfl ?_
  refine s_aload_n (dt_X_hush 4 _ _ _ rfl) rfl ?_
  refine s_iconst (dt_X_hush 5 _ _ _ rfl) rfl ?_
  refine s_putI (c := 0) (j := 9) (dt_X_hush 6 _ _ _ rfl) kp_X_56 (sc_0 hS) ⟨rfl, rfl⟩ ?_
  refine s_letM (fun M2 => ?_)
  refine s_iload_n (dt_X_hush 7 _ _ _ rfl) rfl ?_
  exact s_iret (dt_X_hush 8 _ _ _ rfl) rfl rfl
theorem c_X_hush {S : KS} (hS : KExt 382 S)   (M : KM) : ∀ q, f_X_hush  M = some q → Ctr y_X_hush Y_X_hush [VR (some 0)] S M (some (VI q.1)) S (q.2) := fun q hq =>
  ctr_of md_X_hush (Nat.le_of_ble_eq_true rfl) ⟨Nat.le_refl _, Nat.le_refl _⟩ 1 hq rfl (fun _ G => sim_X_hush hS   M)
