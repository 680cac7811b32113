set_option maxRecDepth 100000 in
theorem sim_Reader_placeAmongP {G : Gam} {S : KS} (hS : KExt 382 S)  (a1 : Int) (M : KM) : Sim G Y_Reader_placeAmong (f_Reader_placeAmongP a1 M) (kC 0 [some (VR (some 14)), some (VR (some 32)), some (VI a1), none, none, none] [] S M) (fun (q : Int) => Sum.inr (some (VI q), S, M)) := by
  unfold f_Reader_placeAmongP
  refine s_aload_n (dt_Reader_placeAmong 0 _ _ _ rfl) rfl ?_
  refine s_callO (y := y_Reader_name) (Y' := Y_Reader_name) (as := [VR (some 14)]) (r := fun q => some (VJ q)) (M' := fun q => M) (kInvV (dt_Reader_placeAmong 1 _ _ _ rfl) kin_Reader_name 7 rfl (sc_14 hS) kse_Reader_name rfl) kl_Reader_127 md_Reader_name rfl rfl (fun q hq => c_Reader_name hS M q hq) (fun q1 => ?_)
  refine s_lstore_n (dt_Reader_placeAmong 2 _ _ _ rfl) rfl ?_
  refine s_iconst (dt_Reader_placeAmong 3 _ _ _ rfl) rfl ?_
  refine s_istore (dt_Reader_placeAmong 4 _ _ _ rfl) rfl ?_
  refine s_bd (κ := (Sum.elim (fun (e3 : Int) => kC 30 [none, none, none, none, none, some (VI e3)] [] S M) (fun (e4 : Unit) => kC 39 [none, none, none, none, none, none] [] S M))) (s_mask [false, true, true, true, false, true] (s_while (c := fun s2 => kC 8 [none, some (VR (some 32)), some (VI a1), some (VJ q1), none, some (VI s2)] [] S M) (fun s2 => ?_) (0 : Int))) ?_
  · refine s_iload (dt_Reader_placeAmong 5 _ _ _ rfl) rfl ?_
    refine s_iload_n (dt_Reader_placeAmong 6 _ _ _ rfl) rfl ?_
    refine s_if_icmp_ge (tgt := 39) (dt_Reader_placeAmong 7 _ _ _ rfl) rfl ?_ ?_
    · refine s_iload (dt_Reader_placeAmong 8 _ _ _ rfl) rfl ?_
      refine s_aload_n (dt_Reader_placeAmong 9 _ _ _ rfl) rfl ?_
      refine s_alen (N := 8) (dt_Reader_placeAmong 10 _ _ _ rfl) (sc_32 hS) rfl rfl (by decide) ?_
      refine s_if_icmp_ge (tgt := 39) (dt_Reader_placeAmong 11 _ _ _ rfl) rfl ?_ ?_
      · refine s_aload_n (dt_Reader_placeAmong 12 _ _ _ rfl) rfl ?_
        refine s_iload (dt_Reader_placeAmong 13 _ _ _ rfl) rfl ?_
        refine s_lald (N := 8) (dt_Reader_placeAmong 14 _ _ _ rfl) (sc_32 hS) rfl ?_
        refine s_lload_n (dt_Reader_placeAmong 15 _ _ _ rfl) rfl ?_
        refine s_lcmp (dt_Reader_placeAmong 16 _ _ _ rfl) ?_
        refine s_if_ne (tgt := 33) (dt_Reader_placeAmong 17 _ _ _ rfl) rfl ?_ ?_
        · exact s_mask [false, false, false, false, false, true] (s_ret0 rfl)
        · refine s_iinc (dt_Reader_placeAmong 20 _ _ _ rfl) rfl rfl ?_
          refine s_goto (tgt := 8) (dt_Reader_placeAmong 21 _ _ _ rfl) rfl ?_
          exact s_mask [false, true, true, true, false, true] (s_ret0 rfl)
      · exact s_mask [false, false, false, false, false, false] (s_ret0 rfl)
    · exact s_mask [false, false, false, false, false, false] (s_ret0 rfl)
  refine s_elim (fun e3 => ?_) ?_
  · refine s_iload (dt_Reader_placeAmong 18 _ _ _ rfl) rfl ?_
    exact s_iret (dt_Reader_placeAmong 19 _ _ _ rfl) rfl rfl
  intro e4
  refine s_iconst (dt_Reader_placeAmong 22 _ _ _ rfl) rfl ?_
  exact s_iret (dt_Reader_placeAmong 23 _ _ _ rfl) rfl rfl
theorem c_Reader_placeAmongP {S : KS} (hS : KExt 382 S)  (a1 : Int) (M : KM) : ∀ q, f_Reader_placeAmongP a1 M = some q → Ctr y_Reader_placeAmong Y_Reader_placeAmong [VR (some 14), VR (some 32), VI a1] S M (some (VI q)) S (M) := fun q hq =>
  ctr_of md_Reader_placeAmong (Nat.le_of_ble_eq_true rfl) ⟨Nat.le_refl _, Nat.le_refl _⟩ 3 hq rfl (fun _ G => sim_Reader_placeAmongP hS  a1 M)
set_option maxRecDepth 100000 in
theorem sim_Town_addFriends {G : Gam} {S : KS} (hS : KExt 382 S)  (a0 : Int) (a1 : Int) (a2 : Int) (M : KM) : Sim G Y_Town_addFriends (f_Town_addFriends a0 a1 a2 M) (kC 0 [some (VR (some 15)), some (VI a0), some (VI a1), some (VI a2)] [] S M) (fun (q : KM) => Sum.inr (none, S, q)) := by
  unfold f_Town_addFriends
  refine s_aload_n (dt_Town_addFriends 0 _ _ _ rfl) rfl ?_
  refine s_getR (c := 12) (j := 6) (o := (some 20)) (dt_Town_addFriends 1 _ _ _ rfl) (kf_Town_24) (sc_15 hS) rfl rfl ?_
  refine s_aload_n (dt_Town_addFriends 2 _ _ _ rfl) rfl ?_
  refine s_getI (c := 12) (j := 5) (dt_Town_addFriends 3 _ _ _ rfl) (kf_Town_50) (sc_15 hS) rfl ?_
  refine s_iload_n (dt_Town_addFriends 4 _ _ _ rfl) rfl ?_
  refine s_inv (y := y_X_put) (Y' := Y_X_put) (as := [VR (some 20), VI (M 15 5), VI a0]) (r := none) (M' := (putM M 20 20 (M 15 5) a0)) (kInvS (dt_Town_addFriends 5 _ _ _ rfl) kst_X_put rfl) kl_Town_81 md_X_put rfl rfl (c_X_put hS ⟨(sc_20 hS), by decide⟩ (M 15 5) a0 M) ?_
  refine s_letM (fun M1 => ?_)
  refine s_aload_n (dt_Town_addFriends 6 _ _ _ rfl) rfl ?_
  refine s_getR (c := 12) (j := 7) (o := (some 21)) (dt_Town_addFriends 7 _ _ _ rfl) (kf_Town_27) (sc_15 hS) rfl rfl ?_
  refine s_aload_n (dt_Town_addFriends 8 _ _ _ rfl) rfl ?_
  refine s_getI (c := 12) (j := 5) (dt_Town_addFriends 9 _ _ _ rfl) (kf_Town_50) (sc_15 hS) rfl ?_
  refine s_iload_n (dt_Town_addFriends 10 _ _ _ rfl) rfl ?_
  refine s_inv (y := y_X_put) (Y' := Y_X_put) (as := [VR (some 21), VI (M1 15 5), VI a1]) (r := none) (M' := (putM M1 21 20 (M1 15 5) a1)) (kInvS (dt_Town_addFriends 11 _ _ _ rfl) kst_X_put rfl) kl_Town_81 md_X_put rfl rfl (c_X_put hS ⟨(sc_21 hS), by decide⟩ (M1 15 5) a1 M1) ?_
  refine s_letM (fun M2 => ?_)
  refine s_aload_n (dt_Town_addFriends 12 _ _ _ rfl) rfl ?_
  refine s_getR (c := 12) (j := 8) (o := (some 22)) (dt_Town_addFriends 13 _ _ _ rfl) (kf_Town_30) (sc_15 hS) rfl rfl ?_
  refine s_aload_n (dt_Town_addFriends 14 _ _ _ rfl) rfl ?_
  refine s_getI (c := 12) (j := 5) (dt_Town_addFriends 15 _ _ _ rfl) (kf_Town_50) (sc_15 hS) rfl ?_
  refine s_iload_n (dt_Town_addFriends 16 _ _ _ rfl) rfl ?_
  refine s_inv (y := y_X_put) (Y' := Y_X_put) (as := [VR (some 22), VI (M2 15 5), VI a2]) (r := none) (M' := (putM M2 22 20 (M2 15 5) a2)) (kInvS (dt_Town_addFriends 17 _ _ _ rfl) kst_X_put rfl) kl_Town_81 md_X_put rfl rfl (c_X_put hS ⟨(sc_22 hS), by decide⟩ (M2 15 5) a2 M2) ?_
  refine s_letM (fun M3 => ?_)
  refine s_aload_n (dt_Town_addFriends 18 _ _ _ rfl) rfl ?_
  refine s_dup (dt_Town_addFriends 19 _ _ _ rfl) rfl ?_
  refine s_getI (c := 12) (j := 5) (dt_Town_addFriends 20 _ _ _ rfl) (kf_Town_50) (sc_15 hS) rfl ?_
  refine s_iconst (dt_Town_addFriends 21 _ _ _ rfl) rfl ?_
  refine s_iadd (dt_Town_addFriends 22 _ _ _ rfl) ?_
  refine s_putI (c := 12) (j := 5) (dt_Town_addFriends 23 _ _ _ rfl) kp_Town_50 (sc_15 hS) ⟨rfl, rfl⟩ ?_
  refine s_letM (fun M4 => ?_)
  exact s_vret (dt_Town_addFriends 24 _ _ _ rfl) rfl rfl
theorem c_Town_addFriends {S : KS} (hS : KExt 382 S)  (a0 : Int) (a1 : Int) (a2 : Int) (M : KM) : ∀ q, f_Town_addFriends a0 a1 a2 M = some q → Ctr y_Town_addFriends Y_Town_addFriends [VR (some 15), VI a0, VI a1, VI a2] S M (none) S (q) := fun q hq =>
  ctr_of md_Town_addFriends (Nat.le_of_ble_eq_true rfl) ⟨Nat.le_refl _, Nat.le_refl _⟩ 0 hq rfl (fun _ G => sim_Town_addFriends hS  a0 a1 a2 M)
set_option maxRecDepth 100000 in
theorem sim_Town_friendsOfD {G : Gam} {S : KS} (hS : KExt 382 S)  (a0 : Int) (a1 : Int) (M : KM) : Sim G Y_Town_friendsOf (f_Town_friendsOfD a0 a1 M) (kC 0 [some (VR (some 15)), some (VI a0), some (VI a1), none] [] S M) (fun (q : Int) => Sum.inr (some (VI q), S, M)) := by
  unfold f_Town_friendsOfD
  refine s_iconst (dt_Town_friendsOf 0 _ _ _ rfl) rfl ?_
  refine s_istore_n (dt_Town_friendsOf 1 _ _ _ rfl) rfl ?_
  refine s_bd (κ := (Sum.elim (fun (e2 : Int) => kC 48 [none, none, none, some (VI e2)] [] S M) (fun (e3 : Unit) => kC 56 [none, none, none, none] [] S M))) (s_mask [true, true, true, true] (s_while (c := fun s1 => kC 2 [some (VR (some 15)), some (VI a0), some (VI a1), some (VI s1)] [] S M) (fun s1 => ?_) (0 : Int))) ?_
  · refine s_iload_n (dt_Town_friendsOf 2 _ _ _ rfl) rfl ?_
    refine s_aload_n (dt_Town_friendsOf 3 _ _ _ rfl) rfl ?_
    refine s_getI (c := 12) (j := 5) (dt_Town_friendsOf 4 _ _ _ rfl) (kf_Town_50) (sc_15 hS) rfl ?_
    refine s_if_icmp_ge (tgt := 56) (dt_Town_friendsOf 5 _ _ _ rfl) rfl ?_ ?_
    · refine s_iload_n (dt_Town_friendsOf 6 _ _ _ rfl) rfl ?_
      refine s_aload_n (dt_Town_friendsOf 7 _ _ _ rfl) rfl ?_
      refine s_getR (c := 12) (j := 6) (o := (some 20)) (dt_Town_friendsOf 8 _ _ _ rfl) (kf_Town_24) (sc_15 hS) rfl rfl ?_
      refine s_alen (N := 20) (dt_Town_friendsOf 9 _ _ _ rfl) (sc_20 hS) rfl rfl (by decide) ?_
      refine s_if_icmp_ge (tgt := 56) (dt_Town_friendsOf 10 _ _ _ rfl) rfl ?_ ?_
      · refine s_iload_n (dt_Town_friendsOf 11 _ _ _ rfl) rfl ?_
        refine s_aload_n (dt_Town_friendsOf 12 _ _ _ rfl) rfl ?_
        refine s_getR (c := 12) (j := 7) (o := (some 21)) (dt_Town_friendsOf 13 _ _ _ rfl) (kf_Town_27) (sc_15 hS) rfl rfl ?_
        refine s_alen (N := 20) (dt_Town_friendsOf 14 _ _ _ rfl) (sc_21 hS) rfl rfl (by decide) ?_
        refine s_if_icmp_ge (tgt := 56) (dt_Town_friendsOf 15 _ _ _ rfl) rfl ?_ ?_
        · refine s_aload_n (dt_Town_friendsOf 16 _ _ _ rfl) rfl ?_
          refine s_getR (c := 12) (j := 6) (o := (some 20)) (dt_Town_friendsOf 17 _ _ _ rfl) (kf_Town_24) (sc_15 hS) rfl rfl ?_
          refine s_iload_n (dt_Town_friendsOf 18 _ _ _ rfl) rfl ?_
          refine s_iald (N := 20) (dt_Town_friendsOf 19 _ _ _ rfl) (sc_20 hS) rfl ?_
          refine s_iload_n (dt_Town_friendsOf 20 _ _ _ rfl) rfl ?_
          refine s_if_icmp_ne (tgt := 50) (dt_Town_friendsOf 21 _ _ _ rfl) rfl ?_ ?_
          · refine s_aload_n (dt_Town_friendsOf 22 _ _ _ rfl) rfl ?_
            refine s_getR (c := 12) (j := 7) (o := (some 21)) (dt_Town_friendsOf 23 _ _ _ rfl) (kf_Town_27) (sc_15 hS) rfl rfl ?_
            refine s_iload_n (dt_Town_friendsOf 24 _ _ _ rfl) rfl ?_
            refine s_iald (N := 20) (dt_Town_friendsOf 25 _ _ _ rfl) (sc_21 hS) rfl ?_
            refine s_iload_n (dt_Town_friendsOf 26 _ _ _ rfl) rfl ?_
            refine s_if_icmp_ne (tgt := 50) (dt_Town_friendsOf 27 _ _ _ rfl) rfl ?_ ?_
            · exact s_mask [false, false, false, true] (s_ret0 rfl)
            · refine s_iinc (dt_Town_friendsOf 30 _ _ _ rfl) rfl rfl ?_
              refine s_goto (tgt := 2) (dt_Town_friendsOf 31 _ _ _ rfl) rfl ?_
              exact s_mask [true, true, true, true] (s_ret0 rfl)
          · refine s_iinc (dt_Town_friendsOf 30 _ _ _ rfl) rfl rfl ?_
            refine s_goto (tgt := 2) (dt_Town_friendsOf 31 _ _ _ rfl) rfl ?_
            exact s_mask [true, true, true, true] (s_ret0 rfl)
        · exact s_mask [false, false, false, false] (s_ret0 rfl)
      · exact s_mask [false, false, false, false] (s_ret0 rfl)
    · exact s_mask [false, false, false, false] (s_ret0 rfl)
  refine s_elim (fun e2 => ?_) ?_
  · refine s_iload_n (dt_Town_friendsOf 28 _ _ _ rfl) rfl ?_
    exact s_iret (dt_Town_friendsOf 29 _ _ _ rfl) rfl rfl
  intro e3
  refine s_iconst (dt_Town_friendsOf 32 _ _ _ rfl) rfl ?_
  exact s_iret (dt_Town_friendsOf 33 _ _ _ rfl) rfl rfl
theorem c_Town_friendsOfD {S : KS} (hS : KExt 382 S)  (a0 : Int) (a1 : Int) (M : KM) : ∀ q, f_Town_friendsOfD a0 a1 M = some q → Ctr y_Town_friendsOf Y_Town_friendsOf [VR (some 15), VI a0, VI a1] S M (some (VI q)) S (M) := fun q hq =>
  ctr_of md_Town_friendsOf (Nat.le_of_ble_eq_true rfl) ⟨Nat.le_refl _, Nat.le_refl _⟩ 1 hq rfl (fun _ G => sim_Town_friendsOfD hS  a0 a1 M)
set_option maxRecDepth 100000 in
theorem sim_Reader_friendLine {G : Gam} {S : KS} (hS : KExt 382 S)   (M : KM) : Sim G Y_Reader_friendLine (f_Reader_friendLine  M) (kC 0 [some (VR (some 14)), none, none] [] S M) (fun (q : Int × KM) => Sum.inr (some (VI q.1), S, q.2)) := by
  unfold f_Reader_friendLine
  refine s_aload_n (dt_Reader_friendLine 0 _ _ _ rfl) rfl ?_
  refine s_getR (c := 7) (j := 2) (o := (some 15)) (dt_Reader_friendLine 1 _ _ _ rfl) (kf_Reader_21) (sc_14 hS) rfl rfl ?_
  refine s_getI (c := 12) (j := 5) (dt_Reader_friendLine 2 _ _ _ rfl) (kf_Reader_131) (sc_15 hS) rfl ?_
  refine s_bipush (dt_Reader_friendLine 3 _ _ _ rfl) rfl ?_
  refine s_if_icmp_lt (tgt := 18) (dt_Reader_friendLine 4 _ _ _ rfl) rfl ?_ ?_
  · refine s_aload_n (dt_Reader_friendLine 9 _ _ _ rfl) rfl ?_
    refine s_callO (y := y_Reader_step) (Y' := Y_Reader_step) (as := [VR (some 14)]) (r := fun q => none) (M' := fun q => q) (kInvV (dt_Reader_friendLine 10 _ _ _ rfl) kin_Reader_step 7 rfl (sc_14 hS) kse_Reader_step rfl) kl_Reader_53 md_Reader_step rfl rfl (fun q hq => c_Reader_step hS M q hq) (fun q1 => ?_)
    refine s_aload_n (dt_Reader_friendLine 11 _ _ _ rfl) rfl ?_
    refine s_aload_n (dt_Reader_friendLine 12 _ _ _ rfl) rfl ?_
    refine s_getR (c := 7) (j := 10) (o := (some 32)) (dt_Reader_friendLine 13 _ _ _ rfl) (kf_Reader_32) (sc_14 hS) rfl rfl ?_
    refine s_aload_n (dt_Reader_friendLine 14 _ _ _ rfl) rfl ?_
    refine s_getR (c := 7) (j := 2) (o := (some 15)) (dt_Reader_friendLine 15 _ _ _ rfl) (kf_Reader_21) (sc_14 hS) rfl rfl ?_
    refine s_getI (c := 12) (j := 0) (dt_Reader_friendLine 16 _ _ _ rfl) (kf_Reader_96) (sc_15 hS) rfl ?_
    refine s_callO (y := y_Reader_placeAmong) (Y' := Y_Reader_placeAmong) (as := [VR (some 14), VR (some 32), VI (q1 15 0)]) (r := fun q => some (VI q)) (M' := fun q => q1) (kInvV (dt_Reader_friendLine 17 _ _ _ rfl) kin_Reader_placeAmong 7 rfl (sc_14 hS) kse_Reader_placeAmong rfl) kl_Reader_123 md_Reader_placeAmong rfl rfl (fun q hq => c_Reader_placeAmongP hS (q1 15 0) q1 q hq) (fun q2 => ?_)
    refine s_istore_n (dt_Reader_friendLine 18 _ _ _ rfl) rfl ?_
    refine s_aload_n (dt_Reader_friendLine 19 _ _ _ rfl) rfl ?_
    refine s_iload_n (dt_Reader_friendLine 20 _ _ _ rfl) rfl ?_
    refine s_callO (y := y_Reader_isSomebody) (Y' := Y_Reader_isSomebody) (as := [VR (some 14), VI q2]) (r := fun q => some (VI q.1)) (M' := fun q => q.2) (kInvV (dt_Reader_friendLine 21 _ _ _ rfl) kin_Reader_isSomebody 7 rfl (sc_14 hS) kse_Reader_isSomebody rfl) kl_Reader_134 md_Reader_isSomebody rfl rfl (fun q hq => c_Reader_isSomebody hS q2 q1 q hq) (fun q3 => ?_)
    refine s_if_ne (tgt := 48) (dt_Reader_friendLine 22 _ _ _ rfl) rfl ?_ ?_
    · refine s_iconst (dt_Reader_friendLine 23 _ _ _ rfl) rfl ?_
      exact s_zret01 (dt_Reader_friendLine 24 _ _ _ rfl) rfl rfl rfl
    · refine s_aload_n (dt_Reader_friendLine 25 _ _ _ rfl) rfl ?_
      refine s_callO (y := y_Reader_step) (Y' := Y_Reader_step) (as := [VR (some 14)]) (r := fun q => none) (M' := fun q => q) (kInvV (dt_Reader_friendLine 26 _ _ _ rfl) kin_Reader_step 7 rfl (sc_14 hS) kse_Reader_step rfl) kl_Reader_53 md_Reader_step rfl rfl (fun q hq => c_Reader_step hS q3.2 q hq) (fun q4 => ?_)
      refine s_aload_n (dt_Reader_friendLine 27 _ _ _ rfl) rfl ?_
      refine s_sipush (dt_Reader_friendLine 28 _ _ _ rfl) rfl ?_
      refine s_callO (y := y_Reader_take) (Y' := Y_Reader_take) (as := [VR (some 14), VI (134 : Int)]) (r := fun q => some (VI q.1)) (M' := fun q => q.2) (kInvV (dt_Reader_friendLine 29 _ _ _ rfl) kin_Reader_take 7 rfl (sc_14 hS) kse_Reader_take rfl) kl_Reader_120 md_Reader_take rfl rfl (fun q hq => c_Reader_take hS (134 : Int) q4 q hq) (fun q5 => ?_)
      refine s_if_ne (tgt := 64) (dt_Reader_friendLine 30 _ _ _ rfl) rfl ?_ ?_
      · refine s_iconst (dt_Reader_friendLine 31 _ _ _ rfl) rfl ?_
        exact s_zret01 (dt_Reader_friendLine 32 _ _ _ rfl) rfl rfl rfl
      · refine s_aload_n (dt_Reader_friendLine 33 _ _ _ rfl) rfl ?_
        refine s_aload_n (dt_Reader_friendLine 34 _ _ _ rfl) rfl ?_
        refine s_getR (c := 7) (j := 10) (o := (some 32)) (dt_Reader_friendLine 35 _ _ _ rfl) (kf_Reader_32) (sc_14 hS) rfl rfl ?_
        refine s_aload_n (dt_Reader_friendLine 36 _ _ _ rfl) rfl ?_
        refine s_getR (c := 7) (j := 2) (o := (some 15)) (dt_Reader_friendLine 37 _ _ _ rfl) (kf_Reader_21) (sc_14 hS) rfl rfl ?_
        refine s_getI (c := 12) (j := 0) (dt_Reader_friendLine 38 _ _ _ rfl) (kf_Reader_96) (sc_15 hS) rfl ?_
        refine s_callO (y := y_Reader_placeAmong) (Y' := Y_Reader_placeAmong) (as := [VR (some 14), VR (some 32), VI (q5.2 15 0)]) (r := fun q => some (VI q)) (M' := fun q => q5.2) (kInvV (dt_Reader_friendLine 39 _ _ _ rfl) kin_Reader_placeAmong 7 rfl (sc_14 hS) kse_Reader_placeAmong rfl) kl_Reader_123 md_Reader_placeAmong rfl rfl (fun q hq => c_Reader_placeAmongP hS (q5.2 15 0) q5.2 q hq) (fun q6 => ?_)
        refine s_istore_n (dt_Reader_friendLine 40 _ _ _ rfl) rfl ?_
        refine s_aload_n (dt_Reader_friendLine 41 _ _ _ rfl) rfl ?_
        refine s_iload_n (dt_Reader_friendLine 42 _ _ _ rfl) rfl ?_
        refine s_callO (y := y_Reader_isSomebody) (Y' := Y_Reader_isSomebody) (as := [VR (some 14), VI q6]) (r := fun q => some (VI q.1)) (M' := fun q => q.2) (kInvV (dt_Reader_friendLine 43 _ _ _ rfl) kin_Reader_isSomebody 7 rfl (sc_14 hS) kse_Reader_isSomebody rfl) kl_Reader_134 md_Reader_isSomebody rfl rfl (fun q hq => c_Reader_isSomebody hS q6 q5.2 q hq) (fun q7 => ?_)
        refine s_if_ne (tgt := 90) (dt_Reader_friendLine 44 _ _ _ rfl) rfl ?_ ?_
        · refine s_iconst (dt_Reader_friendLine 45 _ _ _ rfl) rfl ?_
          exact s_zret01 (dt_Reader_friendLine 46 _ _ _ rfl) rfl rfl rfl
        · refine s_iload_n (dt_Reader_friendLine 47 _ _ _ rfl) rfl ?_
          refine s_iload_n (dt_Reader_friendLine 48 _ _ _ rfl) rfl ?_
          refine s_if_icmp_eq (tgt := 108) (dt_Reader_friendLine 49 _ _ _ rfl) rfl ?_ ?_
          · refine s_aload_n (dt_Reader_friendLine 57 _ _ _ rfl) rfl ?_
            refine s_iconst (dt_Reader_friendLine 58 _ _ _ rfl) rfl ?_
            refine s_callO (y := y_Reader_refuse) (Y' := Y_Reader_refuse) (as := [VR (some 14), VI (3 : Int)]) (r := fun q => some (VI q.1)) (M' := fun q => q.2) (kInvV (dt_Reader_friendLine 59 _ _ _ rfl) kin_Reader_refuse 7 rfl (sc_14 hS) kse_Reader_refuse rfl) kl_Reader_92 md_Reader_refuse rfl rfl (fun q hq => c_Reader_refuse hS (3 : Int) q7.2 q hq) (fun q8 => ?_)
            exact s_zret (dt_Reader_friendLine 60 _ _ _ rfl) rfl rfl
          · refine s_aload_n (dt_Reader_friendLine 50 _ _ _ rfl) rfl ?_
            refine s_getR (c := 7) (j := 2) (o := (some 15)) (dt_Reader_friendLine 51 _ _ _ rfl) (kf_Reader_21) (sc_14 hS) rfl rfl ?_
            refine s_iload_n (dt_Reader_friendLine 52 _ _ _ rfl) rfl ?_
            refine s_iload_n (dt_Reader_friendLine 53 _ _ _ rfl) rfl ?_
            refine s_callO (y := y_Town_friendsOf) (Y' := Y_Town_friendsOf) (as := [VR (some 15), VI q2, VI q6]) (r := fun q => some (VI q)) (M' := fun q => q7.2) (kInvV (dt_Reader_friendLine 54 _ _ _ rfl) kin_Town_friendsOf 12 rfl (sc_15 hS) kse_Town_friendsOf rfl) kl_Reader_137 md_Town_friendsOf rfl rfl (fun q hq => c_Town_friendsOfD hS q2 q6 q7.2 q hq) (fun q9 => ?_)
            refine s_iconst (dt_Reader_friendLine 55 _ _ _ rfl) rfl ?_
            refine s_if_icmp_eq (tgt := 114) (dt_Reader_friendLine 56 _ _ _ rfl) rfl ?_ ?_
            · refine s_aload_n (dt_Reader_friendLine 61 _ _ _ rfl) rfl ?_
              refine s_callO (y := y_Reader_step) (Y' := Y_Reader_step) (as := [VR (some 14)]) (r := fun q => none) (M' := fun q => q) (kInvV (dt_Reader_friendLine 62 _ _ _ rfl) kin_Reader_step 7 rfl (sc_14 hS) kse_Reader_step rfl) kl_Reader_53 md_Reader_step rfl rfl (fun q hq => c_Reader_step hS q7.2 q hq) (fun q10 => ?_)
              refine s_aload_n (dt_Reader_friendLine 63 _ _ _ rfl) rfl ?_
              refine s_sipush (dt_Reader_friendLine 64 _ _ _ rfl) rfl ?_
              refine s_iconst (dt_Reader_friendLine 65 _ _ _ rfl) rfl ?_
              refine s_bipush (dt_Reader_friendLine 66 _ _ _ rfl) rfl ?_
              refine s_callO (y := y_Reader_takeNumber) (Y' := Y_Reader_takeNumber) (as := [VR (some 14), VI (135 : Int), VI (0 : Int), VI (99 : Int)]) (r := fun q => some (VI q.1)) (M' := fun q => q.2) (kInvV (dt_Reader_friendLine 67 _ _ _ rfl) kin_Reader_takeNumber 7 rfl (sc_14 hS) kse_Reader_takeNumber rfl) kl_Reader_109 md_Reader_takeNumber rfl rfl (fun q hq => c_Reader_takeNumber hS (135 : Int) (0 : Int) (99 : Int) q10 q hq) (fun q11 => ?_)
              refine s_if_ne (tgt := 133) (dt_Reader_friendLine 68 _ _ _ rfl) rfl ?_ ?_
              · refine s_iconst (dt_Reader_friendLine 69 _ _ _ rfl) rfl ?_
                exact s_zret01 (dt_Reader_friendLine 70 _ _ _ rfl) rfl rfl rfl
              · refine s_aload_n (dt_Reader_friendLine 71 _ _ _ rfl) rfl ?_
                refine s_getR (c := 7) (j := 2) (o := (some 15)) (dt_Reader_friendLine 72 _ _ _ rfl) (kf_Reader_21) (sc_14 hS) rfl rfl ?_
                refine s_iload_n (dt_Reader_friendLine 73 _ _ _ rfl) rfl ?_
                refine s_iload_n (dt_Reader_friendLine 74 _ _ _ rfl) rfl ?_
                refine s_aload_n (dt_Reader_friendLine 75 _ _ _ rfl) rfl ?_
                refine s_getI (c := 7) (j := 9) (dt_Reader_friendLine 76 _ _ _ rfl) (kf_Reader_113) (sc_14 hS) rfl ?_
                refine s_callO (y := y_Town_addFriends) (Y' := Y_Town_addFriends) (as := [VR (some 15), VI q2, VI q6, VI (q11.2 14 9)]) (r := fun q => none) (M' := fun q => q) (kInvV (dt_Reader_friendLine 77 _ _ _ rfl) kin_Town_addFriends 12 rfl (sc_15 hS) kse_Town_addFriends rfl) kl_Reader_141 md_Town_addFriends rfl rfl (fun q hq => c_Town_addFriends hS q2 q6 (q11.2 14 9) q11.2 q hq) (fun q12 => ?_)
                refine s_aload_n (dt_Reader_friendLine 78 _ _ _ rfl) rfl ?_
                refine s_bipush (dt_Reader_friendLine 79 _ _ _ rfl) rfl ?_
                refine s_callO (y := y_Reader_take) (Y' := Y_Reader_take) (as := [VR (some 14), VI (59 : Int)]) (r := fun q => some (VI q.1)) (M' := fun q => q.2) (kInvV (dt_Reader_friendLine 80 _ _ _ rfl) kin_Reader_take 7 rfl (sc_14 hS) kse_Reader_take rfl) kl_Reader_120 md_Reader_take rfl rfl (fun q hq => c_Reader_take hS (59 : Int) q12 q hq) (fun q13 => ?_)
                exact s_zret (dt_Reader_friendLine 81 _ _ _ rfl) rfl rfl
            · refine s_aload_n (dt_Reader_friendLine 57 _ _ _ rfl) rfl ?_
              refine s_iconst (dt_Reader_friendLine 58 _ _ _ rfl) rfl ?_
              refine s_callO (y := y_Reader_refuse) (Y' := Y_Reader_refuse) (as := [VR (some 14), VI (3 : Int)]) (r := fun q => some (VI q.1)) (M' := fun q => q.2) (kInvV (dt_Reader_friendLine 59 _ _ _ rfl) kin_Reader_refuse 7 rfl (sc_14 hS) kse_Reader_refuse rfl) kl_Reader_92 md_Reader_refuse rfl rfl (fun q hq => c_Reader_refuse hS (3 : Int) q7.2 q hq) (fun q14 => ?_)
              exact s_zret (dt_Reader_friendLine 60 _ _ _ rfl) rfl rfl
  · refine s_aload_n (dt_Reader_friendLine 5 _ _ _ rfl) rfl ?_
    refine s_iconst (dt_Reader_friendLine 6 _ _ _ rfl) rfl ?_
    refine s_callO (y := y_Reader_refuse) (Y' := Y_Reader_refuse) (as := [VR (some 14), VI (2 : Int)]) (r := fun q => some (VI q.1)) (M' := fun q => q.2) (kInvV (dt_Reader_friendLine 7 _ _ _ rfl) kin_Reader_refuse 7 rfl (sc_14 hS) kse_Reader_refuse rfl) kl_Reader_92 md_Reader_refuse rfl rfl (fun q hq => c_Reader_refuse hS (2 : Int) M q hq) (fun q15 => ?_)
    exact s_zret (dt_Reader_friendLine 8 _ _ _ rfl) rfl rfl
theorem c_Reader_friendLine {S : KS} (hS : KExt 382 S)   (M : KM) : ∀ q, f_Reader_friendLine  M = some q → Ctr y_Reader_friendLine Y_Reader_friendLine [VR (some 14)] S M (some (VI q.1)) S (q.2) := fun q hq =>
  ctr_of md_Reader_friendLine (Nat.le_of_ble_eq_true rfl) ⟨Nat.le_refl _, Nat.le_refl _⟩ 2 hq rfl (fun _ G => sim_Reader_friendLine hS   M)
set_option maxRecDepth 100000 in
theorem sim_Formulas_add {G : Gam} {S : KS} (hS : KExt 382 S)  (a0 : Int) (M : KM) : Sim G Y_Formulas_add (f_Formulas_add a0 M) (kC 0 [some (VR (some 24)), some (VI a0)] [] S M) (fun (q : KM) => Sum.inr (none, S, q)) := by
  unfold f_Formulas_add
  refine s_aload_n (dt_Formulas_add 0 _ _ _ rfl) rfl ?_
  refine s_getI (c := 4) (j := 1) (dt_Formulas_add 1 _ _ _ rfl) (kf_Formulas_18) (sc_24 hS) rfl ?_
  refine s_bd (κ := fun t3 => kC 39 [none, none] [] S t3) ?_ (fun t3 => ?_)
  · refine s_if_lt (tgt := 39) (dt_Formulas_add 2 _ _ _ rfl) rfl ?_ ?_
    · exact s_mask [false, false] (s_ret0 rfl)
    · refine s_aload_n (dt_Formulas_add 3 _ _ _ rfl) rfl ?_
      refine s_getI (c := 4) (j := 1) (dt_Formulas_add 4 _ _ _ rfl) (kf_Formulas_18) (sc_24 hS) rfl ?_
      refine s_aload_n (dt_Formulas_add 5 _ _ _ rfl) rfl ?_
      refine s_getR (c := 4) (j := 0) (o := (some 25)) (dt_Formulas_add 6 _ _ _ rfl) (kf_Formulas_9) (sc_24 hS) rfl rfl ?_
      refine s_alen (N := 1600) (dt_Formulas_add 7 _ _ _ rfl) (sc_25 hS) rfl rfl (by decide) ?_
      refine s_if_icmp_ge (tgt := 39) (dt_Formulas_add 8 _ _ _ rfl) rfl ?_ ?_
      · refine s_aload_n (dt_Formulas_add 9 _ _ _ rfl) rfl ?_
        refine s_getR (c := 4) (j := 0) (o := (some 25)) (dt_Formulas_add 10 _ _ _ rfl) (kf_Formulas_9) (sc_24 hS) rfl rfl ?_
        refine s_aload_n (dt_Formulas_add 11 _ _ _ rfl) rfl ?_
        refine s_getI (c := 4) (j := 1) (dt_Formulas_add 12 _ _ _ rfl) (kf_Formulas_18) (sc_24 hS) rfl ?_
        refine s_iload_n (dt_Formulas_add 13 _ _ _ rfl) rfl ?_
        refine s_iast (N := 1600) (dt_Formulas_add 14 _ _ _ rfl) (sc_25 hS) rfl ?_
        refine s_letM (fun M1 => ?_)
        refine s_aload_n (dt_Formulas_add 15 _ _ _ rfl) rfl ?_
        refine s_dup (dt_Formulas_add 16 _ _ _ rfl) rfl ?_
        refine s_getI (c := 4) (j := 1) (dt_Formulas_add 17 _ _ _ rfl) (kf_Formulas_18) (sc_24 hS) rfl ?_
        refine s_iconst (dt_Formulas_add 18 _ _ _ rfl) rfl ?_
        refine s_iadd (dt_Formulas_add 19 _ _ _ rfl) ?_
        refine s_putI (c := 4) (j := 1) (dt_Formulas_add 20 _ _ _ rfl) kp_Formulas_18 (sc_24 hS) ⟨rfl, rfl⟩ ?_
        refine s_letM (fun M2 => ?_)
        exact s_mask [false, false] (s_ret0 rfl)
      · exact s_mask [false, false] (s_ret0 rfl)
  exact s_vret (dt_Formulas_add 21 _ _ _ rfl) rfl rfl
theorem c_Formulas_add {S : KS} (hS : KExt 382 S)  (a0 : Int) (M : KM) : ∀ q, f_Formulas_add a0 M = some q → Ctr y_Formulas_add Y_Formulas_add [VR (some 24), VI a0] S M (none) S (q) := fun q hq =>
  ctr_of md_Formulas_add (Nat.le_of_ble_eq_true rfl) ⟨Nat.le_refl _, Nat.le_refl _⟩ 0 hq rfl (fun _ G => sim_Formulas_add hS  a0 M)
set_option maxRecDepth 100000 in
theorem sim_Reader_leafStep {G : Gam} {S : KS} (hS : KExt 382 S)   (M : KM) : Sim G Y_Reader_leafStep (f_Reader_leafStep  M) (kC 0 [some (VR (some 14))] [] S M) (fun (q : Int) => Sum.inr (some (VI q), S, M)) := by
  unfold f_Reader_leafStep
  refine s_aload_n (dt_Reader_leafStep 0 _ _ _ rfl) rfl ?_
  refine s_getI (c := 7) (j := 5) (dt_Reader_leafStep 1 _ _ _ rfl) (kf_Reader_59) (sc_14 hS) rfl ?_
  refine s_lcase (tgt := 56) (dt_Reader_leafStep 2 _ _ _ rfl) rfl rfl rfl ?_ (fun h1 => ?_)
  · refine s_sipush (dt_Reader_leafStep 3 _ _ _ rfl) rfl ?_
    refine s_aload_n (dt_Reader_leafStep 4 _ _ _ rfl) rfl ?_
    refine s_getR (c := 7) (j := 3) (o := (some 27)) (dt_Reader_leafStep 5 _ _ _ rfl) (kf_Reader_28) (sc_14 hS) rfl rfl ?_
    refine s_getR (c := 11) (j := 2) (o := (some 30)) (dt_Reader_leafStep 6 _ _ _ rfl) (kf_Reader_170) (sc_27 hS) rfl rfl ?_
    refine s_aload_n (dt_Reader_leafStep 7 _ _ _ rfl) rfl ?_
    refine s_getI (c := 7) (j := 4) (dt_Reader_leafStep 8 _ _ _ rfl) (kf_Reader_50) (sc_14 hS) rfl ?_
    refine s_inv (y := y_X_at) (Y' := Y_X_at) (as := [VR (some 30), VI (M 14 4)]) (r := some (VI (atM M 30 1601 (M 14 4)))) (M' := M) (kInvS (dt_Reader_leafStep 9 _ _ _ rfl) kst_X_at rfl) kl_Reader_173 md_X_at rfl rfl (c_X_at hS ⟨(sc_30 hS), by decide⟩ (M 14 4) M) ?_
    refine s_iadd (dt_Reader_leafStep 10 _ _ _ rfl) ?_
    exact s_iret (dt_Reader_leafStep 11 _ _ _ rfl) rfl rfl
  refine s_lcase (tgt := 75) (dt_Reader_leafStep 2 _ _ _ rfl) rfl rfl rfl ?_ (fun h2 => ?_)
  · refine s_iconst (dt_Reader_leafStep 12 _ _ _ rfl) rfl ?_
    exact s_iret (dt_Reader_leafStep 13 _ _ _ rfl) rfl rfl
  refine s_lcase (tgt := 77) (dt_Reader_leafStep 2 _ _ _ rfl) rfl rfl rfl ?_ (fun h3 => ?_)
  · refine s_iconst (dt_Reader_leafStep 14 _ _ _ rfl) rfl ?_
    exact s_iret (dt_Reader_leafStep 15 _ _ _ rfl) rfl rfl
  refine s_lcase (tgt := 81) (dt_Reader_leafStep 2 _ _ _ rfl) rfl rfl rfl ?_ (fun h4 => ?_)
  · refine s_iconst (dt_Reader_leafStep 18 _ _ _ rfl) rfl ?_
    exact s_iret (dt_Reader_leafStep 19 _ _ _ rfl) rfl rfl
  refine s_lcase (tgt := 79) (dt_Reader_leafStep 2 _ _ _ rfl) rfl rfl rfl ?_ (fun h5 => ?_)
  · refine s_iconst (dt_Reader_leafStep 16 _ _ _ rfl) rfl ?_
    exact s_iret (dt_Reader_leafStep 17 _ _ _ rfl) rfl rfl
  refine s_ldef (tgt := 83) (off := 79) (dt_Reader_leafStep 2 _ _ _ rfl) rfl (by show Op.lookupswitch.offset [(2, 52), (129, 71), (130, 73), (132, 77), (143, 75)] _ _ = _; rw [kos_ne h1, kos_ne h2, kos_ne h3, kos_ne h4, kos_ne h5]; rfl) rfl ?_
  refine s_iconst (dt_Reader_leafStep 20 _ _ _ rfl) rfl ?_
  exact s_iret (dt_Reader_leafStep 21 _ _ _ rfl) rfl rfl
theorem c_Reader_leafStep {S : KS} (hS : KExt 382 S)   (M : KM) : ∀ q, f_Reader_leafStep  M = some q → Ctr y_Reader_leafStep Y_Reader_leafStep [VR (some 14)] S M (some (VI q)) S (M) := fun q hq =>
  ctr_of md_Reader_leafStep (Nat.le_of_ble_eq_true rfl) ⟨Nat.le_refl _, Nat.le_refl _⟩ 0 hq rfl (fun _ G => sim_Reader_leafStep hS   M)
set_option maxRecDepth 100000 in
theorem sJ_Reader_unit_31 {G : Gam} {S : KS} (hS : KExt 382 S)  {F : Nat → Int → KM → Option (Int × KM)} {d : Nat} (hF_Reader_either : ∀ (a : Int) (M : KM) q, F 0 a M = some q → Ctr y_Reader_either (Y_Reader_either d) [VR (some 14), VI a] S M (some (VI q.1)) S q.2) (hF_Reader_both : ∀ (a : Int) (M : KM) q, F 1 a M = some q → Ctr y_Reader_both (Y_Reader_both d) [VR (some 14), VI a] S M (some (VI q.1)) S q.2) (hF_Reader_one : ∀ (a : Int) (M : KM) q, F 2 a M = some q → Ctr y_Reader_one (Y_Reader_one d) [VR (some 14), VI a] S M (some (VI q.1)) S q.2) (hF_Reader_amount : ∀ (a : Int) (M : KM) q, F 3 a M = some q → Ctr y_Reader_amount (Y_Reader_amount d) [VR (some 14), VI a] S M (some (VI q.1)) S q.2) (hF_Reader_term : ∀ (a : Int) (M : KM) q, F 4 a M = some q → Ctr y_Reader_term (Y_Reader_term d) [VR (some 14), VI a] S M (some (VI q.1)) S q.2) (hF_Reader_unit : ∀ (a : Int) (M : KM) q, F 5 a M = some q → Ctr y_Reader_unit (Y_Reader_unit d) [VR (some 14), VI a] S M (some (VI q.1)) S q.2) (a0 : Int) (M : KM) (j2 : Int) (M3 : KM) : Sim G (Y_Reader_unit (d + 1)) (J_Reader_unit_31 F a0 M j2 M3) (kC 31 [some (VR (some 14)), some (VI a0), some (VI j2)] [] S M3) (fun (q : Int × KM) => Sum.inr (some (VI q.1), S, q.2)) := by
  unfold J_Reader_unit_31
  refine s_aload_n (dt_Reader_unit 17 _ _ _ rfl) rfl ?_
  refine s_getI (c := 7) (j := 8) (dt_Reader_unit 18 _ _ _ rfl) (kf_Reader_177) (sc_14 hS) rfl ?_
  refine s_bipush (dt_Reader_unit 19 _ _ _ rfl) rfl ?_
  refine s_if_icmp_ge (tgt := 52) (dt_Reader_unit 20 _ _ _ rfl) rfl ?_ ?_
  · refine s_aload_n (dt_Reader_unit 21 _ _ _ rfl) rfl ?_
    refine s_getR (c := 7) (j := 2) (o := (some 15)) (dt_Reader_unit 22 _ _ _ rfl) (kf_Reader_21) (sc_14 hS) rfl rfl ?_
    refine s_getI (c := 12) (j := 15) (dt_Reader_unit 23 _ _ _ rfl) (kf_Reader_205) (sc_15 hS) rfl ?_
    refine s_bipush (dt_Reader_unit 24 _ _ _ rfl) rfl ?_
    refine s_if_icmp_lt (tgt := 58) (dt_Reader_unit 25 _ _ _ rfl) rfl ?_ ?_
    · refine s_aload_n (dt_Reader_unit 30 _ _ _ rfl) rfl ?_
      refine s_dup (dt_Reader_unit 31 _ _ _ rfl) rfl ?_
      refine s_getI (c := 7) (j := 8) (dt_Reader_unit 32 _ _ _ rfl) (kf_Reader_177) (sc_14 hS) rfl ?_
      refine s_iconst (dt_Reader_unit 33 _ _ _ rfl) rfl ?_
      refine s_iadd (dt_Reader_unit 34 _ _ _ rfl) ?_
      refine s_putI (c := 7) (j := 8) (dt_Reader_unit 35 _ _ _ rfl) kp_Reader_177 (sc_14 hS) ⟨rfl, rfl⟩ ?_
      refine s_letM (fun M4 => ?_)
      refine s_aload_n (dt_Reader_unit 36 _ _ _ rfl) rfl ?_
      refine s_getR (c := 7) (j := 2) (o := (some 15)) (dt_Reader_unit 37 _ _ _ rfl) (kf_Reader_21) (sc_14 hS) rfl rfl ?_
      refine s_dup (dt_Reader_unit 38 _ _ _ rfl) rfl ?_
      refine s_getI (c := 12) (j := 15) (dt_Reader_unit 39 _ _ _ rfl) (kf_Reader_205) (sc_15 hS) rfl ?_
      refine s_iconst (dt_Reader_unit 40 _ _ _ rfl) rfl ?_
      refine s_iadd (dt_Reader_unit 41 _ _ _ rfl) ?_
      refine s_putI (c := 12) (j := 15) (dt_Reader_unit 42 _ _ _ rfl) kp_Reader_205 (sc_15 hS) ⟨rfl, rfl⟩ ?_
      refine s_letM (fun M5 => ?_)
      refine s_aload_n (dt_Reader_unit 43 _ _ _ rfl) rfl ?_
      refine s_callO (y := y_Reader_step) (Y' := Y_Reader_step) (as := [VR (some 14)]) (r := fun q => none) (M' := fun q => q) (kInvV (dt_Reader_unit 44 _ _ _ rfl) kin_Reader_step 7 rfl (sc_14 hS) kse_Reader_step rfl) kl_Reader_53 md_Reader_step rfl rfl (fun q hq => c_Reader_step hS M5 q hq) (fun q6 => ?_)
      refine s_iload_n (dt_Reader_unit 45 _ _ _ rfl) rfl ?_
      refine s_iconst (dt_Reader_unit 46 _ _ _ rfl) rfl ?_
      refine s_if_icmp_eq (tgt := 103) (dt_Reader_unit 47 _ _ _ rfl) rfl ?_ ?_
      · refine s_aload_n (dt_Reader_unit 55 _ _ _ rfl) rfl ?_
        refine s_iload_n (dt_Reader_unit 56 _ _ _ rfl) rfl ?_
        refine s_iconst (dt_Reader_unit 57 _ _ _ rfl) rfl ?_
        refine s_iadd (dt_Reader_unit 58 _ _ _ rfl) ?_
        refine s_callO (y := y_Reader_either) (Y' := (Y_Reader_either d)) (as := [VR (some 14), VI (w32 (a0 + (1 : Int)))]) (r := fun q => some (VI q.1)) (M' := fun q => q.2) (kInvV (dt_Reader_unit 59 _ _ _ rfl) kin_Reader_either 7 rfl (sc_14 hS) kse_Reader_either rfl) kl_Reader_180 (md_Reader_either _) rfl (kbleR d rfl) (fun q hq => hF_Reader_either (w32 (a0 + (1 : Int))) q6 q hq) (fun q7 => ?_)
        refine s_bd (κ := fun t9 => kC 127 [none, none, none] [VI t9.1] S t9.2) ?_ (fun t9 => ?_)
        · refine s_if_eq (tgt := 126) (dt_Reader_unit 60 _ _ _ rfl) rfl ?_ ?_
          · refine s_iconst (dt_Reader_unit 67 _ _ _ rfl) rfl ?_
            exact s_mask [false, false, false] (s_ret0 rfl)
          · refine s_aload_n (dt_Reader_unit 61 _ _ _ rfl) rfl ?_
            refine s_bipush (dt_Reader_unit 62 _ _ _ rfl) rfl ?_
            refine s_callO (y := y_Reader_take) (Y' := Y_Reader_take) (as := [VR (some 14), VI (41 : Int)]) (r := fun q => some (VI q.1)) (M' := fun q => q.2) (kInvV (dt_Reader_unit 63 _ _ _ rfl) kin_Reader_take 7 rfl (sc_14 hS) kse_Reader_take rfl) kl_Reader_120 md_Reader_take rfl rfl (fun q hq => c_Reader_take hS (41 : Int) q7.2 q hq) (fun q8 => ?_)
            refine s_if_eq (tgt := 126) (dt_Reader_unit 64 _ _ _ rfl) rfl ?_ ?_
            · refine s_iconst (dt_Reader_unit 67 _ _ _ rfl) rfl ?_
              exact s_mask [false, false, false] (s_ret0 rfl)
            · refine s_iconst (dt_Reader_unit 65 _ _ _ rfl) rfl ?_
              refine s_goto (tgt := 127) (dt_Reader_unit 66 _ _ _ rfl) rfl ?_
              exact s_mask [false, false, false] (s_ret0 rfl)
        exact s_zret (dt_Reader_unit 68 _ _ _ rfl) rfl rfl
      · refine s_aload_n (dt_Reader_unit 48 _ _ _ rfl) rfl ?_
        refine s_getR (c := 7) (j := 2) (o := (some 15)) (dt_Reader_unit 49 _ _ _ rfl) (kf_Reader_21) (sc_14 hS) rfl rfl ?_
        refine s_getR (c := 12) (j := 16) (o := (some 24)) (dt_Reader_unit 50 _ _ _ rfl) (kf_Reader_148) (sc_15 hS) rfl rfl ?_
        refine s_iload_n (dt_Reader_unit 51 _ _ _ rfl) rfl ?_
        refine s_callO (y := y_Formulas_add) (Y' := Y_Formulas_add) (as := [VR (some 24), VI j2]) (r := fun q => none) (M' := fun q => q) (kInvV (dt_Reader_unit 52 _ _ _ rfl) kin_Formulas_add 4 rfl (sc_24 hS) kse_Formulas_add rfl) kl_Reader_183 md_Formulas_add rfl rfl (fun q hq => c_Formulas_add hS j2 q6 q hq) (fun q10 => ?_)
        refine s_iconst (dt_Reader_unit 53 _ _ _ rfl) rfl ?_
        exact s_zret01 (dt_Reader_unit 54 _ _ _ rfl) rfl rfl rfl
    · refine s_aload_n (dt_Reader_unit 26 _ _ _ rfl) rfl ?_
      refine s_iconst (dt_Reader_unit 27 _ _ _ rfl) rfl ?_
      refine s_callO (y := y_Reader_refuse) (Y' := Y_Reader_refuse) (as := [VR (some 14), VI (2 : Int)]) (r := fun q => some (VI q.1)) (M' := fun q => q.2) (kInvV (dt_Reader_unit 28 _ _ _ rfl) kin_Reader_refuse 7 rfl (sc_14 hS) kse_Reader_refuse rfl) kl_Reader_92 md_Reader_refuse rfl rfl (fun q hq => c_Reader_refuse hS (2 : Int) M3 q hq) (fun q11 => ?_)
      exact s_zret (dt_Reader_unit 29 _ _ _ rfl) rfl rfl
  · refine s_aload_n (dt_Reader_unit 26 _ _ _ rfl) rfl ?_
    refine s_iconst (dt_Reader_unit 27 _ _ _ rfl) rfl ?_
    refine s_callO (y := y_Reader_refuse) (Y' := Y_Reader_refuse) (as := [VR (some 14), VI (2 : Int)]) (r := fun q => some (VI q.1)) (M' := fun q => q.2) (kInvV (dt_Reader_unit 28 _ _ _ rfl) kin_Reader_refuse 7 rfl (sc_14 hS) kse_Reader_refuse rfl) kl_Reader_92 md_Reader_refuse rfl rfl (fun q hq => c_Reader_refuse hS (2 : Int) M3 q hq) (fun q12 => ?_)
    exact s_zret (dt_Reader_unit 29 _ _ _ rfl) rfl rfl
set_option maxRecDepth 100000 in
theorem sim_Reader_unit {G : Gam} {S : KS} (hS : KExt 382 S) {F : Nat → Int → KM → Option (Int × KM)} {d : Nat} (hF_Reader_either : ∀ (a : Int) (M : KM) q, F 0 a M = some q → Ctr y_Reader_either (Y_Reader_either d) [VR (some 14), VI a] S M (some (VI q.1)) S q.2) (hF_Reader_both : ∀ (a : Int) (M : KM) q, F 1 a M = some q → Ctr y_Reader_both (Y_Reader_both d) [VR (some 14), VI a] S M (some (VI q.1)) S q.2) (hF_Reader_one : ∀ (a : Int) (M : KM) q, F 2 a M = some q → Ctr y_Reader_one (Y_Reader_one d) [VR (some 14), VI a] S M (some (VI q.1)) S q.2) (hF_Reader_amount : ∀ (a : Int) (M : KM) q, F 3 a M = some q → Ctr y_Reader_amount (Y_Reader_amount d) [VR (some 14), VI a] S M (some (VI q.1)) S q.2) (hF_Reader_term : ∀ (a : Int) (M : KM) q, F 4 a M = some q → Ctr y_Reader_term (Y_Reader_term d) [VR (some 14), VI a] S M (some (VI q.1)) S q.2) (hF_Reader_unit : ∀ (a : Int) (M : KM) q, F 5 a M = some q → Ctr y_Reader_unit (Y_Reader_unit d) [VR (some 14), VI a] S M (some (VI q.1)) S q.2)  (a0 : Int) (M : KM) : Sim G (Y_Reader_unit (d + 1)) (f_Reader_unit F a0 M) (kC 0 [some (VR (some 14)), some (VI a0), none] [] S M) (fun (q : Int × KM) => Sum.inr (some (VI q.1), S, q.2)) := by
  unfold f_Reader_unit
  refine s_aload_n (dt_Reader_unit 0 _ _ _ rfl) rfl ?_
  refine s_callO (y := y_Reader_leafStep) (Y' := Y_Reader_leafStep) (as := [VR (some 14)]) (r := fun q => some (VI q)) (M' := fun q => M) (kInvV (dt_Reader_unit 1 _ _ _ rfl) kin_Reader_leafStep 7 rfl (sc_14 hS) kse_Reader_leafStep rfl) kl_Reader_201 md_Reader_leafStep rfl rfl (fun q hq => c_Reader_leafStep hS M q hq) (fun q1 => ?_)
  refine s_istore_n (dt_Reader_unit 2 _ _ _ rfl) rfl ?_
  refine s_iload_n (dt_Reader_unit 3 _ _ _ rfl) rfl ?_
  refine s_iconst (dt_Reader_unit 4 _ _ _ rfl) rfl ?_
  refine s_if_icmp_ne (tgt := 31) (dt_Reader_unit 5 _ _ _ rfl) rfl ?_ ?_
  · refine s_aload_n (dt_Reader_unit 6 _ _ _ rfl) rfl ?_
    refine s_getI (c := 7) (j := 5) (dt_Reader_unit 7 _ _ _ rfl) (kf_Reader_59) (sc_14 hS) rfl ?_
    refine s_bipush (dt_Reader_unit 8 _ _ _ rfl) rfl ?_
    refine s_if_icmp_ne (tgt := 25) (dt_Reader_unit 9 _ _ _ rfl) rfl ?_ ?_
    · refine s_iload_n (dt_Reader_unit 10 _ _ _ rfl) rfl ?_
      refine s_bipush (dt_Reader_unit 11 _ _ _ rfl) rfl ?_
      refine s_if_icmp_le (tgt := 31) (dt_Reader_unit 12 _ _ _ rfl) rfl ?_ ?_
      · exact s_mask [true, true, true] (sJ_Reader_unit_31 hS hF_Reader_either hF_Reader_both hF_Reader_one hF_Reader_amount hF_Reader_term hF_Reader_unit a0 M q1 M)
      · refine s_aload_n (dt_Reader_unit 13 _ _ _ rfl) rfl ?_
        refine s_iconst (dt_Reader_unit 14 _ _ _ rfl) rfl ?_
        refine s_callO (y := y_Reader_refuse) (Y' := Y_Reader_refuse) (as := [VR (some 14), VI (2 : Int)]) (r := fun q => some (VI q.1)) (M' := fun q => q.2) (kInvV (dt_Reader_unit 15 _ _ _ rfl) kin_Reader_refuse 7 rfl (sc_14 hS) kse_Reader_refuse rfl) kl_Reader_92 md_Reader_refuse rfl rfl (fun q hq => c_Reader_refuse hS (2 : Int) M q hq) (fun q13 => ?_)
        exact s_zret (dt_Reader_unit 16 _ _ _ rfl) rfl rfl
    · refine s_aload_n (dt_Reader_unit 13 _ _ _ rfl) rfl ?_
      refine s_iconst (dt_Reader_unit 14 _ _ _ rfl) rfl ?_
      refine s_callO (y := y_Reader_refuse) (Y' := Y_Reader_refuse) (as := [VR (some 14), VI (2 : Int)]) (r := fun q => some (VI q.1)) (M' := fun q => q.2) (kInvV (dt_Reader_unit 15 _ _ _ rfl) kin_Reader_refuse 7 rfl (sc_14 hS) kse_Reader_refuse rfl) kl_Reader_92 md_Reader_refuse rfl rfl (fun q hq => c_Reader_refuse hS (2 : Int) M q hq) (fun q14 => ?_)
      exact s_zret (dt_Reader_unit 16 _ _ _ rfl) rfl rfl
  · exact s_mask [true, true, true] (sJ_Reader_unit_31 hS hF_Reader_either hF_Reader_both hF_Reader_one hF_Reader_amount hF_Reader_term hF_Reader_unit a0 M q1 M)
theorem cr_Reader_unit {S : KS} (hS : KExt 382 S) {F : Nat → Int → KM → Option (Int × KM)} {d : Nat} (hF_Reader_either : ∀ (a : Int) (M : KM) q, F 0 a M = some q → Ctr y_Reader_either (Y_Reader_either d) [VR (some 14), VI a] S M (some (VI q.1)) S q.2) (hF_Reader_both : ∀ (a : Int) (M : KM) q, F 1 a M = some q → Ctr y_Reader_both (Y_Reader_both d) [VR (some 14), VI a] S M (some (VI q.1)) S q.2) (hF_Reader_one : ∀ (a : Int) (M : KM) q, F 2 a M = some q → Ctr y_Reader_one (Y_Reader_one d) [VR (some 14), VI a] S M (some (VI q.1)) S q.2) (hF_Reader_amount : ∀ (a : Int) (M : KM) q, F 3 a M = some q → Ctr y_Reader_amount (Y_Reader_amount d) [VR (some 14), VI a] S M (some (VI q.1)) S q.2) (hF_Reader_term : ∀ (a : Int) (M : KM) q, F 4 a M = some q → Ctr y_Reader_term (Y_Reader_term d) [VR (some 14), VI a] S M (some (VI q.1)) S q.2) (hF_Reader_unit : ∀ (a : Int) (M : KM) q, F 5 a M = some q → Ctr y_Reader_unit (Y_Reader_unit d) [VR (some 14), VI a] S M (some (VI q.1)) S q.2)  (a0 : Int) (M : KM) : ∀ q, f_Reader_unit F a0 M = some q → Ctr y_Reader_unit (Y_Reader_unit (d + 1)) [VR (some 14), VI a0] S M (some (VI q.1)) S (q.2) := fun q hq =>
  ctr_of (md_Reader_unit _) (Nat.le_of_ble_eq_true rfl) ⟨Nat.le_refl _, Nat.le_refl _⟩ 1 hq rfl (fun _ G => sim_Reader_unit hS hF_Reader_either hF_Reader_both hF_Reader_one hF_Reader_amount hF_Reader_term hF_Reader_unit a0 M)
set_option maxRecDepth 100000 in
theorem sJ_Reader_term_46L12 {G : Gam} {S : KS} (hS : KExt 382 S)  {F : Nat → Int → KM → Option (Int × KM)} {d : Nat} (hF_Reader_either : ∀ (a : Int) (M : KM) q, F 0 a M = some q → Ctr y_Reader_either (Y_Reader_either d) [VR (some 14), VI a] S M (some (VI q.1)) S q.2) (hF_Reader_both : ∀ (a : Int) (M : KM) q, F 1 a M = some q → Ctr y_Reader_both (Y_Reader_both d) [VR (some 14), VI a] S M (some (VI q.1)) S q.2) (hF_Reader_one : ∀ (a : Int) (M : KM) q, F 2 a M = some q → Ctr y_Reader_one (Y_Reader_one d) [VR (some 14), VI a] S M (some (VI q.1)) S q.2) (hF_Reader_amount : ∀ (a : Int) (M : KM) q, F 3 a M = some q → Ctr y_Reader_amount (Y_Reader_amount d) [VR (some 14), VI a] S M (some (VI q.1)) S q.2) (hF_Reader_term : ∀ (a : Int) (M : KM) q, F 4 a M = some q → Ctr y_Reader_term (Y_Reader_term d) [VR (some 14), VI a] S M (some (VI q.1)) S q.2) (hF_Reader_unit : ∀ (a : Int) (M : KM) q, F 5 a M = some q → Ctr y_Reader_unit (Y_Reader_unit d) [VR (some 14), VI a] S M (some (VI q.1)) S q.2) (a0 : Int) (s2 : Int × KM) (M : KM) (j3 : Int) (M4 : KM) : Sim G (Y_Reader_term (d + 1)) (J_Reader_term_46L12 F a0 s2 M j3 M4) (kC 46 [some (VR (some 14)), some (VI a0), some (VI j3), none] [] S M4) (Sum.elim (fun (s2 : Int × KM) => kC 12 [some (VR (some 14)), some (VI a0), some (VI s2.1), none] [] S s2.2) (Sum.elim (fun (e9 : KM) => kC 82 [none, none, none, none] [] S e9) (fun (e10 : KM) => kC 63 [none, none, none, none] [] S e10))) := by
  unfold J_Reader_term_46L12
  refine s_aload_n (dt_Reader_term 23 _ _ _ rfl) rfl ?_
  refine s_getI (c := 7) (j := 5) (dt_Reader_term 24 _ _ _ rfl) (kf_Reader_59) (sc_14 hS) rfl ?_
  refine s_letI (fun v5 => ?_)
  refine s_istore_n (dt_Reader_term 25 _ _ _ rfl) rfl ?_
  refine s_aload_n (dt_Reader_term 26 _ _ _ rfl) rfl ?_
  refine s_callO (y := y_Reader_step) (Y' := Y_Reader_step) (as := [VR (some 14)]) (r := fun q => none) (M' := fun q => q) (kInvV (dt_Reader_term 27 _ _ _ rfl) kin_Reader_step 7 rfl (sc_14 hS) kse_Reader_step rfl) kl_Reader_53 md_Reader_step rfl rfl (fun q hq => c_Reader_step hS M4 q hq) (fun q6 => ?_)
  refine s_aload_n (dt_Reader_term 28 _ _ _ rfl) rfl ?_
  refine s_iload_n (dt_Reader_term 29 _ _ _ rfl) rfl ?_
  refine s_callO (y := y_Reader_unit) (Y' := (Y_Reader_unit d)) (as := [VR (some 14), VI a0]) (r := fun q => some (VI q.1)) (M' := fun q => q.2) (kInvV (dt_Reader_term 30 _ _ _ rfl) kin_Reader_unit 7 rfl (sc_14 hS) kse_Reader_unit rfl) kl_Reader_198 (md_Reader_unit _) rfl (kbleR d rfl) (fun q hq => hF_Reader_unit a0 q6 q hq) (fun q7 => ?_)
  refine s_if_ne (tgt := 65) (dt_Reader_term 31 _ _ _ rfl) rfl ?_ ?_
  · exact s_mask [false, false, false, false] (s_ret0 rfl)
  · refine s_aload_n (dt_Reader_term 34 _ _ _ rfl) rfl ?_
    refine s_getR (c := 7) (j := 2) (o := (some 15)) (dt_Reader_term 35 _ _ _ rfl) (kf_Reader_21) (sc_14 hS) rfl rfl ?_
    refine s_getR (c := 12) (j := 16) (o := (some 24)) (dt_Reader_term 36 _ _ _ rfl) (kf_Reader_148) (sc_15 hS) rfl rfl ?_
    refine s_iload_n (dt_Reader_term 37 _ _ _ rfl) rfl ?_
    refine s_callO (y := y_Formulas_add) (Y' := Y_Formulas_add) (as := [VR (some 24), VI v5]) (r := fun q => none) (M' := fun q => q) (kInvV (dt_Reader_term 38 _ _ _ rfl) kin_Formulas_add 4 rfl (sc_24 hS) kse_Formulas_add rfl) kl_Reader_183 md_Formulas_add rfl rfl (fun q hq => c_Formulas_add hS v5 q7.2 q hq) (fun q8 => ?_)
    refine s_iinc (dt_Reader_term 39 _ _ _ rfl) rfl rfl ?_
    refine s_goto (tgt := 12) (dt_Reader_term 40 _ _ _ rfl) rfl ?_
    exact s_mask [true, true, true, false] (s_ret0 rfl)
set_option maxRecDepth 100000 in
theorem sim_Reader_term {G : Gam} {S : KS} (hS : KExt 382 S) {F : Nat → Int → KM → Option (Int × KM)} {d : Nat} (hF_Reader_either : ∀ (a : Int) (M : KM) q, F 0 a M = some q → Ctr y_Reader_either (Y_Reader_either d) [VR (some 14), VI a] S M (some (VI q.1)) S q.2) (hF_Reader_both : ∀ (a : Int) (M : KM) q, F 1 a M = some q → Ctr y_Reader_both (Y_Reader_both d) [VR (some 14), VI a] S M (some (VI q.1)) S q.2) (hF_Reader_one : ∀ (a : Int) (M : KM) q, F 2 a M = some q → Ctr y_Reader_one (Y_Reader_one d) [VR (some 14), VI a] S M (some (VI q.1)) S q.2) (hF_Reader_amount : ∀ (a : Int) (M : KM) q, F 3 a M = some q → Ctr y_Reader_amount (Y_Reader_amount d) [VR (some 14), VI a] S M (some (VI q.1)) S q.2) (hF_Reader_term : ∀ (a : Int) (M : KM) q, F 4 a M = some q → Ctr y_Reader_term (Y_Reader_term d) [VR (some 14), VI a] S M (some (VI q.1)) S q.2) (hF_Reader_unit : ∀ (a : Int) (M : KM) q, F 5 a M = some q → Ctr y_Reader_unit (Y_Reader_unit d) [VR (some 14), VI a] S M (some (VI q.1)) S q.2)  (a0 : Int) (M : KM) : Sim G (Y_Reader_term (d + 1)) (f_Reader_term F a0 M) (kC 0 [some (VR (some 14)), some (VI a0), none, none] [] S M) (fun (q : Int × KM) => Sum.inr (some (VI q.1), S, q.2)) := by
  unfold f_Reader_term
  refine s_aload_n (dt_Reader_term 0 _ _ _ rfl) rfl ?_
  refine s_iload_n (dt_Reader_term 1 _ _ _ rfl) rfl ?_
  refine s_callO (y := y_Reader_unit) (Y' := (Y_Reader_unit d)) (as := [VR (some 14), VI a0]) (r := fun q => some (VI q.1)) (M' := fun q => q.2) (kInvV (dt_Reader_term 2 _ _ _ rfl) kin_Reader_unit 7 rfl (sc_14 hS) kse_Reader_unit rfl) kl_Reader_198 (md_Reader_unit _) rfl (kbleR d rfl) (fun q hq => hF_Reader_unit a0 M q hq) (fun q1 => ?_)
  refine s_if_ne (tgt := 10) (dt_Reader_term 3 _ _ _ rfl) rfl ?_ ?_
  · refine s_iconst (dt_Reader_term 4 _ _ _ rfl) rfl ?_
    exact s_zret01 (dt_Reader_term 5 _ _ _ rfl) rfl rfl rfl
  · refine s_iconst (dt_Reader_term 6 _ _ _ rfl) rfl ?_
    refine s_istore_n (dt_Reader_term 7 _ _ _ rfl) rfl ?_
    refine s_bd (κ := (Sum.elim (fun (e9 : KM) => kC 82 [none, none, none, none] [] S e9) (fun (e10 : KM) => kC 63 [none, none, none, none] [] S e10))) (s_mask [true, true, true, false] (s_while (c := fun s2 => kC 12 [some (VR (some 14)), some (VI a0), some (VI s2.1), none] [] S s2.2) (fun s2 => ?_) ((0 : Int), q1.2))) ?_
    · refine s_iload_n (dt_Reader_term 8 _ _ _ rfl) rfl ?_
      refine s_sipush (dt_Reader_term 9 _ _ _ rfl) rfl ?_
      refine s_if_icmp_ge (tgt := 82) (dt_Reader_term 10 _ _ _ rfl) rfl ?_ ?_
      · refine s_aload_n (dt_Reader_term 11 _ _ _ rfl) rfl ?_
        refine s_getI (c := 7) (j := 5) (dt_Reader_term 12 _ _ _ rfl) (kf_Reader_59) (sc_14 hS) rfl ?_
        refine s_bipush (dt_Reader_term 13 _ _ _ rfl) rfl ?_
        refine s_if_icmp_eq (tgt := 46) (dt_Reader_term 14 _ _ _ rfl) rfl ?_ ?_
        · exact s_mask [true, true, true, false] (sJ_Reader_term_46L12 hS hF_Reader_either hF_Reader_both hF_Reader_one hF_Reader_amount hF_Reader_term hF_Reader_unit a0 s2 M s2.1 s2.2)
        · refine s_aload_n (dt_Reader_term 15 _ _ _ rfl) rfl ?_
          refine s_getI (c := 7) (j := 5) (dt_Reader_term 16 _ _ _ rfl) (kf_Reader_59) (sc_14 hS) rfl ?_
          refine s_bipush (dt_Reader_term 17 _ _ _ rfl) rfl ?_
          refine s_if_icmp_eq (tgt := 46) (dt_Reader_term 18 _ _ _ rfl) rfl ?_ ?_
          · exact s_mask [true, true, true, false] (sJ_Reader_term_46L12 hS hF_Reader_either hF_Reader_both hF_Reader_one hF_Reader_amount hF_Reader_term hF_Reader_unit a0 s2 M s2.1 s2.2)
          · refine s_aload_n (dt_Reader_term 19 _ _ _ rfl) rfl ?_
            refine s_getI (c := 7) (j := 5) (dt_Reader_term 20 _ _ _ rfl) (kf_Reader_59) (sc_14 hS) rfl ?_
            refine s_bipush (dt_Reader_term 21 _ _ _ rfl) rfl ?_
            refine s_if_icmp_ne (tgt := 82) (dt_Reader_term 22 _ _ _ rfl) rfl ?_ ?_
            · exact s_mask [true, true, true, false] (sJ_Reader_term_46L12 hS hF_Reader_either hF_Reader_both hF_Reader_one hF_Reader_amount hF_Reader_term hF_Reader_unit a0 s2 M s2.1 s2.2)
            · exact s_mask [false, false, false, false] (s_ret0 rfl)
      · exact s_mask [false, false, false, false] (s_ret0 rfl)
    refine s_elim (fun e9 => ?_) ?_
    · refine s_iconst (dt_Reader_term 41 _ _ _ rfl) rfl ?_
      exact s_zret01 (dt_Reader_term 42 _ _ _ rfl) rfl rfl rfl
    intro e10
    refine s_iconst (dt_Reader_term 32 _ _ _ rfl) rfl ?_
    exact s_zret01 (dt_Reader_term 33 _ _ _ rfl) rfl rfl rfl
theorem cr_Reader_term {S : KS} (hS : KExt 382 S) {F : Nat → Int → KM → Option (Int × KM)} {d : Nat} (hF_Reader_either : ∀ (a : Int) (M : KM) q, F 0 a M = some q → Ctr y_Reader_either (Y_Reader_either d) [VR (some 14), VI a] S M (some (VI q.1)) S q.2) (hF_Reader_both : ∀ (a : Int) (M : KM) q, F 1 a M = some q → Ctr y_Reader_both (Y_Reader_both d) [VR (some 14), VI a] S M (some (VI q.1)) S q.2) (hF_Reader_one : ∀ (a : Int) (M : KM) q, F 2 a M = some q → Ctr y_Reader_one (Y_Reader_one d) [VR (some 14), VI a] S M (some (VI q.1)) S q.2) (hF_Reader_amount : ∀ (a : Int) (M : KM) q, F 3 a M = some q → Ctr y_Reader_amount (Y_Reader_amount d) [VR (some 14), VI a] S M (some (VI q.1)) S q.2) (hF_Reader_term : ∀ (a : Int) (M : KM) q, F 4 a M = some q → Ctr y_Reader_term (Y_Reader_term d) [VR (some 14), VI a] S M (some (VI q.1)) S q.2) (hF_Reader_unit : ∀ (a : Int) (M : KM) q, F 5 a M = some q → Ctr y_Reader_unit (Y_Reader_unit d) [VR (some 14), VI a] S M (some (VI q.1)) S q.2)  (a0 : Int) (M : KM) : ∀ q, f_Reader_term F a0 M = some q → Ctr y_Reader_term (Y_Reader_term (d + 1)) [VR (some 14), VI a0] S M (some (VI q.1)) S (q.2) := fun q hq =>
  ctr_of (md_Reader_term _) (Nat.le_of_ble_eq_true rfl) ⟨Nat.le_refl _, Nat.le_refl _⟩ 2 hq rfl (fun _ G => sim_Reader_term hS hF_Reader_either hF_Reader_both hF_Reader_one hF_Reader_amount hF_Reader_term hF_Reader_unit a0 M)
