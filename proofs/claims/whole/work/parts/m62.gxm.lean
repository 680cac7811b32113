set_option maxRecDepth 100000 in
theorem sim_M_areFriends {G : Gam} {S : KS} (hS : KExt 435 S)  (a0 : Int) (a1 : Int) (M : KM) : Sim G Y_M_areFriends (f_M_areFriends a0 a1 M) (kC 0 [some (VR (some 382)), some (VI a0), some (VI a1), none] [] S M) (fun (q : Int) => Sum.inr (some (VI q), S, M)) := by
  unfold f_M_areFriends
  refine s_iconst (dt_M_areFriends 0 _ _ _ rfl) rfl ?_
  refine s_istore_n (dt_M_areFriends 1 _ _ _ rfl) rfl ?_
  refine s_bd (κ := (Sum.elim (fun (e2 : Unit) => kC 51 [none, none, none, none] [] S M) (fun (e3 : Unit) => kC 59 [none, none, none, none] [] S M))) (s_mask [true, true, true, true] (s_while (c := fun s1 => kC 2 [some (VR (some 382)), some (VI a0), some (VI a1), some (VI s1)] [] S M) (fun s1 => ?_) (0 : Int))) ?_
  · refine s_iload_n (dt_M_areFriends 2 _ _ _ rfl) rfl ?_
    refine s_aload_n (dt_M_areFriends 3 _ _ _ rfl) rfl ?_
    refine s_getR (c := 1) (j := 12) (o := (some 386)) (dt_M_areFriends 4 _ _ _ rfl) (kf_M_24) (sc_382 hS) rfl rfl ?_
    refine s_aload_n (dt_M_areFriends 5 _ _ _ rfl) rfl ?_
    refine s_getI (c := 1) (j := 38) (dt_M_areFriends 6 _ _ _ rfl) (kf_M_279) (sc_382 hS) rfl ?_
    refine s_iald (N := 2) (dt_M_areFriends 7 _ _ _ rfl) (sc_386 hS) rfl ?_
    refine s_if_icmp_ge (tgt := 59) (dt_M_areFriends 8 _ _ _ rfl) rfl ?_ ?_
    · refine s_aload_n (dt_M_areFriends 9 _ _ _ rfl) rfl ?_
      refine s_getR (c := 1) (j := 23) (o := (some 397)) (dt_M_areFriends 10 _ _ _ rfl) (kf_M_57) (sc_382 hS) rfl rfl ?_
      refine s_bipush (dt_M_areFriends 11 _ _ _ rfl) rfl ?_
      refine s_aload_n (dt_M_areFriends 12 _ _ _ rfl) rfl ?_
      refine s_getI (c := 1) (j := 38) (dt_M_areFriends 13 _ _ _ rfl) (kf_M_279) (sc_382 hS) rfl ?_
      refine s_imul (dt_M_areFriends 14 _ _ _ rfl) ?_
      refine s_iload_n (dt_M_areFriends 15 _ _ _ rfl) rfl ?_
      refine s_iadd (dt_M_areFriends 16 _ _ _ rfl) ?_
      refine s_iald (N := 40) (dt_M_areFriends 17 _ _ _ rfl) (sc_397 hS) rfl ?_
      refine s_iload_n (dt_M_areFriends 18 _ _ _ rfl) rfl ?_
      refine s_if_icmp_ne (tgt := 53) (dt_M_areFriends 19 _ _ _ rfl) rfl ?_ ?_
      · refine s_aload_n (dt_M_areFriends 20 _ _ _ rfl) rfl ?_
        refine s_getR (c := 1) (j := 24) (o := (some 398)) (dt_M_areFriends 21 _ _ _ rfl) (kf_M_60) (sc_382 hS) rfl rfl ?_
        refine s_bipush (dt_M_areFriends 22 _ _ _ rfl) rfl ?_
        refine s_aload_n (dt_M_areFriends 23 _ _ _ rfl) rfl ?_
        refine s_getI (c := 1) (j := 38) (dt_M_areFriends 24 _ _ _ rfl) (kf_M_279) (sc_382 hS) rfl ?_
        refine s_imul (dt_M_areFriends 25 _ _ _ rfl) ?_
        refine s_iload_n (dt_M_areFriends 26 _ _ _ rfl) rfl ?_
        refine s_iadd (dt_M_areFriends 27 _ _ _ rfl) ?_
        refine s_iald (N := 40) (dt_M_areFriends 28 _ _ _ rfl) (sc_398 hS) rfl ?_
        refine s_iload_n (dt_M_areFriends 29 _ _ _ rfl) rfl ?_
        refine s_if_icmp_ne (tgt := 53) (dt_M_areFriends 30 _ _ _ rfl) rfl ?_ ?_
        · exact s_mask [false, false, false, false] (s_ret0 rfl)
        · refine s_iinc (dt_M_areFriends 33 _ _ _ rfl) rfl rfl ?_
          refine s_goto (tgt := 2) (dt_M_areFriends 34 _ _ _ rfl) rfl ?_
          exact s_mask [true, true, true, true] (s_ret0 rfl)
      · refine s_iinc (dt_M_areFriends 33 _ _ _ rfl) rfl rfl ?_
        refine s_goto (tgt := 2) (dt_M_areFriends 34 _ _ _ rfl) rfl ?_
        exact s_mask [true, true, true, true] (s_ret0 rfl)
    · exact s_mask [false, false, false, false] (s_ret0 rfl)
  refine s_elim (fun e2 => ?_) ?_
  · refine s_iconst (dt_M_areFriends 31 _ _ _ rfl) rfl ?_
    exact s_zret01 (dt_M_areFriends 32 _ _ _ rfl) rfl rfl rfl
  intro e3
  refine s_iconst (dt_M_areFriends 35 _ _ _ rfl) rfl ?_
  exact s_zret01 (dt_M_areFriends 36 _ _ _ rfl) rfl rfl rfl
theorem c_M_areFriends {S : KS} (hS : KExt 435 S)  (a0 : Int) (a1 : Int) (M : KM) : ∀ q, f_M_areFriends a0 a1 M = some q → Ctr y_M_areFriends Y_M_areFriends [VR (some 382), VI a0, VI a1] S M (some (VI q)) S (M) := fun q hq =>
  ctr_of md_M_areFriends (Nat.le_of_ble_eq_true rfl) ⟨Nat.le_refl _, Nat.le_refl _⟩ 1 hq rfl (fun _ G => sim_M_areFriends hS  a0 a1 M)
set_option maxRecDepth 100000 in
theorem sim_M_hereP {G : Gam} {S : KS} (hS : KExt 435 S)  (a1 : Int) (a2 : Int) (M : KM) : Sim G Y_M_here (f_M_hereP a1 a2 M) (kC 0 [some (VR (some 382)), some (VR (some 404)), some (VI a1), some (VI a2), none] [] S M) (fun (q : Int) => Sum.inr (some (VI q), S, M)) := by
  unfold f_M_hereP
  refine s_iconst (dt_M_here 0 _ _ _ rfl) rfl ?_
  refine s_istore (dt_M_here 1 _ _ _ rfl) rfl ?_
  refine s_bd (κ := (Sum.elim (fun (e2 : Int) => kC 31 [none, none, none, none, some (VI e2)] [] S M) (fun (e3 : Unit) => kC 40 [none, none, none, none, none] [] S M))) (s_mask [true, true, true, true, true] (s_while (c := fun s1 => kC 3 [some (VR (some 382)), some (VR (some 404)), some (VI a1), some (VI a2), some (VI s1)] [] S M) (fun s1 => ?_) (0 : Int))) ?_
  · refine s_iload (dt_M_here 2 _ _ _ rfl) rfl ?_
    refine s_iload_n (dt_M_here 3 _ _ _ rfl) rfl ?_
    refine s_if_icmp_ge (tgt := 40) (dt_M_here 4 _ _ _ rfl) rfl ?_ ?_
    · refine s_aload_n (dt_M_here 5 _ _ _ rfl) rfl ?_
      refine s_getI (c := 1) (j := 8) (dt_M_here 6 _ _ _ rfl) (kf_M_230) (sc_382 hS) rfl ?_
      refine s_iconst (dt_M_here 7 _ _ _ rfl) rfl ?_
      refine s_if_icmp_ne (tgt := 34) (dt_M_here 8 _ _ _ rfl) rfl ?_ ?_
      · refine s_aload_n (dt_M_here 9 _ _ _ rfl) rfl ?_
        refine s_iload_n (dt_M_here 10 _ _ _ rfl) rfl ?_
        refine s_iload (dt_M_here 11 _ _ _ rfl) rfl ?_
        refine s_iadd (dt_M_here 12 _ _ _ rfl) ?_
        refine s_lald (N := 16) (dt_M_here 13 _ _ _ rfl) (sc_404 hS) rfl ?_
        refine s_aload_n (dt_M_here 14 _ _ _ rfl) rfl ?_
        refine s_getJ (c := 1) (j := 10) (dt_M_here 15 _ _ _ rfl) (kf_M_237) (sc_382 hS) rfl ?_
        refine s_lcmp (dt_M_here 16 _ _ _ rfl) ?_
        refine s_if_ne (tgt := 34) (dt_M_here 17 _ _ _ rfl) rfl ?_ ?_
        · exact s_mask [false, false, false, false, true] (s_ret0 rfl)
        · refine s_iinc (dt_M_here 20 _ _ _ rfl) rfl rfl ?_
          refine s_goto (tgt := 3) (dt_M_here 21 _ _ _ rfl) rfl ?_
          exact s_mask [true, true, true, true, true] (s_ret0 rfl)
      · refine s_iinc (dt_M_here 20 _ _ _ rfl) rfl rfl ?_
        refine s_goto (tgt := 3) (dt_M_here 21 _ _ _ rfl) rfl ?_
        exact s_mask [true, true, true, true, true] (s_ret0 rfl)
    · exact s_mask [false, false, false, false, false] (s_ret0 rfl)
  refine s_elim (fun e2 => ?_) ?_
  · refine s_iload (dt_M_here 18 _ _ _ rfl) rfl ?_
    exact s_iret (dt_M_here 19 _ _ _ rfl) rfl rfl
  intro e3
  refine s_iconst (dt_M_here 22 _ _ _ rfl) rfl ?_
  exact s_iret (dt_M_here 23 _ _ _ rfl) rfl rfl
theorem c_M_hereP {S : KS} (hS : KExt 435 S)  (a1 : Int) (a2 : Int) (M : KM) : ∀ q, f_M_hereP a1 a2 M = some q → Ctr y_M_here Y_M_here [VR (some 382), VR (some 404), VI a1, VI a2] S M (some (VI q)) S (M) := fun q hq =>
  ctr_of md_M_here (Nat.le_of_ble_eq_true rfl) ⟨Nat.le_refl _, Nat.le_refl _⟩ 1 hq rfl (fun _ G => sim_M_hereP hS  a1 a2 M)
set_option maxRecDepth 100000 in
theorem sim_M_personHere {G : Gam} {S : KS} (hS : KExt 435 S)   (M : KM) : Sim G Y_M_personHere (f_M_personHere  M) (kC 0 [some (VR (some 382))] [] S M) (fun (q : Int) => Sum.inr (some (VI q), S, M)) := by
  unfold f_M_personHere
  refine s_aload_n (dt_M_personHere 0 _ _ _ rfl) rfl ?_
  refine s_aload_n (dt_M_personHere 1 _ _ _ rfl) rfl ?_
  refine s_getR (c := 1) (j := 30) (o := (some 404)) (dt_M_personHere 2 _ _ _ rfl) (kf_M_79) (sc_382 hS) rfl rfl ?_
  refine s_bipush (dt_M_personHere 3 _ _ _ rfl) rfl ?_
  refine s_aload_n (dt_M_personHere 4 _ _ _ rfl) rfl ?_
  refine s_getI (c := 1) (j := 38) (dt_M_personHere 5 _ _ _ rfl) (kf_M_279) (sc_382 hS) rfl ?_
  refine s_imul (dt_M_personHere 6 _ _ _ rfl) ?_
  refine s_aload_n (dt_M_personHere 7 _ _ _ rfl) rfl ?_
  refine s_getR (c := 1) (j := 11) (o := (some 385)) (dt_M_personHere 8 _ _ _ rfl) (kf_M_20) (sc_382 hS) rfl rfl ?_
  refine s_aload_n (dt_M_personHere 9 _ _ _ rfl) rfl ?_
  refine s_getI (c := 1) (j := 38) (dt_M_personHere 10 _ _ _ rfl) (kf_M_279) (sc_382 hS) rfl ?_
  refine s_iald (N := 2) (dt_M_personHere 11 _ _ _ rfl) (sc_385 hS) rfl ?_
  refine s_callO (y := y_M_here) (Y' := Y_M_here) (as := [VR (some 382), VR (some 404), VI (w32 ((8 : Int) * (M 382 38))), VI (M 385 (M 382 38).toNat)]) (r := fun q => some (VI q)) (M' := fun q => M) (kInvV (dt_M_personHere 12 _ _ _ rfl) kin_M_here 1 rfl (sc_382 hS) kse_M_here rfl) kl_M_317 md_M_here rfl rfl (fun q hq => c_M_hereP hS (w32 ((8 : Int) * (M 382 38))) (M 385 (M 382 38).toNat) M q hq) (fun q1 => ?_)
  exact s_iret (dt_M_personHere 13 _ _ _ rfl) rfl rfl
theorem c_M_personHere {S : KS} (hS : KExt 435 S)   (M : KM) : ∀ q, f_M_personHere  M = some q → Ctr y_M_personHere Y_M_personHere [VR (some 382)] S M (some (VI q)) S (M) := fun q hq =>
  ctr_of md_M_personHere (Nat.le_of_ble_eq_true rfl) ⟨Nat.le_refl _, Nat.le_refl _⟩ 0 hq rfl (fun _ G => sim_M_personHere hS   M)
set_option maxRecDepth 100000 in
theorem sim_M_known {G : Gam} {S : KS} (hS : KExt 435 S)   (M : KM) : Sim G Y_M_known (f_M_known  M) (kC 0 [some (VR (some 382)), none] [] S M) (fun (q : Int × KM) => Sum.inr (some (VI q.1), S, q.2)) := by
  unfold f_M_known
  refine s_aload_n (dt_M_known 0 _ _ _ rfl) rfl ?_
  refine s_callO (y := y_M_isGood) (Y' := Y_M_isGood) (as := [VR (some 382)]) (r := fun q => some (VI q)) (M' := fun q => M) (kInvV (dt_M_known 1 _ _ _ rfl) kin_M_isGood 1 rfl (sc_382 hS) kse_M_isGood rfl) kl_M_258 md_M_isGood rfl rfl (fun q hq => c_M_isGood hS M q hq) (fun q1 => ?_)
  refine s_if_ne (tgt := 9) (dt_M_known 2 _ _ _ rfl) rfl ?_ ?_
  · refine s_iconst (dt_M_known 3 _ _ _ rfl) rfl ?_
    exact s_iret (dt_M_known 4 _ _ _ rfl) rfl rfl
  · refine s_aload_n (dt_M_known 5 _ _ _ rfl) rfl ?_
    refine s_callO (y := y_M_personHere) (Y' := Y_M_personHere) (as := [VR (some 382)]) (r := fun q => some (VI q)) (M' := fun q => M) (kInvV (dt_M_known 6 _ _ _ rfl) kin_M_personHere 1 rfl (sc_382 hS) kse_M_personHere rfl) kl_M_321 md_M_personHere rfl rfl (fun q hq => c_M_personHere hS M q hq) (fun q2 => ?_)
    refine s_istore_n (dt_M_known 7 _ _ _ rfl) rfl ?_
    refine s_aload_n (dt_M_known 8 _ _ _ rfl) rfl ?_
    refine s_getI (c := 1) (j := 8) (dt_M_known 9 _ _ _ rfl) (kf_M_230) (sc_382 hS) rfl ?_
    refine s_iconst (dt_M_known 10 _ _ _ rfl) rfl ?_
    refine s_bd (κ := fun t5 => kC 42 [none, some (VI q2)] [] S t5) ?_ (fun t5 => ?_)
    · refine s_if_icmp_eq (tgt := 29) (dt_M_known 11 _ _ _ rfl) rfl ?_ ?_
      · refine s_iload_n (dt_M_known 15 _ _ _ rfl) rfl ?_
        refine s_if_ge (tgt := 42) (dt_M_known 16 _ _ _ rfl) rfl ?_ ?_
        · refine s_aload_n (dt_M_known 17 _ _ _ rfl) rfl ?_
          refine s_iconst (dt_M_known 18 _ _ _ rfl) rfl ?_
          refine s_aload_n (dt_M_known 19 _ _ _ rfl) rfl ?_
          refine s_getI (c := 1) (j := 6) (dt_M_known 20 _ _ _ rfl) (kf_M_223) (sc_382 hS) rfl ?_
          refine s_callO (y := y_M_fails) (Y' := Y_M_fails) (as := [VR (some 382), VI (5 : Int), VI (M 382 6)]) (r := fun q => none) (M' := fun q => q) (kInvV (dt_M_known 21 _ _ _ rfl) kin_M_fails 1 rfl (sc_382 hS) kse_M_fails rfl) kl_M_254 md_M_fails rfl rfl (fun q hq => c_M_fails hS (5 : Int) (M 382 6) M q hq) (fun q3 => ?_)
          exact s_mask [false, true] (s_ret0 rfl)
        · exact s_mask [false, true] (s_ret0 rfl)
      · refine s_aload_n (dt_M_known 12 _ _ _ rfl) rfl ?_
        refine s_callO (y := y_M_misplaced) (Y' := Y_M_misplaced) (as := [VR (some 382)]) (r := fun q => none) (M' := fun q => q) (kInvV (dt_M_known 13 _ _ _ rfl) kin_M_misplaced 1 rfl (sc_382 hS) kse_M_misplaced rfl) kl_M_265 md_M_misplaced rfl rfl (fun q hq => c_M_misplaced hS M q hq) (fun q4 => ?_)
        refine s_goto (tgt := 42) (dt_M_known 14 _ _ _ rfl) rfl ?_
        exact s_mask [false, true] (s_ret0 rfl)
    refine s_iload_n (dt_M_known 22 _ _ _ rfl) rfl ?_
    refine s_bd (κ := fun t6 => kC 51 [none, none] [VI t6] S t5) ?_ (fun t6 => ?_)
    · refine s_if_ge (tgt := 50) (dt_M_known 23 _ _ _ rfl) rfl ?_ ?_
      · refine s_iconst (dt_M_known 24 _ _ _ rfl) rfl ?_
        refine s_goto (tgt := 51) (dt_M_known 25 _ _ _ rfl) rfl ?_
        exact s_mask [false, false] (s_ret0 rfl)
      · refine s_iload_n (dt_M_known 26 _ _ _ rfl) rfl ?_
        exact s_mask [false, false] (s_ret0 rfl)
    exact s_iret (dt_M_known 27 _ _ _ rfl) rfl rfl
theorem c_M_known {S : KS} (hS : KExt 435 S)   (M : KM) : ∀ q, f_M_known  M = some q → Ctr y_M_known Y_M_known [VR (some 382)] S M (some (VI q.1)) S (q.2) := fun q hq =>
  ctr_of md_M_known (Nat.le_of_ble_eq_true rfl) ⟨Nat.le_refl _, Nat.le_refl _⟩ 1 hq rfl (fun _ G => sim_M_known hS   M)
set_option maxRecDepth 100000 in
theorem sim_M_readFriend {G : Gam} {S : KS} (hS : KExt 435 S)   (M : KM) : Sim G Y_M_readFriend (f_M_readFriend  M) (kC 0 [some (VR (some 382)), none, none, none] [] S M) (fun (q : KM) => Sum.inr (none, S, q)) := by
  unfold f_M_readFriend
  refine s_bipush (dt_M_readFriend 0 _ _ _ rfl) rfl ?_
  refine s_aload_n (dt_M_readFriend 1 _ _ _ rfl) rfl ?_
  refine s_getI (c := 1) (j := 38) (dt_M_readFriend 2 _ _ _ rfl) (kf_M_279) (sc_382 hS) rfl ?_
  refine s_imul (dt_M_readFriend 3 _ _ _ rfl) ?_
  refine s_aload_n (dt_M_readFriend 4 _ _ _ rfl) rfl ?_
  refine s_getR (c := 1) (j := 12) (o := (some 386)) (dt_M_readFriend 5 _ _ _ rfl) (kf_M_24) (sc_382 hS) rfl rfl ?_
  refine s_aload_n (dt_M_readFriend 6 _ _ _ rfl) rfl ?_
  refine s_getI (c := 1) (j := 38) (dt_M_readFriend 7 _ _ _ rfl) (kf_M_279) (sc_382 hS) rfl ?_
  refine s_iald (N := 2) (dt_M_readFriend 8 _ _ _ rfl) (sc_386 hS) rfl ?_
  refine s_iadd (dt_M_readFriend 9 _ _ _ rfl) ?_
  refine s_letI (fun v1 => ?_)
  refine s_istore_n (dt_M_readFriend 10 _ _ _ rfl) rfl ?_
  refine s_aload_n (dt_M_readFriend 11 _ _ _ rfl) rfl ?_
  refine s_callO (y := y_M_known) (Y' := Y_M_known) (as := [VR (some 382)]) (r := fun q => some (VI q.1)) (M' := fun q => q.2) (kInvV (dt_M_readFriend 12 _ _ _ rfl) kin_M_known 1 rfl (sc_382 hS) kse_M_known rfl) kl_M_329 md_M_known rfl rfl (fun q hq => c_M_known hS M q hq) (fun q2 => ?_)
  refine s_istore_n (dt_M_readFriend 13 _ _ _ rfl) rfl ?_
  refine s_aload_n (dt_M_readFriend 14 _ _ _ rfl) rfl ?_
  refine s_callO (y := y_M_isGood) (Y' := Y_M_isGood) (as := [VR (some 382)]) (r := fun q => some (VI q)) (M' := fun q => q2.2) (kInvV (dt_M_readFriend 15 _ _ _ rfl) kin_M_isGood 1 rfl (sc_382 hS) kse_M_isGood rfl) kl_M_258 md_M_isGood rfl rfl (fun q hq => c_M_isGood hS q2.2 q hq) (fun q3 => ?_)
  refine s_bd (κ := fun t5 => kC 34 [some (VR (some 382)), some (VI v1), some (VI q2.1), none] [] S t5) ?_ (fun t5 => ?_)
  · refine s_if_eq (tgt := 34) (dt_M_readFriend 16 _ _ _ rfl) rfl ?_ ?_
    · exact s_mask [true, true, true, false] (s_ret0 rfl)
    · refine s_aload_n (dt_M_readFriend 17 _ _ _ rfl) rfl ?_
      refine s_callO (y := y_M_goOn) (Y' := Y_M_goOn) (as := [VR (some 382)]) (r := fun q => none) (M' := fun q => q) (kInvV (dt_M_readFriend 18 _ _ _ rfl) kin_M_goOn 1 rfl (sc_382 hS) kse_M_goOn rfl) kl_M_262 md_M_goOn rfl rfl (fun q hq => c_M_goOn hS q2.2 q hq) (fun q4 => ?_)
      exact s_mask [true, true, true, false] (s_ret0 rfl)
  refine s_aload_n (dt_M_readFriend 19 _ _ _ rfl) rfl ?_
  refine s_aload_n (dt_M_readFriend 20 _ _ _ rfl) rfl ?_
  refine s_ldc2 (n := (29807 : Int)) (kc_M_200) (dt_M_readFriend 21 _ _ _ rfl) rfl ?_
  refine s_callO (y := y_M_isWord) (Y' := Y_M_isWord) (as := [VR (some 382), VJ (29807 : Int)]) (r := fun q => some (VI q)) (M' := fun q => t5) (kInvV (dt_M_readFriend 22 _ _ _ rfl) kin_M_isWord 1 rfl (sc_382 hS) kse_M_isWord rfl) kl_M_268 md_M_isWord rfl rfl (fun q hq => c_M_isWord hS (29807 : Int) t5 q hq) (fun q6 => ?_)
  refine s_callO (y := y_M_must) (Y' := Y_M_must) (as := [VR (some 382), VI q6]) (r := fun q => none) (M' := fun q => q) (kInvV (dt_M_readFriend 23 _ _ _ rfl) kin_M_must 1 rfl (sc_382 hS) kse_M_must rfl) kl_M_271 md_M_must rfl rfl (fun q hq => c_M_must hS q6 t5 q hq) (fun q7 => ?_)
  refine s_aload_n (dt_M_readFriend 24 _ _ _ rfl) rfl ?_
  refine s_callO (y := y_M_known) (Y' := Y_M_known) (as := [VR (some 382)]) (r := fun q => some (VI q.1)) (M' := fun q => q.2) (kInvV (dt_M_readFriend 25 _ _ _ rfl) kin_M_known 1 rfl (sc_382 hS) kse_M_known rfl) kl_M_329 md_M_known rfl rfl (fun q hq => c_M_known hS q7 q hq) (fun q8 => ?_)
  refine s_istore_n (dt_M_readFriend 26 _ _ _ rfl) rfl ?_
  refine s_aload_n (dt_M_readFriend 27 _ _ _ rfl) rfl ?_
  refine s_callO (y := y_M_isGood) (Y' := Y_M_isGood) (as := [VR (some 382)]) (r := fun q => some (VI q)) (M' := fun q => q8.2) (kInvV (dt_M_readFriend 28 _ _ _ rfl) kin_M_isGood 1 rfl (sc_382 hS) kse_M_isGood rfl) kl_M_258 md_M_isGood rfl rfl (fun q hq => c_M_isGood hS q8.2 q hq) (fun q9 => ?_)
  refine s_bd (κ := fun t13 => kC 80 [some (VR (some 382)), some (VI v1), some (VI q2.1), some (VI q8.1)] [] S t13) ?_ (fun t13 => ?_)
  · refine s_if_eq (tgt := 80) (dt_M_readFriend 29 _ _ _ rfl) rfl ?_ ?_
    · exact s_mask [true, true, true, true] (s_ret0 rfl)
    · refine s_iload_n (dt_M_readFriend 30 _ _ _ rfl) rfl ?_
      refine s_iload_n (dt_M_readFriend 31 _ _ _ rfl) rfl ?_
      refine s_if_icmp_eq (tgt := 71) (dt_M_readFriend 32 _ _ _ rfl) rfl ?_ ?_
      · refine s_aload_n (dt_M_readFriend 38 _ _ _ rfl) rfl ?_
        refine s_iconst (dt_M_readFriend 39 _ _ _ rfl) rfl ?_
        refine s_aload_n (dt_M_readFriend 40 _ _ _ rfl) rfl ?_
        refine s_getI (c := 1) (j := 6) (dt_M_readFriend 41 _ _ _ rfl) (kf_M_223) (sc_382 hS) rfl ?_
        refine s_callO (y := y_M_fails) (Y' := Y_M_fails) (as := [VR (some 382), VI (3 : Int), VI (q8.2 382 6)]) (r := fun q => none) (M' := fun q => q) (kInvV (dt_M_readFriend 42 _ _ _ rfl) kin_M_fails 1 rfl (sc_382 hS) kse_M_fails rfl) kl_M_254 md_M_fails rfl rfl (fun q hq => c_M_fails hS (3 : Int) (q8.2 382 6) q8.2 q hq) (fun q10 => ?_)
        exact s_mask [true, true, true, true] (s_ret0 rfl)
      · refine s_aload_n (dt_M_readFriend 33 _ _ _ rfl) rfl ?_
        refine s_iload_n (dt_M_readFriend 34 _ _ _ rfl) rfl ?_
        refine s_iload_n (dt_M_readFriend 35 _ _ _ rfl) rfl ?_
        refine s_callO (y := y_M_areFriends) (Y' := Y_M_areFriends) (as := [VR (some 382), VI q2.1, VI q8.1]) (r := fun q => some (VI q)) (M' := fun q => q8.2) (kInvV (dt_M_readFriend 36 _ _ _ rfl) kin_M_areFriends 1 rfl (sc_382 hS) kse_M_areFriends rfl) kl_M_332 md_M_areFriends rfl rfl (fun q hq => c_M_areFriends hS q2.1 q8.1 q8.2 q hq) (fun q11 => ?_)
        refine s_if_eq (tgt := 80) (dt_M_readFriend 37 _ _ _ rfl) rfl ?_ ?_
        · exact s_mask [true, true, true, true] (s_ret0 rfl)
        · refine s_aload_n (dt_M_readFriend 38 _ _ _ rfl) rfl ?_
          refine s_iconst (dt_M_readFriend 39 _ _ _ rfl) rfl ?_
          refine s_aload_n (dt_M_readFriend 40 _ _ _ rfl) rfl ?_
          refine s_getI (c := 1) (j := 6) (dt_M_readFriend 41 _ _ _ rfl) (kf_M_223) (sc_382 hS) rfl ?_
          refine s_callO (y := y_M_fails) (Y' := Y_M_fails) (as := [VR (some 382), VI (3 : Int), VI (q8.2 382 6)]) (r := fun q => none) (M' := fun q => q) (kInvV (dt_M_readFriend 42 _ _ _ rfl) kin_M_fails 1 rfl (sc_382 hS) kse_M_fails rfl) kl_M_254 md_M_fails rfl rfl (fun q hq => c_M_fails hS (3 : Int) (q8.2 382 6) q8.2 q hq) (fun q12 => ?_)
          exact s_mask [true, true, true, true] (s_ret0 rfl)
  refine s_aload_n (dt_M_readFriend 43 _ _ _ rfl) rfl ?_
  refine s_callO (y := y_M_isGood) (Y' := Y_M_isGood) (as := [VR (some 382)]) (r := fun q => some (VI q)) (M' := fun q => t13) (kInvV (dt_M_readFriend 44 _ _ _ rfl) kin_M_isGood 1 rfl (sc_382 hS) kse_M_isGood rfl) kl_M_258 md_M_isGood rfl rfl (fun q hq => c_M_isGood hS t13 q hq) (fun q14 => ?_)
  refine s_bd (κ := fun t16 => kC 91 [some (VR (some 382)), some (VI v1), some (VI q2.1), some (VI q8.1)] [] S t16) ?_ (fun t16 => ?_)
  · refine s_if_eq (tgt := 91) (dt_M_readFriend 45 _ _ _ rfl) rfl ?_ ?_
    · exact s_mask [true, true, true, true] (s_ret0 rfl)
    · refine s_aload_n (dt_M_readFriend 46 _ _ _ rfl) rfl ?_
      refine s_callO (y := y_M_goOn) (Y' := Y_M_goOn) (as := [VR (some 382)]) (r := fun q => none) (M' := fun q => q) (kInvV (dt_M_readFriend 47 _ _ _ rfl) kin_M_goOn 1 rfl (sc_382 hS) kse_M_goOn rfl) kl_M_262 md_M_goOn rfl rfl (fun q hq => c_M_goOn hS t13 q hq) (fun q15 => ?_)
      exact s_mask [true, true, true, true] (s_ret0 rfl)
  refine s_aload_n (dt_M_readFriend 48 _ _ _ rfl) rfl ?_
  refine s_getR (c := 1) (j := 23) (o := (some 397)) (dt_M_readFriend 49 _ _ _ rfl) (kf_M_57) (sc_382 hS) rfl rfl ?_
  refine s_iload_n (dt_M_readFriend 50 _ _ _ rfl) rfl ?_
  refine s_iload_n (dt_M_readFriend 51 _ _ _ rfl) rfl ?_
  refine s_iast (N := 40) (dt_M_readFriend 52 _ _ _ rfl) (sc_397 hS) rfl ?_
  refine s_letM (fun M17 => ?_)
  refine s_aload_n (dt_M_readFriend 53 _ _ _ rfl) rfl ?_
  refine s_getR (c := 1) (j := 24) (o := (some 398)) (dt_M_readFriend 54 _ _ _ rfl) (kf_M_60) (sc_382 hS) rfl rfl ?_
  refine s_iload_n (dt_M_readFriend 55 _ _ _ rfl) rfl ?_
  refine s_iload_n (dt_M_readFriend 56 _ _ _ rfl) rfl ?_
  refine s_iast (N := 40) (dt_M_readFriend 57 _ _ _ rfl) (sc_398 hS) rfl ?_
  refine s_letM (fun M18 => ?_)
  refine s_aload_n (dt_M_readFriend 58 _ _ _ rfl) rfl ?_
  refine s_getR (c := 1) (j := 25) (o := (some 399)) (dt_M_readFriend 59 _ _ _ rfl) (kf_M_63) (sc_382 hS) rfl rfl ?_
  refine s_iload_n (dt_M_readFriend 60 _ _ _ rfl) rfl ?_
  refine s_aload_n (dt_M_readFriend 61 _ _ _ rfl) rfl ?_
  refine s_ldc2 (n := (482955846501 : Int)) (kc_M_202) (dt_M_readFriend 62 _ _ _ rfl) rfl ?_
  refine s_iconst (dt_M_readFriend 63 _ _ _ rfl) rfl ?_
  refine s_bipush (dt_M_readFriend 64 _ _ _ rfl) rfl ?_
  refine s_callO (y := y_M_after) (Y' := Y_M_after) (as := [VR (some 382), VJ (482955846501 : Int), VI (0 : Int), VI (99 : Int)]) (r := fun q => some (VI q.1)) (M' := fun q => q.2) (kInvV (dt_M_readFriend 65 _ _ _ rfl) kin_M_after 1 rfl (sc_382 hS) kse_M_after rfl) kl_M_297 md_M_after rfl rfl (fun q hq => c_M_after hS (482955846501 : Int) (0 : Int) (99 : Int) M18 q hq) (fun q19 => ?_)
  refine s_iast (N := 40) (dt_M_readFriend 66 _ _ _ rfl) (sc_399 hS) rfl ?_
  refine s_letM (fun M20 => ?_)
  refine s_aload_n (dt_M_readFriend 67 _ _ _ rfl) rfl ?_
  refine s_getR (c := 1) (j := 12) (o := (some 386)) (dt_M_readFriend 68 _ _ _ rfl) (kf_M_24) (sc_382 hS) rfl rfl ?_
  refine s_aload_n (dt_M_readFriend 69 _ _ _ rfl) rfl ?_
  refine s_getI (c := 1) (j := 38) (dt_M_readFriend 70 _ _ _ rfl) (kf_M_279) (sc_382 hS) rfl ?_
  refine s_dup2 (dt_M_readFriend 71 _ _ _ rfl) rfl rfl ?_
  refine s_iald (N := 2) (dt_M_readFriend 72 _ _ _ rfl) (sc_386 hS) rfl ?_
  refine s_iconst (dt_M_readFriend 73 _ _ _ rfl) rfl ?_
  refine s_iadd (dt_M_readFriend 74 _ _ _ rfl) ?_
  refine s_iast (N := 2) (dt_M_readFriend 75 _ _ _ rfl) (sc_386 hS) rfl ?_
  refine s_letM (fun M21 => ?_)
  exact s_vret (dt_M_readFriend 76 _ _ _ rfl) rfl rfl
theorem c_M_readFriend {S : KS} (hS : KExt 435 S)   (M : KM) : ∀ q, f_M_readFriend  M = some q → Ctr y_M_readFriend Y_M_readFriend [VR (some 382)] S M (none) S (q) := fun q hq =>
  ctr_of md_M_readFriend (Nat.le_of_ble_eq_true rfl) ⟨Nat.le_refl _, Nat.le_refl _⟩ 3 hq rfl (fun _ G => sim_M_readFriend hS   M)
set_option maxRecDepth 100000 in
theorem sim_M_fresh {G : Gam} {S : KS} (hS : KExt 435 S)  (a0 : Int) (M : KM) : Sim G Y_M_fresh (f_M_fresh a0 M) (kC 0 [some (VR (some 382)), some (VI a0), none, none] [] S M) (fun (q : Int × KM) => Sum.inr (some (VJ q.1), S, q.2)) := by
  unfold f_M_fresh
  refine s_aload_n (dt_M_fresh 0 _ _ _ rfl) rfl ?_
  refine s_callO (y := y_M_isGood) (Y' := Y_M_isGood) (as := [VR (some 382)]) (r := fun q => some (VI q)) (M' := fun q => M) (kInvV (dt_M_fresh 1 _ _ _ rfl) kin_M_isGood 1 rfl (sc_382 hS) kse_M_isGood rfl) kl_M_258 md_M_isGood rfl rfl (fun q hq => c_M_isGood hS M q hq) (fun q1 => ?_)
  refine s_if_ne (tgt := 9) (dt_M_fresh 2 _ _ _ rfl) rfl ?_ ?_
  · refine s_lconst0 (dt_M_fresh 3 _ _ _ rfl) ?_
    exact s_lret (dt_M_fresh 4 _ _ _ rfl) rfl rfl
  · refine s_aload_n (dt_M_fresh 5 _ _ _ rfl) rfl ?_
    refine s_getI (c := 1) (j := 8) (dt_M_fresh 6 _ _ _ rfl) (kf_M_230) (sc_382 hS) rfl ?_
    refine s_iconst (dt_M_fresh 7 _ _ _ rfl) rfl ?_
    refine s_bd (κ := fun t4 => kC 37 [some (VR (some 382)), none, none, none] [] S t4) ?_ (fun t4 => ?_)
    · refine s_if_icmp_eq (tgt := 24) (dt_M_fresh 8 _ _ _ rfl) rfl ?_ ?_
      · refine s_iload_n (dt_M_fresh 12 _ _ _ rfl) rfl ?_
        refine s_if_lt (tgt := 37) (dt_M_fresh 13 _ _ _ rfl) rfl ?_ ?_
        · exact s_mask [true, false, false, false] (s_ret0 rfl)
        · refine s_aload_n (dt_M_fresh 14 _ _ _ rfl) rfl ?_
          refine s_iconst (dt_M_fresh 15 _ _ _ rfl) rfl ?_
          refine s_aload_n (dt_M_fresh 16 _ _ _ rfl) rfl ?_
          refine s_getI (c := 1) (j := 6) (dt_M_fresh 17 _ _ _ rfl) (kf_M_223) (sc_382 hS) rfl ?_
          refine s_callO (y := y_M_fails) (Y' := Y_M_fails) (as := [VR (some 382), VI (3 : Int), VI (M 382 6)]) (r := fun q => none) (M' := fun q => q) (kInvV (dt_M_fresh 18 _ _ _ rfl) kin_M_fails 1 rfl (sc_382 hS) kse_M_fails rfl) kl_M_254 md_M_fails rfl rfl (fun q hq => c_M_fails hS (3 : Int) (M 382 6) M q hq) (fun q2 => ?_)
          exact s_mask [true, false, false, false] (s_ret0 rfl)
      · refine s_aload_n (dt_M_fresh 9 _ _ _ rfl) rfl ?_
        refine s_callO (y := y_M_misplaced) (Y' := Y_M_misplaced) (as := [VR (some 382)]) (r := fun q => none) (M' := fun q => q) (kInvV (dt_M_fresh 10 _ _ _ rfl) kin_M_misplaced 1 rfl (sc_382 hS) kse_M_misplaced rfl) kl_M_265 md_M_misplaced rfl rfl (fun q hq => c_M_misplaced hS M q hq) (fun q3 => ?_)
        refine s_goto (tgt := 37) (dt_M_fresh 11 _ _ _ rfl) rfl ?_
        exact s_mask [true, false, false, false] (s_ret0 rfl)
    refine s_aload_n (dt_M_fresh 19 _ _ _ rfl) rfl ?_
    refine s_getJ (c := 1) (j := 10) (dt_M_fresh 20 _ _ _ rfl) (kf_M_237) (sc_382 hS) rfl ?_
    refine s_lstore_n (dt_M_fresh 21 _ _ _ rfl) rfl ?_
    refine s_aload_n (dt_M_fresh 22 _ _ _ rfl) rfl ?_
    refine s_callO (y := y_M_isGood) (Y' := Y_M_isGood) (as := [VR (some 382)]) (r := fun q => some (VI q)) (M' := fun q => t4) (kInvV (dt_M_fresh 23 _ _ _ rfl) kin_M_isGood 1 rfl (sc_382 hS) kse_M_isGood rfl) kl_M_258 md_M_isGood rfl rfl (fun q hq => c_M_isGood hS t4 q hq) (fun q5 => ?_)
    refine s_bd (κ := fun t7 => kC 53 [none, none, some (VJ (t4 382 10)), none] [] S t7) ?_ (fun t7 => ?_)
    · refine s_if_eq (tgt := 53) (dt_M_fresh 24 _ _ _ rfl) rfl ?_ ?_
      · exact s_mask [false, false, true, false] (s_ret0 rfl)
      · refine s_aload_n (dt_M_fresh 25 _ _ _ rfl) rfl ?_
        refine s_callO (y := y_M_goOn) (Y' := Y_M_goOn) (as := [VR (some 382)]) (r := fun q => none) (M' := fun q => q) (kInvV (dt_M_fresh 26 _ _ _ rfl) kin_M_goOn 1 rfl (sc_382 hS) kse_M_goOn rfl) kl_M_262 md_M_goOn rfl rfl (fun q hq => c_M_goOn hS t4 q hq) (fun q6 => ?_)
        exact s_mask [false, false, true, false] (s_ret0 rfl)
    refine s_lload_n (dt_M_fresh 27 _ _ _ rfl) rfl ?_
    exact s_lret (dt_M_fresh 28 _ _ _ rfl) rfl rfl
theorem c_M_fresh {S : KS} (hS : KExt 435 S)  (a0 : Int) (M : KM) : ∀ q, f_M_fresh a0 M = some q → Ctr y_M_fresh Y_M_fresh [VR (some 382), VI a0] S M (some (VJ q.1)) S (q.2) := fun q hq =>
  ctr_of md_M_fresh (Nat.le_of_ble_eq_true rfl) ⟨Nat.le_refl _, Nat.le_refl _⟩ 2 hq rfl (fun _ G => sim_M_fresh hS  a0 M)
set_option maxRecDepth 100000 in
theorem sim_M_readPerson {G : Gam} {S : KS} (hS : KExt 435 S)   (M : KM) : Sim G Y_M_readPerson (f_M_readPerson  M) (kC 0 [some (VR (some 382)), none] [] S M) (fun (q : KM) => Sum.inr (none, S, q)) := by
  unfold f_M_readPerson
  refine s_bipush (dt_M_readPerson 0 _ _ _ rfl) rfl ?_
  refine s_aload_n (dt_M_readPerson 1 _ _ _ rfl) rfl ?_
  refine s_getI (c := 1) (j := 38) (dt_M_readPerson 2 _ _ _ rfl) (kf_M_279) (sc_382 hS) rfl ?_
  refine s_imul (dt_M_readPerson 3 _ _ _ rfl) ?_
  refine s_aload_n (dt_M_readPerson 4 _ _ _ rfl) rfl ?_
  refine s_getR (c := 1) (j := 11) (o := (some 385)) (dt_M_readPerson 5 _ _ _ rfl) (kf_M_20) (sc_382 hS) rfl rfl ?_
  refine s_aload_n (dt_M_readPerson 6 _ _ _ rfl) rfl ?_
  refine s_getI (c := 1) (j := 38) (dt_M_readPerson 7 _ _ _ rfl) (kf_M_279) (sc_382 hS) rfl ?_
  refine s_iald (N := 2) (dt_M_readPerson 8 _ _ _ rfl) (sc_385 hS) rfl ?_
  refine s_iadd (dt_M_readPerson 9 _ _ _ rfl) ?_
  refine s_letI (fun v1 => ?_)
  refine s_istore_n (dt_M_readPerson 10 _ _ _ rfl) rfl ?_
  refine s_aload_n (dt_M_readPerson 11 _ _ _ rfl) rfl ?_
  refine s_getR (c := 1) (j := 30) (o := (some 404)) (dt_M_readPerson 12 _ _ _ rfl) (kf_M_79) (sc_382 hS) rfl rfl ?_
  refine s_iload_n (dt_M_readPerson 13 _ _ _ rfl) rfl ?_
  refine s_aload_n (dt_M_readPerson 14 _ _ _ rfl) rfl ?_
  refine s_aload_n (dt_M_readPerson 15 _ _ _ rfl) rfl ?_
  refine s_callO (y := y_M_personHere) (Y' := Y_M_personHere) (as := [VR (some 382)]) (r := fun q => some (VI q)) (M' := fun q => M) (kInvV (dt_M_readPerson 16 _ _ _ rfl) kin_M_personHere 1 rfl (sc_382 hS) kse_M_personHere rfl) kl_M_321 md_M_personHere rfl rfl (fun q hq => c_M_personHere hS M q hq) (fun q2 => ?_)
  refine s_callO (y := y_M_fresh) (Y' := Y_M_fresh) (as := [VR (some 382), VI q2]) (r := fun q => some (VJ q.1)) (M' := fun q => q.2) (kInvV (dt_M_readPerson 17 _ _ _ rfl) kin_M_fresh 1 rfl (sc_382 hS) kse_M_fresh rfl) kl_M_325 md_M_fresh rfl rfl (fun q hq => c_M_fresh hS q2 M q hq) (fun q3 => ?_)
  refine s_last (N := 16) (dt_M_readPerson 18 _ _ _ rfl) (sc_404 hS) rfl ?_
  refine s_letM (fun M4 => ?_)
  refine s_aload_n (dt_M_readPerson 19 _ _ _ rfl) rfl ?_
  refine s_getR (c := 1) (j := 19) (o := (some 393)) (dt_M_readPerson 20 _ _ _ rfl) (kf_M_45) (sc_382 hS) rfl rfl ?_
  refine s_iload_n (dt_M_readPerson 21 _ _ _ rfl) rfl ?_
  refine s_aload_n (dt_M_readPerson 22 _ _ _ rfl) rfl ?_
  refine s_ldc2 (n := (6383461 : Int)) (kc_M_190) (dt_M_readPerson 23 _ _ _ rfl) rfl ?_
  refine s_aload_n (dt_M_readPerson 24 _ _ _ rfl) rfl ?_
  refine s_getR (c := 1) (j := 16) (o := (some 390)) (dt_M_readPerson 25 _ _ _ rfl) (kf_M_36) (sc_382 hS) rfl rfl ?_
  refine s_aload_n (dt_M_readPerson 26 _ _ _ rfl) rfl ?_
  refine s_getI (c := 1) (j := 38) (dt_M_readPerson 27 _ _ _ rfl) (kf_M_279) (sc_382 hS) rfl ?_
  refine s_iald (N := 2) (dt_M_readPerson 28 _ _ _ rfl) (sc_390 hS) rfl ?_
  refine s_aload_n (dt_M_readPerson 29 _ _ _ rfl) rfl ?_
  refine s_getR (c := 1) (j := 17) (o := (some 391)) (dt_M_readPerson 30 _ _ _ rfl) (kf_M_39) (sc_382 hS) rfl rfl ?_
  refine s_aload_n (dt_M_readPerson 31 _ _ _ rfl) rfl ?_
  refine s_getI (c := 1) (j := 38) (dt_M_readPerson 32 _ _ _ rfl) (kf_M_279) (sc_382 hS) rfl ?_
  refine s_iald (N := 2) (dt_M_readPerson 33 _ _ _ rfl) (sc_391 hS) rfl ?_
  refine s_callO (y := y_M_after) (Y' := Y_M_after) (as := [VR (some 382), VJ (6383461 : Int), VI (M4 390 (M4 382 38).toNat), VI (M4 391 (M4 382 38).toNat)]) (r := fun q => some (VI q.1)) (M' := fun q => q.2) (kInvV (dt_M_readPerson 34 _ _ _ rfl) kin_M_after 1 rfl (sc_382 hS) kse_M_after rfl) kl_M_297 md_M_after rfl rfl (fun q hq => c_M_after hS (6383461 : Int) (M4 390 (M4 382 38).toNat) (M4 391 (M4 382 38).toNat) M4 q hq) (fun q5 => ?_)
  refine s_iast (N := 16) (dt_M_readPerson 35 _ _ _ rfl) (sc_393 hS) rfl ?_
  refine s_letM (fun M6 => ?_)
  refine s_aload_n (dt_M_readPerson 36 _ _ _ rfl) rfl ?_
  refine s_getR (c := 1) (j := 20) (o := (some 394)) (dt_M_readPerson 37 _ _ _ rfl) (kf_M_48) (sc_382 hS) rfl rfl ?_
  refine s_iload_n (dt_M_readPerson 38 _ _ _ rfl) rfl ?_
  refine s_aload_n (dt_M_readPerson 39 _ _ _ rfl) rfl ?_
  refine s_ldc2 (n := (1668245870 : Int)) (kc_M_192) (dt_M_readPerson 40 _ _ _ rfl) rfl ?_
  refine s_iconst (dt_M_readPerson 41 _ _ _ rfl) rfl ?_
  refine s_sipush (dt_M_readPerson 42 _ _ _ rfl) rfl ?_
  refine s_callO (y := y_M_after) (Y' := Y_M_after) (as := [VR (some 382), VJ (1668245870 : Int), VI (0 : Int), VI (999 : Int)]) (r := fun q => some (VI q.1)) (M' := fun q => q.2) (kInvV (dt_M_readPerson 43 _ _ _ rfl) kin_M_after 1 rfl (sc_382 hS) kse_M_after rfl) kl_M_297 md_M_after rfl rfl (fun q hq => c_M_after hS (1668245870 : Int) (0 : Int) (999 : Int) M6 q hq) (fun q7 => ?_)
  refine s_iast (N := 16) (dt_M_readPerson 44 _ _ _ rfl) (sc_394 hS) rfl ?_
  refine s_letM (fun M8 => ?_)
  refine s_aload_n (dt_M_readPerson 45 _ _ _ rfl) rfl ?_
  refine s_getR (c := 1) (j := 21) (o := (some 395)) (dt_M_readPerson 46 _ _ _ rfl) (kf_M_51) (sc_382 hS) rfl rfl ?_
  refine s_iload_n (dt_M_readPerson 47 _ _ _ rfl) rfl ?_
  refine s_aload_n (dt_M_readPerson 48 _ _ _ rfl) rfl ?_
  refine s_callO (y := y_M_isGood) (Y' := Y_M_isGood) (as := [VR (some 382)]) (r := fun q => some (VI q)) (M' := fun q => M8) (kInvV (dt_M_readPerson 49 _ _ _ rfl) kin_M_isGood 1 rfl (sc_382 hS) kse_M_isGood rfl) kl_M_258 md_M_isGood rfl rfl (fun q hq => c_M_isGood hS M8 q hq) (fun q9 => ?_)
  refine s_bd (κ := fun t12 => kC 136 [some (VR (some 382)), some (VI v1)] [VI t12.1, VI v1, VR (some 395)] S t12.2) ?_ (fun t12 => ?_)
  · refine s_if_eq (tgt := 130) (dt_M_readPerson 50 _ _ _ rfl) rfl ?_ ?_
    · refine s_aload_n (dt_M_readPerson 69 _ _ _ rfl) rfl ?_
      refine s_getR (c := 1) (j := 19) (o := (some 393)) (dt_M_readPerson 70 _ _ _ rfl) (kf_M_45) (sc_382 hS) rfl rfl ?_
      refine s_iload_n (dt_M_readPerson 71 _ _ _ rfl) rfl ?_
      refine s_iald (N := 16) (dt_M_readPerson 72 _ _ _ rfl) (sc_393 hS) rfl ?_
      exact s_mask [true, true] (s_ret0 rfl)
    · refine s_aload_n (dt_M_readPerson 51 _ _ _ rfl) rfl ?_
      refine s_ldc2 (n := (1852138852 : Int)) (kc_M_194) (dt_M_readPerson 52 _ _ _ rfl) rfl ?_
      refine s_callO (y := y_M_isWord) (Y' := Y_M_isWord) (as := [VR (some 382), VJ (1852138852 : Int)]) (r := fun q => some (VI q)) (M' := fun q => M8) (kInvV (dt_M_readPerson 53 _ _ _ rfl) kin_M_isWord 1 rfl (sc_382 hS) kse_M_isWord rfl) kl_M_268 md_M_isWord rfl rfl (fun q hq => c_M_isWord hS (1852138852 : Int) M8 q hq) (fun q10 => ?_)
      refine s_if_eq (tgt := 130) (dt_M_readPerson 54 _ _ _ rfl) rfl ?_ ?_
      · refine s_aload_n (dt_M_readPerson 69 _ _ _ rfl) rfl ?_
        refine s_getR (c := 1) (j := 19) (o := (some 393)) (dt_M_readPerson 70 _ _ _ rfl) (kf_M_45) (sc_382 hS) rfl rfl ?_
        refine s_iload_n (dt_M_readPerson 71 _ _ _ rfl) rfl ?_
        refine s_iald (N := 16) (dt_M_readPerson 72 _ _ _ rfl) (sc_393 hS) rfl ?_
        exact s_mask [true, true] (s_ret0 rfl)
      · refine s_aload_n (dt_M_readPerson 55 _ _ _ rfl) rfl ?_
        refine s_ldc2 (n := (1852138852 : Int)) (kc_M_194) (dt_M_readPerson 56 _ _ _ rfl) rfl ?_
        refine s_aload_n (dt_M_readPerson 57 _ _ _ rfl) rfl ?_
        refine s_getR (c := 1) (j := 16) (o := (some 390)) (dt_M_readPerson 58 _ _ _ rfl) (kf_M_36) (sc_382 hS) rfl rfl ?_
        refine s_aload_n (dt_M_readPerson 59 _ _ _ rfl) rfl ?_
        refine s_getI (c := 1) (j := 38) (dt_M_readPerson 60 _ _ _ rfl) (kf_M_279) (sc_382 hS) rfl ?_
        refine s_iald (N := 2) (dt_M_readPerson 61 _ _ _ rfl) (sc_390 hS) rfl ?_
        refine s_aload_n (dt_M_readPerson 62 _ _ _ rfl) rfl ?_
        refine s_getR (c := 1) (j := 17) (o := (some 391)) (dt_M_readPerson 63 _ _ _ rfl) (kf_M_39) (sc_382 hS) rfl rfl ?_
        refine s_aload_n (dt_M_readPerson 64 _ _ _ rfl) rfl ?_
        refine s_getI (c := 1) (j := 38) (dt_M_readPerson 65 _ _ _ rfl) (kf_M_279) (sc_382 hS) rfl ?_
        refine s_iald (N := 2) (dt_M_readPerson 66 _ _ _ rfl) (sc_391 hS) rfl ?_
        refine s_callO (y := y_M_after) (Y' := Y_M_after) (as := [VR (some 382), VJ (1852138852 : Int), VI (M8 390 (M8 382 38).toNat), VI (M8 391 (M8 382 38).toNat)]) (r := fun q => some (VI q.1)) (M' := fun q => q.2) (kInvV (dt_M_readPerson 67 _ _ _ rfl) kin_M_after 1 rfl (sc_382 hS) kse_M_after rfl) kl_M_297 md_M_after rfl rfl (fun q hq => c_M_after hS (1852138852 : Int) (M8 390 (M8 382 38).toNat) (M8 391 (M8 382 38).toNat) M8 q hq) (fun q11 => ?_)
        refine s_goto (tgt := 136) (dt_M_readPerson 68 _ _ _ rfl) rfl ?_
        exact s_mask [true, true] (s_ret0 rfl)
  refine s_iast (N := 16) (dt_M_readPerson 73 _ _ _ rfl) (sc_395 hS) rfl ?_
  refine s_letM (fun M13 => ?_)
  refine s_aload_n (dt_M_readPerson 74 _ _ _ rfl) rfl ?_
  refine s_getR (c := 1) (j := 22) (o := (some 396)) (dt_M_readPerson 75 _ _ _ rfl) (kf_M_54) (sc_382 hS) rfl rfl ?_
  refine s_iload_n (dt_M_readPerson 76 _ _ _ rfl) rfl ?_
  refine s_aload_n (dt_M_readPerson 77 _ _ _ rfl) rfl ?_
  refine s_callO (y := y_M_isGood) (Y' := Y_M_isGood) (as := [VR (some 382)]) (r := fun q => some (VI q)) (M' := fun q => M13) (kInvV (dt_M_readPerson 78 _ _ _ rfl) kin_M_isGood 1 rfl (sc_382 hS) kse_M_isGood rfl) kl_M_258 md_M_isGood rfl rfl (fun q hq => c_M_isGood hS M13 q hq) (fun q14 => ?_)
  refine s_bd (κ := fun t17 => kC 172 [some (VR (some 382)), none] [VI t17.1, VI v1, VR (some 396)] S t17.2) ?_ (fun t17 => ?_)
  · refine s_if_eq (tgt := 171) (dt_M_readPerson 79 _ _ _ rfl) rfl ?_ ?_
    · refine s_iconst (dt_M_readPerson 90 _ _ _ rfl) rfl ?_
      exact s_mask [true, false] (s_ret0 rfl)
    · refine s_aload_n (dt_M_readPerson 80 _ _ _ rfl) rfl ?_
      refine s_ldc2 (n := (112568633486457 : Int)) (kc_M_196) (dt_M_readPerson 81 _ _ _ rfl) rfl ?_
      refine s_callO (y := y_M_isWord) (Y' := Y_M_isWord) (as := [VR (some 382), VJ (112568633486457 : Int)]) (r := fun q => some (VI q)) (M' := fun q => M13) (kInvV (dt_M_readPerson 82 _ _ _ rfl) kin_M_isWord 1 rfl (sc_382 hS) kse_M_isWord rfl) kl_M_268 md_M_isWord rfl rfl (fun q hq => c_M_isWord hS (112568633486457 : Int) M13 q hq) (fun q15 => ?_)
      refine s_if_eq (tgt := 171) (dt_M_readPerson 83 _ _ _ rfl) rfl ?_ ?_
      · refine s_iconst (dt_M_readPerson 90 _ _ _ rfl) rfl ?_
        exact s_mask [true, false] (s_ret0 rfl)
      · refine s_aload_n (dt_M_readPerson 84 _ _ _ rfl) rfl ?_
        refine s_ldc2 (n := (112568633486457 : Int)) (kc_M_196) (dt_M_readPerson 85 _ _ _ rfl) rfl ?_
        refine s_iconst (dt_M_readPerson 86 _ _ _ rfl) rfl ?_
        refine s_iconst (dt_M_readPerson 87 _ _ _ rfl) rfl ?_
        refine s_callO (y := y_M_after) (Y' := Y_M_after) (as := [VR (some 382), VJ (112568633486457 : Int), VI (0 : Int), VI (3 : Int)]) (r := fun q => some (VI q.1)) (M' := fun q => q.2) (kInvV (dt_M_readPerson 88 _ _ _ rfl) kin_M_after 1 rfl (sc_382 hS) kse_M_after rfl) kl_M_297 md_M_after rfl rfl (fun q hq => c_M_after hS (112568633486457 : Int) (0 : Int) (3 : Int) M13 q hq) (fun q16 => ?_)
        refine s_goto (tgt := 172) (dt_M_readPerson 89 _ _ _ rfl) rfl ?_
        exact s_mask [true, false] (s_ret0 rfl)
  refine s_iast (N := 16) (dt_M_readPerson 91 _ _ _ rfl) (sc_396 hS) rfl ?_
  refine s_letM (fun M18 => ?_)
  refine s_aload_n (dt_M_readPerson 92 _ _ _ rfl) rfl ?_
  refine s_getR (c := 1) (j := 11) (o := (some 385)) (dt_M_readPerson 93 _ _ _ rfl) (kf_M_20) (sc_382 hS) rfl rfl ?_
  refine s_aload_n (dt_M_readPerson 94 _ _ _ rfl) rfl ?_
  refine s_getI (c := 1) (j := 38) (dt_M_readPerson 95 _ _ _ rfl) (kf_M_279) (sc_382 hS) rfl ?_
  refine s_dup2 (dt_M_readPerson 96 _ _ _ rfl) rfl rfl ?_
  refine s_iald (N := 2) (dt_M_readPerson 97 _ _ _ rfl) (sc_385 hS) rfl ?_
  refine s_iconst (dt_M_readPerson 98 _ _ _ rfl) rfl ?_
  refine s_iadd (dt_M_readPerson 99 _ _ _ rfl) ?_
  refine s_iast (N := 2) (dt_M_readPerson 100 _ _ _ rfl) (sc_385 hS) rfl ?_
  refine s_letM (fun M19 => ?_)
  exact s_vret (dt_M_readPerson 101 _ _ _ rfl) rfl rfl
theorem c_M_readPerson {S : KS} (hS : KExt 435 S)   (M : KM) : ∀ q, f_M_readPerson  M = some q → Ctr y_M_readPerson Y_M_readPerson [VR (some 382)] S M (none) S (q) := fun q hq =>
  ctr_of md_M_readPerson (Nat.le_of_ble_eq_true rfl) ⟨Nat.le_refl _, Nat.le_refl _⟩ 1 hq rfl (fun _ G => sim_M_readPerson hS   M)
set_option maxRecDepth 100000 in
theorem sim_M_hereR {G : Gam} {S : KS} (hS : KExt 435 S)  (a1 : Int) (a2 : Int) (M : KM) : Sim G Y_M_here (f_M_hereR a1 a2 M) (kC 0 [some (VR (some 382)), some (VR (some 405)), some (VI a1), some (VI a2), none] [] S M) (fun (q : Int) => Sum.inr (some (VI q), S, M)) := by
  unfold f_M_hereR
  refine s_iconst (dt_M_here 0 _ _ _ rfl) rfl ?_
  refine s_istore (dt_M_here 1 _ _ _ rfl) rfl ?_
  refine s_bd (κ := (Sum.elim (fun (e2 : Int) => kC 31 [none, none, none, none, some (VI e2)] [] S M) (fun (e3 : Unit) => kC 40 [none, none, none, none, none] [] S M))) (s_mask [true, true, true, true, true] (s_while (c := fun s1 => kC 3 [some (VR (some 382)), some (VR (some 405)), some (VI a1), some (VI a2), some (VI s1)] [] S M) (fun s1 => ?_) (0 : Int))) ?_
  · refine s_iload (dt_M_here 2 _ _ _ rfl) rfl ?_
    refine s_iload_n (dt_M_here 3 _ _ _ rfl) rfl ?_
    refine s_if_icmp_ge (tgt := 40) (dt_M_here 4 _ _ _ rfl) rfl ?_ ?_
    · refine s_aload_n (dt_M_here 5 _ _ _ rfl) rfl ?_
      refine s_getI (c := 1) (j := 8) (dt_M_here 6 _ _ _ rfl) (kf_M_230) (sc_382 hS) rfl ?_
      refine s_iconst (dt_M_here 7 _ _ _ rfl) rfl ?_
      refine s_if_icmp_ne (tgt := 34) (dt_M_here 8 _ _ _ rfl) rfl ?_ ?_
      · refine s_aload_n (dt_M_here 9 _ _ _ rfl) rfl ?_
        refine s_iload_n (dt_M_here 10 _ _ _ rfl) rfl ?_
        refine s_iload (dt_M_here 11 _ _ _ rfl) rfl ?_
        refine s_iadd (dt_M_here 12 _ _ _ rfl) ?_
        refine s_lald (N := 12) (dt_M_here 13 _ _ _ rfl) (sc_405 hS) rfl ?_
        refine s_aload_n (dt_M_here 14 _ _ _ rfl) rfl ?_
        refine s_getJ (c := 1) (j := 10) (dt_M_here 15 _ _ _ rfl) (kf_M_237) (sc_382 hS) rfl ?_
        refine s_lcmp (dt_M_here 16 _ _ _ rfl) ?_
        refine s_if_ne (tgt := 34) (dt_M_here 17 _ _ _ rfl) rfl ?_ ?_
        · exact s_mask [false, false, false, false, true] (s_ret0 rfl)
        · refine s_iinc (dt_M_here 20 _ _ _ rfl) rfl rfl ?_
          refine s_goto (tgt := 3) (dt_M_here 21 _ _ _ rfl) rfl ?_
          exact s_mask [true, true, true, true, true] (s_ret0 rfl)
      · refine s_iinc (dt_M_here 20 _ _ _ rfl) rfl rfl ?_
        refine s_goto (tgt := 3) (dt_M_here 21 _ _ _ rfl) rfl ?_
        exact s_mask [true, true, true, true, true] (s_ret0 rfl)
    · exact s_mask [false, false, false, false, false] (s_ret0 rfl)
  refine s_elim (fun e2 => ?_) ?_
  · refine s_iload (dt_M_here 18 _ _ _ rfl) rfl ?_
    exact s_iret (dt_M_here 19 _ _ _ rfl) rfl rfl
  intro e3
  refine s_iconst (dt_M_here 22 _ _ _ rfl) rfl ?_
  exact s_iret (dt_M_here 23 _ _ _ rfl) rfl rfl
theorem c_M_hereR {S : KS} (hS : KExt 435 S)  (a1 : Int) (a2 : Int) (M : KM) : ∀ q, f_M_hereR a1 a2 M = some q → Ctr y_M_here Y_M_here [VR (some 382), VR (some 405), VI a1, VI a2] S M (some (VI q)) S (M) := fun q hq =>
  ctr_of md_M_here (Nat.le_of_ble_eq_true rfl) ⟨Nat.le_refl _, Nat.le_refl _⟩ 1 hq rfl (fun _ G => sim_M_hereR hS  a1 a2 M)
set_option maxRecDepth 100000 in
theorem sim_M_emit {G : Gam} {S : KS} (hS : KExt 435 S)  (a0 : Int) (a1 : Int) (M : KM) : Sim G Y_M_emit (f_M_emit a0 a1 M) (kC 0 [some (VR (some 382)), some (VI a0), some (VI a1)] [] S M) (fun (q : KM) => Sum.inr (none, S, q)) := by
  unfold f_M_emit
  refine s_aload_n (dt_M_emit 0 _ _ _ rfl) rfl ?_
  refine s_getR (c := 1) (j := 32) (o := (some 406)) (dt_M_emit 1 _ _ _ rfl) (kf_M_86) (sc_382 hS) rfl rfl ?_
  refine s_aload_n (dt_M_emit 2 _ _ _ rfl) rfl ?_
  refine s_getI (c := 1) (j := 39) (dt_M_emit 3 _ _ _ rfl) (kf_M_282) (sc_382 hS) rfl ?_
  refine s_iload_n (dt_M_emit 4 _ _ _ rfl) rfl ?_
  refine s_iast (N := 1120) (dt_M_emit 5 _ _ _ rfl) (sc_406 hS) rfl ?_
  refine s_letM (fun M1 => ?_)
  refine s_aload_n (dt_M_emit 6 _ _ _ rfl) rfl ?_
  refine s_getR (c := 1) (j := 33) (o := (some 407)) (dt_M_emit 7 _ _ _ rfl) (kf_M_89) (sc_382 hS) rfl rfl ?_
  refine s_aload_n (dt_M_emit 8 _ _ _ rfl) rfl ?_
  refine s_getI (c := 1) (j := 39) (dt_M_emit 9 _ _ _ rfl) (kf_M_282) (sc_382 hS) rfl ?_
  refine s_iload_n (dt_M_emit 10 _ _ _ rfl) rfl ?_
  refine s_iast (N := 1120) (dt_M_emit 11 _ _ _ rfl) (sc_407 hS) rfl ?_
  refine s_letM (fun M2 => ?_)
  refine s_aload_n (dt_M_emit 12 _ _ _ rfl) rfl ?_
  refine s_dup (dt_M_emit 13 _ _ _ rfl) rfl ?_
  refine s_getI (c := 1) (j := 39) (dt_M_emit 14 _ _ _ rfl) (kf_M_282) (sc_382 hS) rfl ?_
  refine s_iconst (dt_M_emit 15 _ _ _ rfl) rfl ?_
  refine s_iadd (dt_M_emit 16 _ _ _ rfl) ?_
  refine s_putI (c := 1) (j := 39) (dt_M_emit 17 _ _ _ rfl) kp_M_282 (sc_382 hS) ⟨rfl, rfl⟩ ?_
  refine s_letM (fun M3 => ?_)
  exact s_vret (dt_M_emit 18 _ _ _ rfl) rfl rfl
theorem c_M_emit {S : KS} (hS : KExt 435 S)  (a0 : Int) (a1 : Int) (M : KM) : ∀ q, f_M_emit a0 a1 M = some q → Ctr y_M_emit Y_M_emit [VR (some 382), VI a0, VI a1] S M (none) S (q) := fun q hq =>
  ctr_of md_M_emit (Nat.le_of_ble_eq_true rfl) ⟨Nat.le_refl _, Nat.le_refl _⟩ 0 hq rfl (fun _ G => sim_M_emit hS  a0 a1 M)
set_option maxRecDepth 100000 in
theorem sim_M_isCompared {G : Gam} {S : KS} (hS : KExt 435 S)   (M : KM) : Sim G Y_M_isCompared (f_M_isCompared  M) (kC 0 [some (VR (some 382)), none] [] S M) (fun (q : Int) => Sum.inr (some (VI q), S, M)) := by
  unfold f_M_isCompared
  refine s_aload_n (dt_M_isCompared 0 _ _ _ rfl) rfl ?_
  refine s_getI (c := 1) (j := 41) (dt_M_isCompared 1 _ _ _ rfl) (kf_M_342) (sc_382 hS) rfl ?_
  refine s_iconst (dt_M_isCompared 2 _ _ _ rfl) rfl ?_
  refine s_isub (dt_M_isCompared 3 _ _ _ rfl) ?_
  refine s_letI (fun v1 => ?_)
  refine s_istore_n (dt_M_isCompared 4 _ _ _ rfl) rfl ?_
  refine s_bd (κ := (fun (e3 : Int) => kC 34 [some (VR (some 382)), some (VI e3)] [] S M)) (s_mask [true, true] (s_while (c := fun s2 => kC 7 [some (VR (some 382)), some (VI s2)] [] S M) (fun s2 => ?_) v1)) ?_
  · refine s_aload_n (dt_M_isCompared 5 _ _ _ rfl) rfl ?_
    refine s_getR (c := 1) (j := 34) (o := (some 408)) (dt_M_isCompared 6 _ _ _ rfl) (kf_M_92) (sc_382 hS) rfl rfl ?_
    refine s_iload_n (dt_M_isCompared 7 _ _ _ rfl) rfl ?_
    refine s_iald (N := 90) (dt_M_isCompared 8 _ _ _ rfl) (sc_408 hS) rfl ?_
    refine s_iconst (dt_M_isCompared 9 _ _ _ rfl) rfl ?_
    refine s_if_icmp_eq (tgt := 28) (dt_M_isCompared 10 _ _ _ rfl) rfl ?_ ?_
    · refine s_iinc (dt_M_isCompared 17 _ _ _ rfl) rfl rfl ?_
      refine s_goto (tgt := 7) (dt_M_isCompared 18 _ _ _ rfl) rfl ?_
      exact s_mask [true, true] (s_ret0 rfl)
    · refine s_aload_n (dt_M_isCompared 11 _ _ _ rfl) rfl ?_
      refine s_getR (c := 1) (j := 34) (o := (some 408)) (dt_M_isCompared 12 _ _ _ rfl) (kf_M_92) (sc_382 hS) rfl rfl ?_
      refine s_iload_n (dt_M_isCompared 13 _ _ _ rfl) rfl ?_
      refine s_iald (N := 90) (dt_M_isCompared 14 _ _ _ rfl) (sc_408 hS) rfl ?_
      refine s_bipush (dt_M_isCompared 15 _ _ _ rfl) rfl ?_
      refine s_if_icmp_ne (tgt := 34) (dt_M_isCompared 16 _ _ _ rfl) rfl ?_ ?_
      · refine s_iinc (dt_M_isCompared 17 _ _ _ rfl) rfl rfl ?_
        refine s_goto (tgt := 7) (dt_M_isCompared 18 _ _ _ rfl) rfl ?_
        exact s_mask [true, true] (s_ret0 rfl)
      · exact s_mask [true, true] (s_ret0 rfl)
  intro e3
  refine s_aload_n (dt_M_isCompared 19 _ _ _ rfl) rfl ?_
  refine s_getR (c := 1) (j := 34) (o := (some 408)) (dt_M_isCompared 20 _ _ _ rfl) (kf_M_92) (sc_382 hS) rfl rfl ?_
  refine s_iload_n (dt_M_isCompared 21 _ _ _ rfl) rfl ?_
  refine s_iald (N := 90) (dt_M_isCompared 22 _ _ _ rfl) (sc_408 hS) rfl ?_
  refine s_iconst (dt_M_isCompared 23 _ _ _ rfl) rfl ?_
  refine s_bd (κ := fun t4 => kC 49 [none, none] [VI t4] S M) ?_ (fun t4 => ?_)
  · refine s_if_icmp_ne (tgt := 48) (dt_M_isCompared 24 _ _ _ rfl) rfl ?_ ?_
    · refine s_iconst (dt_M_isCompared 25 _ _ _ rfl) rfl ?_
      refine s_goto (tgt := 49) (dt_M_isCompared 26 _ _ _ rfl) rfl ?_
      exact s_mask [false, false] (s_ret0 rfl)
    · refine s_iconst (dt_M_isCompared 27 _ _ _ rfl) rfl ?_
      exact s_mask [false, false] (s_ret0 rfl)
  exact s_zret (dt_M_isCompared 28 _ _ _ rfl) rfl rfl
theorem c_M_isCompared {S : KS} (hS : KExt 435 S)   (M : KM) : ∀ q, f_M_isCompared  M = some q → Ctr y_M_isCompared Y_M_isCompared [VR (some 382)] S M (some (VI q)) S (M) := fun q hq =>
  ctr_of md_M_isCompared (Nat.le_of_ble_eq_true rfl) ⟨Nat.le_refl _, Nat.le_refl _⟩ 1 hq rfl (fun _ G => sim_M_isCompared hS   M)
set_option maxRecDepth 100000 in
theorem sim_M_pushE {G : Gam} {S : KS} (hS : KExt 435 S)  (a0 : Int) (a1 : Int) (M : KM) : Sim G Y_M_pushE (f_M_pushE a0 a1 M) (kC 0 [some (VR (some 382)), some (VI a0), some (VI a1)] [] S M) (fun (q : KM) => Sum.inr (none, S, q)) := by
  unfold f_M_pushE
  refine s_aload_n (dt_M_pushE 0 _ _ _ rfl) rfl ?_
  refine s_getR (c := 1) (j := 34) (o := (some 408)) (dt_M_pushE 1 _ _ _ rfl) (kf_M_92) (sc_382 hS) rfl rfl ?_
  refine s_aload_n (dt_M_pushE 2 _ _ _ rfl) rfl ?_
  refine s_getI (c := 1) (j := 41) (dt_M_pushE 3 _ _ _ rfl) (kf_M_342) (sc_382 hS) rfl ?_
  refine s_iload_n (dt_M_pushE 4 _ _ _ rfl) rfl ?_
  refine s_iast (N := 90) (dt_M_pushE 5 _ _ _ rfl) (sc_408 hS) rfl ?_
  refine s_letM (fun M1 => ?_)
  refine s_aload_n (dt_M_pushE 6 _ _ _ rfl) rfl ?_
  refine s_getR (c := 1) (j := 35) (o := (some 409)) (dt_M_pushE 7 _ _ _ rfl) (kf_M_95) (sc_382 hS) rfl rfl ?_
  refine s_aload_n (dt_M_pushE 8 _ _ _ rfl) rfl ?_
  refine s_getI (c := 1) (j := 41) (dt_M_pushE 9 _ _ _ rfl) (kf_M_342) (sc_382 hS) rfl ?_
  refine s_iload_n (dt_M_pushE 10 _ _ _ rfl) rfl ?_
  refine s_iast (N := 90) (dt_M_pushE 11 _ _ _ rfl) (sc_409 hS) rfl ?_
  refine s_letM (fun M2 => ?_)
  refine s_aload_n (dt_M_pushE 12 _ _ _ rfl) rfl ?_
  refine s_dup (dt_M_pushE 13 _ _ _ rfl) rfl ?_
  refine s_getI (c := 1) (j := 41) (dt_M_pushE 14 _ _ _ rfl) (kf_M_342) (sc_382 hS) rfl ?_
  refine s_iconst (dt_M_pushE 15 _ _ _ rfl) rfl ?_
  refine s_iadd (dt_M_pushE 16 _ _ _ rfl) ?_
  refine s_putI (c := 1) (j := 41) (dt_M_pushE 17 _ _ _ rfl) kp_M_342 (sc_382 hS) ⟨rfl, rfl⟩ ?_
  refine s_letM (fun M3 => ?_)
  exact s_vret (dt_M_pushE 18 _ _ _ rfl) rfl rfl
theorem c_M_pushE {S : KS} (hS : KExt 435 S)  (a0 : Int) (a1 : Int) (M : KM) : ∀ q, f_M_pushE a0 a1 M = some q → Ctr y_M_pushE Y_M_pushE [VR (some 382), VI a0, VI a1] S M (none) S (q) := fun q hq =>
  ctr_of md_M_pushE (Nat.le_of_ble_eq_true rfl) ⟨Nat.le_refl _, Nat.le_refl _⟩ 0 hq rfl (fun _ G => sim_M_pushE hS  a0 a1 M)
