set_option maxRecDepth 100000 in
theorem sim_X_putFour {G : Gam} {S : KS} (hS : KExt 382 S)  (a0 : Int) (M : KM) : Sim G Y_X_putFour (f_X_putFour a0 M) (kC 0 [some (VR (some 0)), some (VI a0), none] [] S M) (fun (q : KM) => Sum.inr (none, S, q)) := by
  unfold f_X_putFour
  refine s_bipush (dt_X_putFour 0 _ _ _ rfl) rfl ?_
  refine s_istore_n (dt_X_putFour 1 _ _ _ rfl) rfl ?_
  refine s_bd (κ := (fun (e5 : KM) => kC 55 [none, none, none] [] S e5)) (s_mask [true, true, true] (s_while (c := fun s1 => kC 3 [some (VR (some 0)), some (VI a0), some (VI s1.1)] [] S s1.2) (fun s1 => ?_) ((24 : Int), M))) ?_
  · refine s_iload_n (dt_X_putFour 2 _ _ _ rfl) rfl ?_
    refine s_if_lt (tgt := 55) (dt_X_putFour 3 _ _ _ rfl) rfl ?_ ?_
    · exact s_mask [false, false, false] (s_ret0 rfl)
    · refine s_aload_n (dt_X_putFour 4 _ _ _ rfl) rfl ?_
      refine s_getI (c := 0) (j := 1) (dt_X_putFour 5 _ _ _ rfl) (kf_X_13) (sc_0 hS) rfl ?_
      refine s_bd (κ := fun t4 => kC 49 [some (VR (some 0)), some (VI a0), some (VI s1.1)] [] S t4) ?_ (fun t4 => ?_)
      · refine s_if_lt (tgt := 49) (dt_X_putFour 6 _ _ _ rfl) rfl ?_ ?_
        · exact s_mask [true, true, true] (s_ret0 rfl)
        · refine s_aload_n (dt_X_putFour 7 _ _ _ rfl) rfl ?_
          refine s_getI (c := 0) (j := 1) (dt_X_putFour 8 _ _ _ rfl) (kf_X_13) (sc_0 hS) rfl ?_
          refine s_aload_n (dt_X_putFour 9 _ _ _ rfl) rfl ?_
          refine s_getR (c := 0) (j := 0) (o := (some 1)) (dt_X_putFour 10 _ _ _ rfl) (kf_X_9) (sc_0 hS) rfl rfl ?_
          refine s_alen (N := 1600) (dt_X_putFour 11 _ _ _ rfl) (sc_1 hS) rfl rfl (by decide) ?_
          refine s_if_icmp_ge (tgt := 49) (dt_X_putFour 12 _ _ _ rfl) rfl ?_ ?_
          · refine s_aload_n (dt_X_putFour 13 _ _ _ rfl) rfl ?_
            refine s_getR (c := 0) (j := 0) (o := (some 1)) (dt_X_putFour 14 _ _ _ rfl) (kf_X_9) (sc_0 hS) rfl rfl ?_
            refine s_aload_n (dt_X_putFour 15 _ _ _ rfl) rfl ?_
            refine s_getI (c := 0) (j := 1) (dt_X_putFour 16 _ _ _ rfl) (kf_X_13) (sc_0 hS) rfl ?_
            refine s_iload_n (dt_X_putFour 17 _ _ _ rfl) rfl ?_
            refine s_iload_n (dt_X_putFour 18 _ _ _ rfl) rfl ?_
            refine s_ishr (dt_X_putFour 19 _ _ _ rfl) ?_
            refine s_i2b (dt_X_putFour 20 _ _ _ rfl) ?_
            refine s_bast (N := 1600) (dt_X_putFour 21 _ _ _ rfl) (sc_1 hS) rfl ?_
            refine s_letM (fun M2 => ?_)
            refine s_aload_n (dt_X_putFour 22 _ _ _ rfl) rfl ?_
            refine s_dup (dt_X_putFour 23 _ _ _ rfl) rfl ?_
            refine s_getI (c := 0) (j := 1) (dt_X_putFour 24 _ _ _ rfl) (kf_X_13) (sc_0 hS) rfl ?_
            refine s_iconst (dt_X_putFour 25 _ _ _ rfl) rfl ?_
            refine s_iadd (dt_X_putFour 26 _ _ _ rfl) ?_
            refine s_putI (c := 0) (j := 1) (dt_X_putFour 27 _ _ _ rfl) kp_X_13 (sc_0 hS) ⟨rfl, rfl⟩ ?_
            refine s_letM (fun M3 => ?_)
            exact s_mask [true, true, true] (s_ret0 rfl)
          · exact s_mask [true, true, true] (s_ret0 rfl)
      refine s_iinc (dt_X_putFour 28 _ _ _ rfl) rfl rfl ?_
      refine s_goto (tgt := 3) (dt_X_putFour 29 _ _ _ rfl) rfl ?_
      exact s_mask [true, true, true] (s_ret0 rfl)
  intro e5
  exact s_vret (dt_X_putFour 30 _ _ _ rfl) rfl rfl
theorem c_X_putFour {S : KS} (hS : KExt 382 S)  (a0 : Int) (M : KM) : ∀ q, f_X_putFour a0 M = some q → Ctr y_X_putFour Y_X_putFour [VR (some 0), VI a0] S M (none) S (q) := fun q hq =>
  ctr_of md_X_putFour (Nat.le_of_ble_eq_true rfl) ⟨Nat.le_refl _, Nat.le_refl _⟩ 1 hq rfl (fun _ G => sim_X_putFour hS  a0 M)
set_option maxRecDepth 100000 in
theorem sim_X_feed {G : Gam} {S : KS} (hS : KExt 382 S)  (a0 : Int) (a1 : Int) (a2 : Int) (a3 : Int) (a4 : Int) (M : KM) : Sim G Y_X_feed (f_X_feed a0 a1 a2 a3 a4 M) (kC 0 [some (VR (some 0)), some (VI a0), some (VI a1), some (VI a2), some (VI a3), some (VI a4)] [] S M) (fun (q : Int × KM) => Sum.inr (some (VI q.1), S, q.2)) := by
  unfold f_X_feed
  refine s_aload_n (dt_X_feed 0 _ _ _ rfl) rfl ?_
  refine s_getI (c := 0) (j := 1) (dt_X_feed 1 _ _ _ rfl) (kf_X_13) (sc_0 hS) rfl ?_
  refine s_bipush (dt_X_feed 2 _ _ _ rfl) rfl ?_
  refine s_iadd (dt_X_feed 3 _ _ _ rfl) ?_
  refine s_aload_n (dt_X_feed 4 _ _ _ rfl) rfl ?_
  refine s_getR (c := 0) (j := 0) (o := (some 1)) (dt_X_feed 5 _ _ _ rfl) (kf_X_9) (sc_0 hS) rfl rfl ?_
  refine s_alen (N := 1600) (dt_X_feed 6 _ _ _ rfl) (sc_1 hS) rfl rfl (by decide) ?_
  refine s_if_icmp_le (tgt := 17) (dt_X_feed 7 _ _ _ rfl) rfl ?_ ?_
  · refine s_aload_n (dt_X_feed 10 _ _ _ rfl) rfl ?_
    refine s_iload_n (dt_X_feed 11 _ _ _ rfl) rfl ?_
    refine s_callO (y := y_X_putFour) (Y' := Y_X_putFour) (as := [VR (some 0), VI a0]) (r := fun q => none) (M' := fun q => q) (kInvV (dt_X_feed 12 _ _ _ rfl) kin_X_putFour 0 rfl (sc_0 hS) kse_X_putFour rfl) kl_X_100 md_X_putFour rfl rfl (fun q hq => c_X_putFour hS a0 M q hq) (fun q1 => ?_)
    refine s_aload_n (dt_X_feed 13 _ _ _ rfl) rfl ?_
    refine s_iload_n (dt_X_feed 14 _ _ _ rfl) rfl ?_
    refine s_callO (y := y_X_putFour) (Y' := Y_X_putFour) (as := [VR (some 0), VI a1]) (r := fun q => none) (M' := fun q => q) (kInvV (dt_X_feed 15 _ _ _ rfl) kin_X_putFour 0 rfl (sc_0 hS) kse_X_putFour rfl) kl_X_100 md_X_putFour rfl rfl (fun q hq => c_X_putFour hS a1 q1 q hq) (fun q2 => ?_)
    refine s_aload_n (dt_X_feed 16 _ _ _ rfl) rfl ?_
    refine s_iload_n (dt_X_feed 17 _ _ _ rfl) rfl ?_
    refine s_callO (y := y_X_putFour) (Y' := Y_X_putFour) (as := [VR (some 0), VI a2]) (r := fun q => none) (M' := fun q => q) (kInvV (dt_X_feed 18 _ _ _ rfl) kin_X_putFour 0 rfl (sc_0 hS) kse_X_putFour rfl) kl_X_100 md_X_putFour rfl rfl (fun q hq => c_X_putFour hS a2 q2 q hq) (fun q3 => ?_)
    refine s_aload_n (dt_X_feed 19 _ _ _ rfl) rfl ?_
    refine s_iload (dt_X_feed 20 _ _ _ rfl) rfl ?_
    refine s_callO (y := y_X_putFour) (Y' := Y_X_putFour) (as := [VR (some 0), VI a3]) (r := fun q => none) (M' := fun q => q) (kInvV (dt_X_feed 21 _ _ _ rfl) kin_X_putFour 0 rfl (sc_0 hS) kse_X_putFour rfl) kl_X_100 md_X_putFour rfl rfl (fun q hq => c_X_putFour hS a3 q3 q hq) (fun q4 => ?_)
    refine s_aload_n (dt_X_feed 22 _ _ _ rfl) rfl ?_
    refine s_iload (dt_X_feed 23 _ _ _ rfl) rfl ?_
    refine s_callO (y := y_X_putFour) (Y' := Y_X_putFour) (as := [VR (some 0), VI a4]) (r := fun q => none) (M' := fun q => q) (kInvV (dt_X_feed 24 _ _ _ rfl) kin_X_putFour 0 rfl (sc_0 hS) kse_X_putFour rfl) kl_X_100 md_X_putFour rfl rfl (fun q hq => c_X_putFour hS a4 q4 q hq) (fun q5 => ?_)
    refine s_aload_n (dt_X_feed 25 _ _ _ rfl) rfl ?_
    refine s_getI (c := 0) (j := 1) (dt_X_feed 26 _ _ _ rfl) (kf_X_13) (sc_0 hS) rfl ?_
    exact s_iret (dt_X_feed 27 _ _ _ rfl) rfl rfl
  · refine s_iconst (dt_X_feed 8 _ _ _ rfl) rfl ?_
    exact s_iret (dt_X_feed 9 _ _ _ rfl) rfl rfl
theorem c_X_feed {S : KS} (hS : KExt 382 S)  (a0 : Int) (a1 : Int) (a2 : Int) (a3 : Int) (a4 : Int) (M : KM) : ∀ q, f_X_feed a0 a1 a2 a3 a4 M = some q → Ctr y_X_feed Y_X_feed [VR (some 0), VI a0, VI a1, VI a2, VI a3, VI a4] S M (some (VI q.1)) S (q.2) := fun q hq =>
  ctr_of md_X_feed (Nat.le_of_ble_eq_true rfl) ⟨Nat.le_refl _, Nat.le_refl _⟩ 0 hq rfl (fun _ G => sim_X_feed hS  a0 a1 a2 a3 a4 M)
set_option maxRecDepth 100000 in
theorem sim_X_end {G : Gam} {S : KS} (hS : KExt 382 S)  (a0 : Int) (M : KM) : Sim G Y_X_end (f_X_end a0 M) (kC 0 [some (VR (some 0)), some (VI a0)] [] S M) (fun (q : Int × KM) => Sum.inr (some (VI q.1), S, q.2)) := by
  unfold f_X_end
  refine s_iload_n (dt_X_end 0 _ _ _ rfl) rfl ?_
  refine s_if_lt (tgt := 12) (dt_X_end 1 _ _ _ rfl) rfl ?_ ?_
  · refine s_iconst (dt_X_end 6 _ _ _ rfl) rfl ?_
    exact s_iret (dt_X_end 7 _ _ _ rfl) rfl rfl
  · refine s_iload_n (dt_X_end 2 _ _ _ rfl) rfl ?_
    refine s_aload_n (dt_X_end 3 _ _ _ rfl) rfl ?_
    refine s_getI (c := 0) (j := 1) (dt_X_end 4 _ _ _ rfl) (kf_X_13) (sc_0 hS) rfl ?_
    refine s_if_icmp_le (tgt := 14) (dt_X_end 5 _ _ _ rfl) rfl ?_ ?_
    · refine s_aload_n (dt_X_end 8 _ _ _ rfl) rfl ?_
      refine s_iload_n (dt_X_end 9 _ _ _ rfl) rfl ?_
      refine s_putI (c := 0) (j := 1) (dt_X_end 10 _ _ _ rfl) kp_X_13 (sc_0 hS) ⟨rfl, rfl⟩ ?_
      refine s_letM (fun M1 => ?_)
      refine s_iload_n (dt_X_end 11 _ _ _ rfl) rfl ?_
      exact s_iret (dt_X_end 12 _ _ _ rfl) rfl rfl
    · refine s_iconst (dt_X_end 6 _ _ _ rfl) rfl ?_
      exact s_iret (dt_X_end 7 _ _ _ rfl) rfl rfl
theorem c_X_end {S : KS} (hS : KExt 382 S)  (a0 : Int) (M : KM) : ∀ q, f_X_end a0 M = some q → Ctr y_X_end Y_X_end [VR (some 0), VI a0] S M (some (VI q.1)) S (q.2) := fun q hq =>
  ctr_of md_X_end (Nat.le_of_ble_eq_true rfl) ⟨Nat.le_refl _, Nat.le_refl _⟩ 0 hq rfl (fun _ G => sim_X_end hS  a0 M)
set_option maxRecDepth 100000 in
theorem sim_Faces_clear {G : Gam} {S : KS} (hS : KExt 382 S)   (M : KM) : Sim G Y_Faces_clear (f_Faces_clear  M) (kC 0 [some (VR (some 349))] [] S M) (fun (q : KM) => Sum.inr (none, S, q)) := by
  unfold f_Faces_clear
  refine s_aload_n (dt_Faces_clear 0 _ _ _ rfl) rfl ?_
  refine s_iconst (dt_Faces_clear 1 _ _ _ rfl) rfl ?_
  refine s_putI (c := 3) (j := 0) (dt_Faces_clear 2 _ _ _ rfl) kp_Faces_9 (sc_349 hS) ⟨rfl, rfl⟩ ?_
  refine s_letM (fun M1 => ?_)
  exact s_vret (dt_Faces_clear 3 _ _ _ rfl) rfl rfl
theorem c_Faces_clear {S : KS} (hS : KExt 382 S)   (M : KM) : ∀ q, f_Faces_clear  M = some q → Ctr y_Faces_clear Y_Faces_clear [VR (some 349)] S M (none) S (q) := fun q hq =>
  ctr_of md_Faces_clear (Nat.le_of_ble_eq_true rfl) ⟨Nat.le_refl _, Nat.le_refl _⟩ 0 hq rfl (fun _ G => sim_Faces_clear hS   M)
set_option maxRecDepth 100000 in
theorem sim_History_stateAfter {G : Gam} {S : KS} (hS : KExt 382 S)  (a0 : Int) (M : KM) : Sim G Y_History_stateAfter (f_History_stateAfter a0 M) (kC 0 [some (VR (some 41)), some (VI a0), none] [] S M) (fun (q : Nat) => Sum.inr (some (VR (some q)), S, M)) := by
  unfold f_History_stateAfter
  refine s_aload_n (dt_History_stateAfter 0 _ _ _ rfl) rfl ?_
  refine s_getI (c := 6) (j := 1) (dt_History_stateAfter 1 _ _ _ rfl) (kf_History_17) (sc_41 hS) rfl ?_
  refine s_iload_n (dt_History_stateAfter 2 _ _ _ rfl) rfl ?_
  refine s_iadd (dt_History_stateAfter 3 _ _ _ rfl) ?_
  refine s_bipush (dt_History_stateAfter 4 _ _ _ rfl) rfl ?_
  refine s_irem (dt_History_stateAfter 5 _ _ _ rfl) ?_
  refine s_letI (fun v1 => ?_)
  refine s_istore_n (dt_History_stateAfter 6 _ _ _ rfl) rfl ?_
  refine s_iload_n (dt_History_stateAfter 7 _ _ _ rfl) rfl ?_
  refine s_if_lt (tgt := 32) (dt_History_stateAfter 8 _ _ _ rfl) rfl ?_ ?_
  · refine s_null (dt_History_stateAfter 19 _ _ _ rfl) ?_
    exact s_none
  · refine s_iload_n (dt_History_stateAfter 9 _ _ _ rfl) rfl ?_
    refine s_aload_n (dt_History_stateAfter 10 _ _ _ rfl) rfl ?_
    refine s_getR (c := 6) (j := 0) (o := (some 42)) (dt_History_stateAfter 11 _ _ _ rfl) (kf_History_11) (sc_41 hS) rfl rfl ?_
    refine s_alen (N := 41) (dt_History_stateAfter 12 _ _ _ rfl) (sc_42 hS) rfl rfl (by decide) ?_
    refine s_if_icmp_ge (tgt := 32) (dt_History_stateAfter 13 _ _ _ rfl) rfl ?_ ?_
    · refine s_aload_n (dt_History_stateAfter 14 _ _ _ rfl) rfl ?_
      refine s_getR (c := 6) (j := 0) (o := (some 42)) (dt_History_stateAfter 15 _ _ _ rfl) (kf_History_11) (sc_41 hS) rfl rfl ?_
      refine s_iload_n (dt_History_stateAfter 16 _ _ _ rfl) rfl ?_
      refine s_aald (N := 41) (o := some (43 + 7 * (v1).toNat)) (dt_History_stateAfter 17 _ _ _ rfl) (sc_42 hS) rfl ho_hist ?_
      refine s_goto (tgt := 33) (dt_History_stateAfter 18 _ _ _ rfl) rfl ?_
      exact s_aret (C := "YearHands$State") (dt_History_stateAfter 20 _ _ _ rfl) rfl rfl
    · refine s_null (dt_History_stateAfter 19 _ _ _ rfl) ?_
      exact s_none
theorem c_History_stateAfter {S : KS} (hS : KExt 382 S)  (a0 : Int) (M : KM) : ∀ q, f_History_stateAfter a0 M = some q → Ctr y_History_stateAfter Y_History_stateAfter [VR (some 41), VI a0] S M (some (VR (some q))) S (M) := fun q hq =>
  ctr_of md_History_stateAfter (Nat.le_of_ble_eq_true rfl) ⟨Nat.le_refl _, Nat.le_refl _⟩ 1 hq rfl (fun _ G => sim_History_stateAfter hS  a0 M)
set_option maxRecDepth 100000 in
theorem sim_State_copy {G : Gam} {S : KS} (hS : KExt 382 S) {k0 : Nat} (h0 : kSt S k0) {k1 : Nat} (h1 : kSt S k1)  (M : KM) : Sim G Y_State_copy (f_State_copy k0 k1 M) (kC 0 [some (VR (some k0)), some (VR (some k1))] [] S M) (fun (q : KM) => Sum.inr (none, S, q)) := by
  unfold f_State_copy
  refine s_aload_n (dt_State_copy 0 _ _ _ rfl) rfl ?_
  refine s_ifnull (dt_State_copy 1 _ _ _ rfl) ?_
  refine s_aload_n (dt_State_copy 2 _ _ _ rfl) rfl ?_
  refine s_ifnonnull (tgt := 9) (dt_State_copy 3 _ _ _ rfl) rfl ?_
  refine s_aload_n (dt_State_copy 5 _ _ _ rfl) rfl ?_
  refine s_getR (c := 10) (j := 0) (o := (some (k0 + 1))) (dt_State_copy 6 _ _ _ rfl) (kf_State_9) (h0).1 rfl rfl ?_
  refine s_aload_n (dt_State_copy 7 _ _ _ rfl) rfl ?_
  refine s_getR (c := 10) (j := 0) (o := (some (k1 + 1))) (dt_State_copy 8 _ _ _ rfl) (kf_State_9) (h1).1 rfl rfl ?_
  refine s_inv (y := y_X_copyRow) (Y' := Y_X_copyRow) (as := [VR (some (k0 + 1)), VR (some (k1 + 1))]) (r := none) (M' := (mcp M (k0 + 1) (k1 + 1) (min 8 8))) (kInvS (dt_State_copy 9 _ _ _ rfl) kst_X_copyRow rfl) kl_State_33 md_X_copyRow rfl rfl (c_X_copyRow hS ⟨((h0).2.1), by decide⟩ ⟨((h1).2.1), by decide⟩ M) ?_
  refine s_letM (fun M1 => ?_)
  refine s_aload_n (dt_State_copy 10 _ _ _ rfl) rfl ?_
  refine s_getR (c := 10) (j := 1) (o := (some (k0 + 2))) (dt_State_copy 11 _ _ _ rfl) (kf_State_15) (h0).1 rfl rfl ?_
  refine s_aload_n (dt_State_copy 12 _ _ _ rfl) rfl ?_
  refine s_getR (c := 10) (j := 1) (o := (some (k1 + 2))) (dt_State_copy 13 _ _ _ rfl) (kf_State_15) (h1).1 rfl rfl ?_
  refine s_inv (y := y_X_copyRow) (Y' := Y_X_copyRow) (as := [VR (some (k0 + 2)), VR (some (k1 + 2))]) (r := none) (M' := (mcp M1 (k0 + 2) (k1 + 2) (min 8 8))) (kInvS (dt_State_copy 14 _ _ _ rfl) kst_X_copyRow rfl) kl_State_33 md_X_copyRow rfl rfl (c_X_copyRow hS ⟨((h0).2.2.1), by decide⟩ ⟨((h1).2.2.1), by decide⟩ M1) ?_
  refine s_letM (fun M2 => ?_)
  refine s_aload_n (dt_State_copy 15 _ _ _ rfl) rfl ?_
  refine s_aload_n (dt_State_copy 16 _ _ _ rfl) rfl ?_
  refine s_getI (c := 10) (j := 2) (dt_State_copy 17 _ _ _ rfl) (kf_State_42) (h0).1 rfl ?_
  refine s_putI (c := 10) (j := 2) (dt_State_copy 18 _ _ _ rfl) kp_State_42 (h1).1 ⟨rfl, rfl⟩ ?_
  refine s_letM (fun M3 => ?_)
  refine s_aload_n (dt_State_copy 19 _ _ _ rfl) rfl ?_
  refine s_aload_n (dt_State_copy 20 _ _ _ rfl) rfl ?_
  refine s_getI (c := 10) (j := 3) (dt_State_copy 21 _ _ _ rfl) (kf_State_43) (h0).1 rfl ?_
  refine s_putI (c := 10) (j := 3) (dt_State_copy 22 _ _ _ rfl) kp_State_43 (h1).1 ⟨rfl, rfl⟩ ?_
  refine s_letM (fun M4 => ?_)
  refine s_aload_n (dt_State_copy 23 _ _ _ rfl) rfl ?_
  refine s_aload_n (dt_State_copy 24 _ _ _ rfl) rfl ?_
  refine s_getI (c := 10) (j := 4) (dt_State_copy 25 _ _ _ rfl) (kf_State_46) (h0).1 rfl ?_
  refine s_putI (c := 10) (j := 4) (dt_State_copy 26 _ _ _ rfl) kp_State_46 (h1).1 ⟨rfl, rfl⟩ ?_
  refine s_letM (fun M5 => ?_)
  refine s_aload_n (dt_State_copy 27 _ _ _ rfl) rfl ?_
  refine s_aload_n (dt_State_copy 28 _ _ _ rfl) rfl ?_
  refine s_getI (c := 10) (j := 5) (dt_State_copy 29 _ _ _ rfl) (kf_State_52) (h0).1 rfl ?_
  refine s_putI (c := 10) (j := 5) (dt_State_copy 30 _ _ _ rfl) kp_State_52 (h1).1 ⟨rfl, rfl⟩ ?_
  refine s_letM (fun M6 => ?_)
  refine s_aload_n (dt_State_copy 31 _ _ _ rfl) rfl ?_
  refine s_aload_n (dt_State_copy 32 _ _ _ rfl) rfl ?_
  refine s_getI (c := 10) (j := 6) (dt_State_copy 33 _ _ _ rfl) (kf_State_55) (h0).1 rfl ?_
  refine s_putI (c := 10) (j := 6) (dt_State_copy 34 _ _ _ rfl) kp_State_55 (h1).1 ⟨rfl, rfl⟩ ?_
  refine s_letM (fun M7 => ?_)
  refine s_aload_n (dt_State_copy 35 _ _ _ rfl) rfl ?_
  refine s_aload_n (dt_State_copy 36 _ _ _ rfl) rfl ?_
  refine s_getI (c := 10) (j := 7) (dt_State_copy 37 _ _ _ rfl) (kf_State_58) (h0).1 rfl ?_
  refine s_putI (c := 10) (j := 7) (dt_State_copy 38 _ _ _ rfl) kp_State_58 (h1).1 ⟨rfl, rfl⟩ ?_
  refine s_letM (fun M8 => ?_)
  refine s_aload_n (dt_State_copy 39 _ _ _ rfl) rfl ?_
  refine s_aload_n (dt_State_copy 40 _ _ _ rfl) rfl ?_
  refine s_getI (c := 10) (j := 8) (dt_State_copy 41 _ _ _ rfl) (kf_State_61) (h0).1 rfl ?_
  refine s_putI (c := 10) (j := 8) (dt_State_copy 42 _ _ _ rfl) kp_State_61 (h1).1 ⟨rfl, rfl⟩ ?_
  refine s_letM (fun M9 => ?_)
  refine s_aload_n (dt_State_copy 43 _ _ _ rfl) rfl ?_
  refine s_getR (c := 10) (j := 9) (o := (some (k0 + 3))) (dt_State_copy 44 _ _ _ rfl) (kf_State_18) (h0).1 rfl rfl ?_
  refine s_aload_n (dt_State_copy 45 _ _ _ rfl) rfl ?_
  refine s_getR (c := 10) (j := 9) (o := (some (k1 + 3))) (dt_State_copy 46 _ _ _ rfl) (kf_State_18) (h1).1 rfl rfl ?_
  refine s_inv (y := y_X_copyRow) (Y' := Y_X_copyRow) (as := [VR (some (k0 + 3)), VR (some (k1 + 3))]) (r := none) (M' := (mcp M9 (k0 + 3) (k1 + 3) (min 30 30))) (kInvS (dt_State_copy 47 _ _ _ rfl) kst_X_copyRow rfl) kl_State_33 md_X_copyRow rfl rfl (c_X_copyRow hS ⟨((h0).2.2.2.1), by decide⟩ ⟨((h1).2.2.2.1), by decide⟩ M9) ?_
  refine s_letM (fun M10 => ?_)
  refine s_aload_n (dt_State_copy 48 _ _ _ rfl) rfl ?_
  refine s_getR (c := 10) (j := 10) (o := (some (k0 + 4))) (dt_State_copy 49 _ _ _ rfl) (kf_State_21) (h0).1 rfl rfl ?_
  refine s_aload_n (dt_State_copy 50 _ _ _ rfl) rfl ?_
  refine s_getR (c := 10) (j := 10) (o := (some (k1 + 4))) (dt_State_copy 51 _ _ _ rfl) (kf_State_21) (h1).1 rfl rfl ?_
  refine s_inv (y := y_X_copyRow) (Y' := Y_X_copyRow) (as := [VR (some (k0 + 4)), VR (some (k1 + 4))]) (r := none) (M' := (mcp M10 (k0 + 4) (k1 + 4) (min 30 30))) (kInvS (dt_State_copy 52 _ _ _ rfl) kst_X_copyRow rfl) kl_State_33 md_X_copyRow rfl rfl (c_X_copyRow hS ⟨((h0).2.2.2.2.1), by decide⟩ ⟨((h1).2.2.2.2.1), by decide⟩ M10) ?_
  refine s_letM (fun M11 => ?_)
  refine s_aload_n (dt_State_copy 53 _ _ _ rfl) rfl ?_
  refine s_getR (c := 10) (j := 11) (o := (some (k0 + 5))) (dt_State_copy 54 _ _ _ rfl) (kf_State_24) (h0).1 rfl rfl ?_
  refine s_aload_n (dt_State_copy 55 _ _ _ rfl) rfl ?_
  refine s_getR (c := 10) (j := 11) (o := (some (k1 + 5))) (dt_State_copy 56 _ _ _ rfl) (kf_State_24) (h1).1 rfl rfl ?_
  refine s_inv (y := y_X_copyRow) (Y' := Y_X_copyRow) (as := [VR (some (k0 + 5)), VR (some (k1 + 5))]) (r := none) (M' := (mcp M11 (k0 + 5) (k1 + 5) (min 30 30))) (kInvS (dt_State_copy 57 _ _ _ rfl) kst_X_copyRow rfl) kl_State_33 md_X_copyRow rfl rfl (c_X_copyRow hS ⟨((h0).2.2.2.2.2.1), by decide⟩ ⟨((h1).2.2.2.2.2.1), by decide⟩ M11) ?_
  refine s_letM (fun M12 => ?_)
  refine s_aload_n (dt_State_copy 58 _ _ _ rfl) rfl ?_
  refine s_getR (c := 10) (j := 12) (o := (some (k0 + 6))) (dt_State_copy 59 _ _ _ rfl) (kf_State_27) (h0).1 rfl rfl ?_
  refine s_aload_n (dt_State_copy 60 _ _ _ rfl) rfl ?_
  refine s_getR (c := 10) (j := 12) (o := (some (k1 + 6))) (dt_State_copy 61 _ _ _ rfl) (kf_State_27) (h1).1 rfl rfl ?_
  refine s_inv (y := y_X_copyRow) (Y' := Y_X_copyRow) (as := [VR (some (k0 + 6)), VR (some (k1 + 6))]) (r := none) (M' := (mcp M12 (k0 + 6) (k1 + 6) (min 30 30))) (kInvS (dt_State_copy 62 _ _ _ rfl) kst_X_copyRow rfl) kl_State_33 md_X_copyRow rfl rfl (c_X_copyRow hS ⟨((h0).2.2.2.2.2.2), by decide⟩ ⟨((h1).2.2.2.2.2.2), by decide⟩ M12) ?_
  refine s_letM (fun M13 => ?_)
  exact s_vret (dt_State_copy 63 _ _ _ rfl) rfl rfl
theorem c_State_copy {S : KS} (hS : KExt 382 S) {k0 : Nat} (h0 : kSt S k0) {k1 : Nat} (h1 : kSt S k1)  (M : KM) : ∀ q, f_State_copy k0 k1 M = some q → Ctr y_State_copy Y_State_copy [VR (some k0), VR (some k1)] S M (none) S (q) := fun q hq =>
  ctr_of md_State_copy (Nat.le_of_ble_eq_true rfl) ⟨Nat.le_refl _, Nat.le_refl _⟩ 0 hq rfl (fun _ G => sim_State_copy hS h0 h1  M)
set_option maxRecDepth 100000 in
theorem sim_History_begin {G : Gam} {S : KS} (hS : KExt 382 S)   (M : KM) : Sim G Y_History_begin (f_History_begin  M) (kC 0 [some (VR (some 41)), some (VR (some 34))] [] S M) (fun (q : KM) => Sum.inr (none, S, q)) := by
  unfold f_History_begin
  refine s_aload_n (dt_History_begin 0 _ _ _ rfl) rfl ?_
  refine s_iconst (dt_History_begin 1 _ _ _ rfl) rfl ?_
  refine s_putI (c := 6) (j := 1) (dt_History_begin 2 _ _ _ rfl) kp_History_17 (sc_41 hS) ⟨rfl, rfl⟩ ?_
  refine s_letM (fun M1 => ?_)
  refine s_aload_n (dt_History_begin 3 _ _ _ rfl) rfl ?_
  refine s_iconst (dt_History_begin 4 _ _ _ rfl) rfl ?_
  refine s_putI (c := 6) (j := 2) (dt_History_begin 5 _ _ _ rfl) kp_History_21 (sc_41 hS) ⟨rfl, rfl⟩ ?_
  refine s_letM (fun M2 => ?_)
  refine s_aload_n (dt_History_begin 6 _ _ _ rfl) rfl ?_
  refine s_iconst (dt_History_begin 7 _ _ _ rfl) rfl ?_
  refine s_putI (c := 6) (j := 3) (dt_History_begin 8 _ _ _ rfl) kp_History_24 (sc_41 hS) ⟨rfl, rfl⟩ ?_
  refine s_letM (fun M3 => ?_)
  refine s_aload_n (dt_History_begin 9 _ _ _ rfl) rfl ?_
  refine s_aload_n (dt_History_begin 10 _ _ _ rfl) rfl ?_
  refine s_iconst (dt_History_begin 11 _ _ _ rfl) rfl ?_
  refine s_callO (y := y_History_stateAfter) (Y' := Y_History_stateAfter) (as := [VR (some 41), VI (0 : Int)]) (r := fun q => some (VR (some q))) (M' := fun q => M3) (kInvV (dt_History_begin 12 _ _ _ rfl) kin_History_stateAfter 6 rfl (sc_41 hS) kse_History_stateAfter rfl) kl_History_28 md_History_stateAfter rfl rfl (fun q hq => c_History_stateAfter hS (0 : Int) M3 q hq) (fun q4 => ?_)
  refine s_if (fun h5 => ?_)
  refine s_callO (y := y_State_copy) (Y' := Y_State_copy) (as := [VR (some 34), VR (some q4)]) (r := fun q => none) (M' := fun q => q) (kInvS (dt_History_begin 13 _ _ _ rfl) kst_State_copy rfl) kl_History_32 md_State_copy rfl rfl (fun q hq => c_State_copy hS (kSt_of hS (by decide)) (kSt_of hS h5) M3 q hq) (fun q6 => ?_)
  exact s_vret (dt_History_begin 14 _ _ _ rfl) rfl rfl
theorem c_History_begin {S : KS} (hS : KExt 382 S)   (M : KM) : ∀ q, f_History_begin  M = some q → Ctr y_History_begin Y_History_begin [VR (some 41), VR (some 34)] S M (none) S (q) := fun q hq =>
  ctr_of md_History_begin (Nat.le_of_ble_eq_true rfl) ⟨Nat.le_refl _, Nat.le_refl _⟩ 0 hq rfl (fun _ G => sim_History_begin hS   M)
set_option maxRecDepth 100000 in
theorem sim_Reader_refuse {G : Gam} {S : KS} (hS : KExt 382 S)  (a0 : Int) (M : KM) : Sim G Y_Reader_refuse (f_Reader_refuse a0 M) (kC 0 [some (VR (some 14)), some (VI a0)] [] S M) (fun (q : Int × KM) => Sum.inr (some (VI q.1), S, q.2)) := by
  unfold f_Reader_refuse
  refine s_aload_n (dt_Reader_refuse 0 _ _ _ rfl) rfl ?_
  refine s_aload_n (dt_Reader_refuse 1 _ _ _ rfl) rfl ?_
  refine s_getI (c := 7) (j := 5) (dt_Reader_refuse 2 _ _ _ rfl) (kf_Reader_59) (sc_14 hS) rfl ?_
  refine s_bd (κ := fun t1 => kC 13 [some (VR (some 14)), none] [VI t1, VR (some 14)] S M) ?_ (fun t1 => ?_)
  · refine s_if_ne (tgt := 12) (dt_Reader_refuse 3 _ _ _ rfl) rfl ?_ ?_
    · refine s_iconst (dt_Reader_refuse 4 _ _ _ rfl) rfl ?_
      refine s_goto (tgt := 13) (dt_Reader_refuse 5 _ _ _ rfl) rfl ?_
      exact s_mask [true, false] (s_ret0 rfl)
    · refine s_iload_n (dt_Reader_refuse 6 _ _ _ rfl) rfl ?_
      exact s_mask [true, false] (s_ret0 rfl)
  refine s_putI (c := 7) (j := 0) (dt_Reader_refuse 7 _ _ _ rfl) kp_Reader_9 (sc_14 hS) ⟨rfl, rfl⟩ ?_
  refine s_letM (fun M2 => ?_)
  refine s_aload_n (dt_Reader_refuse 8 _ _ _ rfl) rfl ?_
  refine s_aload_n (dt_Reader_refuse 9 _ _ _ rfl) rfl ?_
  refine s_getI (c := 7) (j := 4) (dt_Reader_refuse 10 _ _ _ rfl) (kf_Reader_50) (sc_14 hS) rfl ?_
  refine s_bd (κ := fun t3 => kC 55 [none, none] [VI t3, VR (some 14)] S M2) ?_ (fun t3 => ?_)
  · refine s_if_lt (tgt := 54) (dt_Reader_refuse 11 _ _ _ rfl) rfl ?_ ?_
    · refine s_iconst (dt_Reader_refuse 26 _ _ _ rfl) rfl ?_
      exact s_mask [false, false] (s_ret0 rfl)
    · refine s_aload_n (dt_Reader_refuse 12 _ _ _ rfl) rfl ?_
      refine s_getI (c := 7) (j := 4) (dt_Reader_refuse 13 _ _ _ rfl) (kf_Reader_50) (sc_14 hS) rfl ?_
      refine s_aload_n (dt_Reader_refuse 14 _ _ _ rfl) rfl ?_
      refine s_getR (c := 7) (j := 3) (o := (some 27)) (dt_Reader_refuse 15 _ _ _ rfl) (kf_Reader_28) (sc_14 hS) rfl rfl ?_
      refine s_getR (c := 11) (j := 1) (o := (some 29)) (dt_Reader_refuse 16 _ _ _ rfl) (kf_Reader_71) (sc_27 hS) rfl rfl ?_
      refine s_alen (N := 1601) (dt_Reader_refuse 17 _ _ _ rfl) (sc_29 hS) rfl rfl (by decide) ?_
      refine s_if_icmp_ge (tgt := 54) (dt_Reader_refuse 18 _ _ _ rfl) rfl ?_ ?_
      · refine s_aload_n (dt_Reader_refuse 19 _ _ _ rfl) rfl ?_
        refine s_getR (c := 7) (j := 3) (o := (some 27)) (dt_Reader_refuse 20 _ _ _ rfl) (kf_Reader_28) (sc_14 hS) rfl rfl ?_
        refine s_getR (c := 11) (j := 1) (o := (some 29)) (dt_Reader_refuse 21 _ _ _ rfl) (kf_Reader_71) (sc_27 hS) rfl rfl ?_
        refine s_aload_n (dt_Reader_refuse 22 _ _ _ rfl) rfl ?_
        refine s_getI (c := 7) (j := 4) (dt_Reader_refuse 23 _ _ _ rfl) (kf_Reader_50) (sc_14 hS) rfl ?_
        refine s_iald (N := 1601) (dt_Reader_refuse 24 _ _ _ rfl) (sc_29 hS) rfl ?_
        refine s_goto (tgt := 55) (dt_Reader_refuse 25 _ _ _ rfl) rfl ?_
        exact s_mask [false, false] (s_ret0 rfl)
      · refine s_iconst (dt_Reader_refuse 26 _ _ _ rfl) rfl ?_
        exact s_mask [false, false] (s_ret0 rfl)
  refine s_putI (c := 7) (j := 1) (dt_Reader_refuse 27 _ _ _ rfl) kp_Reader_15 (sc_14 hS) ⟨rfl, rfl⟩ ?_
  refine s_letM (fun M4 => ?_)
  refine s_iconst (dt_Reader_refuse 28 _ _ _ rfl) rfl ?_
  exact s_zret01 (dt_Reader_refuse 29 _ _ _ rfl) rfl rfl rfl
theorem c_Reader_refuse {S : KS} (hS : KExt 382 S)  (a0 : Int) (M : KM) : ∀ q, f_Reader_refuse a0 M = some q → Ctr y_Reader_refuse Y_Reader_refuse [VR (some 14), VI a0] S M (some (VI q.1)) S (q.2) := fun q hq =>
  ctr_of md_Reader_refuse (Nat.le_of_ble_eq_true rfl) ⟨Nat.le_refl _, Nat.le_refl _⟩ 0 hq rfl (fun _ G => sim_Reader_refuse hS  a0 M)
set_option maxRecDepth 100000 in
theorem sim_Reader_step {G : Gam} {S : KS} (hS : KExt 382 S)   (M : KM) : Sim G Y_Reader_step (f_Reader_step  M) (kC 0 [some (VR (some 14))] [] S M) (fun (q : KM) => Sum.inr (none, S, q)) := by
  unfold f_Reader_step
  refine s_aload_n (dt_Reader_step 0 _ _ _ rfl) rfl ?_
  refine s_dup (dt_Reader_step 1 _ _ _ rfl) rfl ?_
  refine s_getI (c := 7) (j := 4) (dt_Reader_step 2 _ _ _ rfl) (kf_Reader_50) (sc_14 hS) rfl ?_
  refine s_iconst (dt_Reader_step 3 _ _ _ rfl) rfl ?_
  refine s_iadd (dt_Reader_step 4 _ _ _ rfl) ?_
  refine s_putI (c := 7) (j := 4) (dt_Reader_step 5 _ _ _ rfl) kp_Reader_50 (sc_14 hS) ⟨rfl, rfl⟩ ?_
  refine s_letM (fun M1 => ?_)
  refine s_aload_n (dt_Reader_step 6 _ _ _ rfl) rfl ?_
  refine s_aload_n (dt_Reader_step 7 _ _ _ rfl) rfl ?_
  refine s_getI (c := 7) (j := 4) (dt_Reader_step 8 _ _ _ rfl) (kf_Reader_50) (sc_14 hS) rfl ?_
  refine s_bd (κ := fun t2 => kC 49 [none] [VI t2, VR (some 14)] S M1) ?_ (fun t2 => ?_)
  · refine s_if_lt (tgt := 48) (dt_Reader_step 9 _ _ _ rfl) rfl ?_ ?_
    · refine s_iconst (dt_Reader_step 24 _ _ _ rfl) rfl ?_
      exact s_mask [false] (s_ret0 rfl)
    · refine s_aload_n (dt_Reader_step 10 _ _ _ rfl) rfl ?_
      refine s_getI (c := 7) (j := 4) (dt_Reader_step 11 _ _ _ rfl) (kf_Reader_50) (sc_14 hS) rfl ?_
      refine s_aload_n (dt_Reader_step 12 _ _ _ rfl) rfl ?_
      refine s_getR (c := 7) (j := 3) (o := (some 27)) (dt_Reader_step 13 _ _ _ rfl) (kf_Reader_28) (sc_14 hS) rfl rfl ?_
      refine s_getR (c := 11) (j := 0) (o := (some 28)) (dt_Reader_step 14 _ _ _ rfl) (kf_Reader_66) (sc_27 hS) rfl rfl ?_
      refine s_alen (N := 1601) (dt_Reader_step 15 _ _ _ rfl) (sc_28 hS) rfl rfl (by decide) ?_
      refine s_if_icmp_ge (tgt := 48) (dt_Reader_step 16 _ _ _ rfl) rfl ?_ ?_
      · refine s_aload_n (dt_Reader_step 17 _ _ _ rfl) rfl ?_
        refine s_getR (c := 7) (j := 3) (o := (some 27)) (dt_Reader_step 18 _ _ _ rfl) (kf_Reader_28) (sc_14 hS) rfl rfl ?_
        refine s_getR (c := 11) (j := 0) (o := (some 28)) (dt_Reader_step 19 _ _ _ rfl) (kf_Reader_66) (sc_27 hS) rfl rfl ?_
        refine s_aload_n (dt_Reader_step 20 _ _ _ rfl) rfl ?_
        refine s_getI (c := 7) (j := 4) (dt_Reader_step 21 _ _ _ rfl) (kf_Reader_50) (sc_14 hS) rfl ?_
        refine s_iald (N := 1601) (dt_Reader_step 22 _ _ _ rfl) (sc_28 hS) rfl ?_
        refine s_goto (tgt := 49) (dt_Reader_step 23 _ _ _ rfl) rfl ?_
        exact s_mask [false] (s_ret0 rfl)
      · refine s_iconst (dt_Reader_step 24 _ _ _ rfl) rfl ?_
        exact s_mask [false] (s_ret0 rfl)
  refine s_putI (c := 7) (j := 5) (dt_Reader_step 25 _ _ _ rfl) kp_Reader_59 (sc_14 hS) ⟨rfl, rfl⟩ ?_
  refine s_letM (fun M3 => ?_)
  exact s_vret (dt_Reader_step 26 _ _ _ rfl) rfl rfl
theorem c_Reader_step {S : KS} (hS : KExt 382 S)   (M : KM) : ∀ q, f_Reader_step  M = some q → Ctr y_Reader_step Y_Reader_step [VR (some 14)] S M (none) S (q) := fun q hq =>
  ctr_of md_Reader_step (Nat.le_of_ble_eq_true rfl) ⟨Nat.le_refl _, Nat.le_refl _⟩ 0 hq rfl (fun _ G => sim_Reader_step hS   M)
set_option maxRecDepth 100000 in
theorem sim_Reader_take {G : Gam} {S : KS} (hS : KExt 382 S)  (a0 : Int) (M : KM) : Sim G Y_Reader_take (f_Reader_take a0 M) (kC 0 [some (VR (some 14)), some (VI a0)] [] S M) (fun (q : Int × KM) => Sum.inr (some (VI q.1), S, q.2)) := by
  unfold f_Reader_take
  refine s_aload_n (dt_Reader_take 0 _ _ _ rfl) rfl ?_
  refine s_getI (c := 7) (j := 5) (dt_Reader_take 1 _ _ _ rfl) (kf_Reader_59) (sc_14 hS) rfl ?_
  refine s_iload_n (dt_Reader_take 2 _ _ _ rfl) rfl ?_
  refine s_if_icmp_eq (tgt := 14) (dt_Reader_take 3 _ _ _ rfl) rfl ?_ ?_
  · refine s_aload_n (dt_Reader_take 8 _ _ _ rfl) rfl ?_
    refine s_callO (y := y_Reader_step) (Y' := Y_Reader_step) (as := [VR (some 14)]) (r := fun q => none) (M' := fun q => q) (kInvV (dt_Reader_take 9 _ _ _ rfl) kin_Reader_step 7 rfl (sc_14 hS) kse_Reader_step rfl) kl_Reader_53 md_Reader_step rfl rfl (fun q hq => c_Reader_step hS M q hq) (fun q1 => ?_)
    refine s_iconst (dt_Reader_take 10 _ _ _ rfl) rfl ?_
    exact s_zret01 (dt_Reader_take 11 _ _ _ rfl) rfl rfl rfl
  · refine s_aload_n (dt_Reader_take 4 _ _ _ rfl) rfl ?_
    refine s_iconst (dt_Reader_take 5 _ _ _ rfl) rfl ?_
    refine s_callO (y := y_Reader_refuse) (Y' := Y_Reader_refuse) (as := [VR (some 14), VI (2 : Int)]) (r := fun q => some (VI q.1)) (M' := fun q => q.2) (kInvV (dt_Reader_take 6 _ _ _ rfl) kin_Reader_refuse 7 rfl (sc_14 hS) kse_Reader_refuse rfl) kl_Reader_92 md_Reader_refuse rfl rfl (fun q hq => c_Reader_refuse hS (2 : Int) M q hq) (fun q2 => ?_)
    exact s_zret (dt_Reader_take 7 _ _ _ rfl) rfl rfl
theorem c_Reader_take {S : KS} (hS : KExt 382 S)  (a0 : Int) (M : KM) : ∀ q, f_Reader_take a0 M = some q → Ctr y_Reader_take Y_Reader_take [VR (some 14), VI a0] S M (some (VI q.1)) S (q.2) := fun q hq =>
  ctr_of md_Reader_take (Nat.le_of_ble_eq_true rfl) ⟨Nat.le_refl _, Nat.le_refl _⟩ 0 hq rfl (fun _ G => sim_Reader_take hS  a0 M)
set_option maxRecDepth 100000 in
theorem sim_Reader_takeNumber {G : Gam} {S : KS} (hS : KExt 382 S)  (a0 : Int) (a1 : Int) (a2 : Int) (M : KM) : Sim G Y_Reader_takeNumber (f_Reader_takeNumber a0 a1 a2 M) (kC 0 [some (VR (some 14)), some (VI a0), some (VI a1), some (VI a2)] [] S M) (fun (q : Int × KM) => Sum.inr (some (VI q.1), S, q.2)) := by
  unfold f_Reader_takeNumber
  refine s_aload_n (dt_Reader_takeNumber 0 _ _ _ rfl) rfl ?_
  refine s_iload_n (dt_Reader_takeNumber 1 _ _ _ rfl) rfl ?_
  refine s_callO (y := y_Reader_take) (Y' := Y_Reader_take) (as := [VR (some 14), VI a0]) (r := fun q => some (VI q.1)) (M' := fun q => q.2) (kInvV (dt_Reader_takeNumber 2 _ _ _ rfl) kin_Reader_take 7 rfl (sc_14 hS) kse_Reader_take rfl) kl_Reader_120 md_Reader_take rfl rfl (fun q hq => c_Reader_take hS a0 M q hq) (fun q1 => ?_)
  refine s_if_ne (tgt := 10) (dt_Reader_takeNumber 3 _ _ _ rfl) rfl ?_ ?_
  · refine s_iconst (dt_Reader_takeNumber 4 _ _ _ rfl) rfl ?_
    exact s_zret01 (dt_Reader_takeNumber 5 _ _ _ rfl) rfl rfl rfl
  · refine s_aload_n (dt_Reader_takeNumber 6 _ _ _ rfl) rfl ?_
    refine s_getI (c := 7) (j := 5) (dt_Reader_takeNumber 7 _ _ _ rfl) (kf_Reader_59) (sc_14 hS) rfl ?_
    refine s_iconst (dt_Reader_takeNumber 8 _ _ _ rfl) rfl ?_
    refine s_if_icmp_eq (tgt := 24) (dt_Reader_takeNumber 9 _ _ _ rfl) rfl ?_ ?_
    · refine s_aload_n (dt_Reader_takeNumber 14 _ _ _ rfl) rfl ?_
      refine s_aload_n (dt_Reader_takeNumber 15 _ _ _ rfl) rfl ?_
      refine s_getR (c := 7) (j := 3) (o := (some 27)) (dt_Reader_takeNumber 16 _ _ _ rfl) (kf_Reader_28) (sc_14 hS) rfl rfl ?_
      refine s_getR (c := 11) (j := 2) (o := (some 30)) (dt_Reader_takeNumber 17 _ _ _ rfl) (kf_Reader_170) (sc_27 hS) rfl rfl ?_
      refine s_aload_n (dt_Reader_takeNumber 18 _ _ _ rfl) rfl ?_
      refine s_getI (c := 7) (j := 4) (dt_Reader_takeNumber 19 _ _ _ rfl) (kf_Reader_50) (sc_14 hS) rfl ?_
      refine s_inv (y := y_X_at) (Y' := Y_X_at) (as := [VR (some 30), VI (q1.2 14 4)]) (r := some (VI (atM q1.2 30 1601 (q1.2 14 4)))) (M' := q1.2) (kInvS (dt_Reader_takeNumber 20 _ _ _ rfl) kst_X_at rfl) kl_Reader_173 md_X_at rfl rfl (c_X_at hS ⟨(sc_30 hS), by decide⟩ (q1.2 14 4) q1.2) ?_
      refine s_putI (c := 7) (j := 9) (dt_Reader_takeNumber 21 _ _ _ rfl) kp_Reader_113 (sc_14 hS) ⟨rfl, rfl⟩ ?_
      refine s_letM (fun M2 => ?_)
      refine s_aload_n (dt_Reader_takeNumber 22 _ _ _ rfl) rfl ?_
      refine s_getI (c := 7) (j := 9) (dt_Reader_takeNumber 23 _ _ _ rfl) (kf_Reader_113) (sc_14 hS) rfl ?_
      refine s_iload_n (dt_Reader_takeNumber 24 _ _ _ rfl) rfl ?_
      refine s_if_icmp_lt (tgt := 58) (dt_Reader_takeNumber 25 _ _ _ rfl) rfl ?_ ?_
      · refine s_aload_n (dt_Reader_takeNumber 30 _ _ _ rfl) rfl ?_
        refine s_iconst (dt_Reader_takeNumber 31 _ _ _ rfl) rfl ?_
        refine s_callO (y := y_Reader_refuse) (Y' := Y_Reader_refuse) (as := [VR (some 14), VI (4 : Int)]) (r := fun q => some (VI q.1)) (M' := fun q => q.2) (kInvV (dt_Reader_takeNumber 32 _ _ _ rfl) kin_Reader_refuse 7 rfl (sc_14 hS) kse_Reader_refuse rfl) kl_Reader_92 md_Reader_refuse rfl rfl (fun q hq => c_Reader_refuse hS (4 : Int) M2 q hq) (fun q3 => ?_)
        exact s_zret (dt_Reader_takeNumber 33 _ _ _ rfl) rfl rfl
      · refine s_aload_n (dt_Reader_takeNumber 26 _ _ _ rfl) rfl ?_
        refine s_getI (c := 7) (j := 9) (dt_Reader_takeNumber 27 _ _ _ rfl) (kf_Reader_113) (sc_14 hS) rfl ?_
        refine s_iload_n (dt_Reader_takeNumber 28 _ _ _ rfl) rfl ?_
        refine s_if_icmp_le (tgt := 64) (dt_Reader_takeNumber 29 _ _ _ rfl) rfl ?_ ?_
        · refine s_aload_n (dt_Reader_takeNumber 34 _ _ _ rfl) rfl ?_
          refine s_callO (y := y_Reader_step) (Y' := Y_Reader_step) (as := [VR (some 14)]) (r := fun q => none) (M' := fun q => q) (kInvV (dt_Reader_takeNumber 35 _ _ _ rfl) kin_Reader_step 7 rfl (sc_14 hS) kse_Reader_step rfl) kl_Reader_53 md_Reader_step rfl rfl (fun q hq => c_Reader_step hS M2 q hq) (fun q4 => ?_)
          refine s_iconst (dt_Reader_takeNumber 36 _ _ _ rfl) rfl ?_
          exact s_zret01 (dt_Reader_takeNumber 37 _ _ _ rfl) rfl rfl rfl
        · refine s_aload_n (dt_Reader_takeNumber 30 _ _ _ rfl) rfl ?_
          refine s_iconst (dt_Reader_takeNumber 31 _ _ _ rfl) rfl ?_
          refine s_callO (y := y_Reader_refuse) (Y' := Y_Reader_refuse) (as := [VR (some 14), VI (4 : Int)]) (r := fun q => some (VI q.1)) (M' := fun q => q.2) (kInvV (dt_Reader_takeNumber 32 _ _ _ rfl) kin_Reader_refuse 7 rfl (sc_14 hS) kse_Reader_refuse rfl) kl_Reader_92 md_Reader_refuse rfl rfl (fun q hq => c_Reader_refuse hS (4 : Int) M2 q hq) (fun q5 => ?_)
          exact s_zret (dt_Reader_takeNumber 33 _ _ _ rfl) rfl rfl
    · refine s_aload_n (dt_Reader_takeNumber 10 _ _ _ rfl) rfl ?_
      refine s_iconst (dt_Reader_takeNumber 11 _ _ _ rfl) rfl ?_
      refine s_callO (y := y_Reader_refuse) (Y' := Y_Reader_refuse) (as := [VR (some 14), VI (2 : Int)]) (r := fun q => some (VI q.1)) (M' := fun q => q.2) (kInvV (dt_Reader_takeNumber 12 _ _ _ rfl) kin_Reader_refuse 7 rfl (sc_14 hS) kse_Reader_refuse rfl) kl_Reader_92 md_Reader_refuse rfl rfl (fun q hq => c_Reader_refuse hS (2 : Int) q1.2 q hq) (fun q6 => ?_)
      exact s_zret (dt_Reader_takeNumber 13 _ _ _ rfl) rfl rfl
theorem c_Reader_takeNumber {S : KS} (hS : KExt 382 S)  (a0 : Int) (a1 : Int) (a2 : Int) (M : KM) : ∀ q, f_Reader_takeNumber a0 a1 a2 M = some q → Ctr y_Reader_takeNumber Y_Reader_takeNumber [VR (some 14), VI a0, VI a1, VI a2] S M (some (VI q.1)) S (q.2) := fun q hq =>
  ctr_of md_Reader_takeNumber (Nat.le_of_ble_eq_true rfl) ⟨Nat.le_refl _, Nat.le_refl _⟩ 0 hq rfl (fun _ G => sim_Reader_takeNumber hS  a0 a1 a2 M)
set_option maxRecDepth 100000 in
theorem sim_Reader_agesLine {G : Gam} {S : KS} (hS : KExt 382 S)   (M : KM) : Sim G Y_Reader_agesLine (f_Reader_agesLine  M) (kC 0 [some (VR (some 14))] [] S M) (fun (q : Int × KM) => Sum.inr (some (VI q.1), S, q.2)) := by
  unfold f_Reader_agesLine
  refine s_aload_n (dt_Reader_agesLine 0 _ _ _ rfl) rfl ?_
  refine s_getI (c := 7) (j := 6) (dt_Reader_agesLine 1 _ _ _ rfl) (kf_Reader_56) (sc_14 hS) rfl ?_
  refine s_if_le (tgt := 13) (dt_Reader_agesLine 2 _ _ _ rfl) rfl ?_ ?_
  · refine s_aload_n (dt_Reader_agesLine 7 _ _ _ rfl) rfl ?_
    refine s_sipush (dt_Reader_agesLine 8 _ _ _ rfl) rfl ?_
    refine s_iconst (dt_Reader_agesLine 9 _ _ _ rfl) rfl ?_
    refine s_sipush (dt_Reader_agesLine 10 _ _ _ rfl) rfl ?_
    refine s_callO (y := y_Reader_takeNumber) (Y' := Y_Reader_takeNumber) (as := [VR (some 14), VI (138 : Int), VI (0 : Int), VI (150 : Int)]) (r := fun q => some (VI q.1)) (M' := fun q => q.2) (kInvV (dt_Reader_agesLine 11 _ _ _ rfl) kin_Reader_takeNumber 7 rfl (sc_14 hS) kse_Reader_takeNumber rfl) kl_Reader_109 md_Reader_takeNumber rfl rfl (fun q hq => c_Reader_takeNumber hS (138 : Int) (0 : Int) (150 : Int) M q hq) (fun q1 => ?_)
    refine s_if_ne (tgt := 29) (dt_Reader_agesLine 12 _ _ _ rfl) rfl ?_ ?_
    · refine s_iconst (dt_Reader_agesLine 13 _ _ _ rfl) rfl ?_
      exact s_zret01 (dt_Reader_agesLine 14 _ _ _ rfl) rfl rfl rfl
    · refine s_aload_n (dt_Reader_agesLine 15 _ _ _ rfl) rfl ?_
      refine s_getR (c := 7) (j := 2) (o := (some 15)) (dt_Reader_agesLine 16 _ _ _ rfl) (kf_Reader_21) (sc_14 hS) rfl rfl ?_
      refine s_aload_n (dt_Reader_agesLine 17 _ _ _ rfl) rfl ?_
      refine s_getI (c := 7) (j := 9) (dt_Reader_agesLine 18 _ _ _ rfl) (kf_Reader_113) (sc_14 hS) rfl ?_
      refine s_putI (c := 12) (j := 12) (dt_Reader_agesLine 19 _ _ _ rfl) kp_Reader_103 (sc_15 hS) ⟨rfl, rfl⟩ ?_
      refine s_letM (fun M2 => ?_)
      refine s_aload_n (dt_Reader_agesLine 20 _ _ _ rfl) rfl ?_
      refine s_sipush (dt_Reader_agesLine 21 _ _ _ rfl) rfl ?_
      refine s_aload_n (dt_Reader_agesLine 22 _ _ _ rfl) rfl ?_
      refine s_getR (c := 7) (j := 2) (o := (some 15)) (dt_Reader_agesLine 23 _ _ _ rfl) (kf_Reader_21) (sc_14 hS) rfl rfl ?_
      refine s_getI (c := 12) (j := 12) (dt_Reader_agesLine 24 _ _ _ rfl) (kf_Reader_103) (sc_15 hS) rfl ?_
      refine s_sipush (dt_Reader_agesLine 25 _ _ _ rfl) rfl ?_
      refine s_callO (y := y_Reader_takeNumber) (Y' := Y_Reader_takeNumber) (as := [VR (some 14), VI (134 : Int), VI (M2 15 12), VI (150 : Int)]) (r := fun q => some (VI q.1)) (M' := fun q => q.2) (kInvV (dt_Reader_agesLine 26 _ _ _ rfl) kin_Reader_takeNumber 7 rfl (sc_14 hS) kse_Reader_takeNumber rfl) kl_Reader_109 md_Reader_takeNumber rfl rfl (fun q hq => c_Reader_takeNumber hS (134 : Int) (M2 15 12) (150 : Int) M2 q hq) (fun q3 => ?_)
      refine s_if_ne (tgt := 62) (dt_Reader_agesLine 27 _ _ _ rfl) rfl ?_ ?_
      · refine s_iconst (dt_Reader_agesLine 28 _ _ _ rfl) rfl ?_
        exact s_zret01 (dt_Reader_agesLine 29 _ _ _ rfl) rfl rfl rfl
      · refine s_aload_n (dt_Reader_agesLine 30 _ _ _ rfl) rfl ?_
        refine s_getR (c := 7) (j := 2) (o := (some 15)) (dt_Reader_agesLine 31 _ _ _ rfl) (kf_Reader_21) (sc_14 hS) rfl rfl ?_
        refine s_aload_n (dt_Reader_agesLine 32 _ _ _ rfl) rfl ?_
        refine s_getI (c := 7) (j := 9) (dt_Reader_agesLine 33 _ _ _ rfl) (kf_Reader_113) (sc_14 hS) rfl ?_
        refine s_putI (c := 12) (j := 13) (dt_Reader_agesLine 34 _ _ _ rfl) kp_Reader_106 (sc_15 hS) ⟨rfl, rfl⟩ ?_
        refine s_letM (fun M4 => ?_)
        refine s_aload_n (dt_Reader_agesLine 35 _ _ _ rfl) rfl ?_
        refine s_bipush (dt_Reader_agesLine 36 _ _ _ rfl) rfl ?_
        refine s_callO (y := y_Reader_take) (Y' := Y_Reader_take) (as := [VR (some 14), VI (59 : Int)]) (r := fun q => some (VI q.1)) (M' := fun q => q.2) (kInvV (dt_Reader_agesLine 37 _ _ _ rfl) kin_Reader_take 7 rfl (sc_14 hS) kse_Reader_take rfl) kl_Reader_120 md_Reader_take rfl rfl (fun q hq => c_Reader_take hS (59 : Int) M4 q hq) (fun q5 => ?_)
        exact s_zret (dt_Reader_agesLine 38 _ _ _ rfl) rfl rfl
  · refine s_aload_n (dt_Reader_agesLine 3 _ _ _ rfl) rfl ?_
    refine s_iconst (dt_Reader_agesLine 4 _ _ _ rfl) rfl ?_
    refine s_callO (y := y_Reader_refuse) (Y' := Y_Reader_refuse) (as := [VR (some 14), VI (2 : Int)]) (r := fun q => some (VI q.1)) (M' := fun q => q.2) (kInvV (dt_Reader_agesLine 5 _ _ _ rfl) kin_Reader_refuse 7 rfl (sc_14 hS) kse_Reader_refuse rfl) kl_Reader_92 md_Reader_refuse rfl rfl (fun q hq => c_Reader_refuse hS (2 : Int) M q hq) (fun q6 => ?_)
    exact s_zret (dt_Reader_agesLine 6 _ _ _ rfl) rfl rfl
theorem c_Reader_agesLine {S : KS} (hS : KExt 382 S)   (M : KM) : ∀ q, f_Reader_agesLine  M = some q → Ctr y_Reader_agesLine Y_Reader_agesLine [VR (some 14)] S M (some (VI q.1)) S (q.2) := fun q hq =>
  ctr_of md_Reader_agesLine (Nat.le_of_ble_eq_true rfl) ⟨Nat.le_refl _, Nat.le_refl _⟩ 0 hq rfl (fun _ G => sim_Reader_agesLine hS   M)
set_option maxRecDepth 100000 in
theorem sim_Reader_drawLine {G : Gam} {S : KS} (hS : KExt 382 S)   (M : KM) : Sim G Y_Reader_drawLine (f_Reader_drawLine  M) (kC 0 [some (VR (some 14))] [] S M) (fun (q : Int × KM) => Sum.inr (some (VI q.1), S, q.2)) := by
  unfold f_Reader_drawLine
  refine s_aload_n (dt_Reader_drawLine 0 _ _ _ rfl) rfl ?_
  refine s_getI (c := 7) (j := 7) (dt_Reader_drawLine 1 _ _ _ rfl) (kf_Reader_42) (sc_14 hS) rfl ?_
  refine s_if_eq (tgt := 13) (dt_Reader_drawLine 2 _ _ _ rfl) rfl ?_ ?_
  · refine s_aload_n (dt_Reader_drawLine 7 _ _ _ rfl) rfl ?_
    refine s_sipush (dt_Reader_drawLine 8 _ _ _ rfl) rfl ?_
    refine s_iconst (dt_Reader_drawLine 9 _ _ _ rfl) rfl ?_
    refine s_sipush (dt_Reader_drawLine 10 _ _ _ rfl) rfl ?_
    refine s_callO (y := y_Reader_takeNumber) (Y' := Y_Reader_takeNumber) (as := [VR (some 14), VI (139 : Int), VI (0 : Int), VI (999 : Int)]) (r := fun q => some (VI q.1)) (M' := fun q => q.2) (kInvV (dt_Reader_drawLine 11 _ _ _ rfl) kin_Reader_takeNumber 7 rfl (sc_14 hS) kse_Reader_takeNumber rfl) kl_Reader_109 md_Reader_takeNumber rfl rfl (fun q hq => c_Reader_takeNumber hS (139 : Int) (0 : Int) (999 : Int) M q hq) (fun q1 => ?_)
    refine s_if_ne (tgt := 29) (dt_Reader_drawLine 12 _ _ _ rfl) rfl ?_ ?_
    · refine s_iconst (dt_Reader_drawLine 13 _ _ _ rfl) rfl ?_
      exact s_zret01 (dt_Reader_drawLine 14 _ _ _ rfl) rfl rfl rfl
    · refine s_aload_n (dt_Reader_drawLine 15 _ _ _ rfl) rfl ?_
      refine s_iconst (dt_Reader_drawLine 16 _ _ _ rfl) rfl ?_
      refine s_putZ (c := 7) (j := 7) (dt_Reader_drawLine 17 _ _ _ rfl) kp_Reader_42 (sc_14 hS) ⟨rfl, rfl⟩ ?_
      refine s_letM (fun M2 => ?_)
      refine s_aload_n (dt_Reader_drawLine 18 _ _ _ rfl) rfl ?_
      refine s_getR (c := 7) (j := 2) (o := (some 15)) (dt_Reader_drawLine 19 _ _ _ rfl) (kf_Reader_21) (sc_14 hS) rfl rfl ?_
      refine s_aload_n (dt_Reader_drawLine 20 _ _ _ rfl) rfl ?_
      refine s_getI (c := 7) (j := 9) (dt_Reader_drawLine 21 _ _ _ rfl) (kf_Reader_113) (sc_14 hS) rfl ?_
      refine s_putI (c := 12) (j := 14) (dt_Reader_drawLine 22 _ _ _ rfl) kp_Reader_167 (sc_15 hS) ⟨rfl, rfl⟩ ?_
      refine s_letM (fun M3 => ?_)
      refine s_aload_n (dt_Reader_drawLine 23 _ _ _ rfl) rfl ?_
      refine s_bipush (dt_Reader_drawLine 24 _ _ _ rfl) rfl ?_
      refine s_callO (y := y_Reader_take) (Y' := Y_Reader_take) (as := [VR (some 14), VI (59 : Int)]) (r := fun q => some (VI q.1)) (M' := fun q => q.2) (kInvV (dt_Reader_drawLine 25 _ _ _ rfl) kin_Reader_take 7 rfl (sc_14 hS) kse_Reader_take rfl) kl_Reader_120 md_Reader_take rfl rfl (fun q hq => c_Reader_take hS (59 : Int) M3 q hq) (fun q4 => ?_)
      exact s_zret (dt_Reader_drawLine 26 _ _ _ rfl) rfl rfl
  · refine s_aload_n (dt_Reader_drawLine 3 _ _ _ rfl) rfl ?_
    refine s_iconst (dt_Reader_drawLine 4 _ _ _ rfl) rfl ?_
    refine s_callO (y := y_Reader_refuse) (Y' := Y_Reader_refuse) (as := [VR (some 14), VI (2 : Int)]) (r := fun q => some (VI q.1)) (M' := fun q => q.2) (kInvV (dt_Reader_drawLine 5 _ _ _ rfl) kin_Reader_refuse 7 rfl (sc_14 hS) kse_Reader_refuse rfl) kl_Reader_92 md_Reader_refuse rfl rfl (fun q hq => c_Reader_refuse hS (2 : Int) M q hq) (fun q5 => ?_)
    exact s_zret (dt_Reader_drawLine 6 _ _ _ rfl) rfl rfl
theorem c_Reader_drawLine {S : KS} (hS : KExt 382 S)   (M : KM) : ∀ q, f_Reader_drawLine  M = some q → Ctr y_Reader_drawLine Y_Reader_drawLine [VR (some 14)] S M (some (VI q.1)) S (q.2) := fun q hq =>
  ctr_of md_Reader_drawLine (Nat.le_of_ble_eq_true rfl) ⟨Nat.le_refl _, Nat.le_refl _⟩ 0 hq rfl (fun _ G => sim_Reader_drawLine hS   M)
set_option maxRecDepth 100000 in
theorem sim_Reader_isSomebody {G : Gam} {S : KS} (hS : KExt 382 S)  (a0 : Int) (M : KM) : Sim G Y_Reader_isSomebody (f_Reader_isSomebody a0 M) (kC 0 [some (VR (some 14)), some (VI a0)] [] S M) (fun (q : Int × KM) => Sum.inr (some (VI q.1), S, q.2)) := by
  unfold f_Reader_isSomebody
  refine s_aload_n (dt_Reader_isSomebody 0 _ _ _ rfl) rfl ?_
  refine s_getI (c := 7) (j := 5) (dt_Reader_isSomebody 1 _ _ _ rfl) (kf_Reader_59) (sc_14 hS) rfl ?_
  refine s_iconst (dt_Reader_isSomebody 2 _ _ _ rfl) rfl ?_
  refine s_if_icmp_eq (tgt := 14) (dt_Reader_isSomebody 3 _ _ _ rfl) rfl ?_ ?_
  · refine s_iload_n (dt_Reader_isSomebody 8 _ _ _ rfl) rfl ?_
    refine s_iconst (dt_Reader_isSomebody 9 _ _ _ rfl) rfl ?_
    refine s_bd (κ := fun t2 => kC 32 [none, none] [VI t2.1] S t2.2) ?_ (fun t2 => ?_)
    · refine s_if_icmp_ne (tgt := 27) (dt_Reader_isSomebody 10 _ _ _ rfl) rfl ?_ ?_
      · refine s_aload_n (dt_Reader_isSomebody 11 _ _ _ rfl) rfl ?_
        refine s_iconst (dt_Reader_isSomebody 12 _ _ _ rfl) rfl ?_
        refine s_callO (y := y_Reader_refuse) (Y' := Y_Reader_refuse) (as := [VR (some 14), VI (5 : Int)]) (r := fun q => some (VI q.1)) (M' := fun q => q.2) (kInvV (dt_Reader_isSomebody 13 _ _ _ rfl) kin_Reader_refuse 7 rfl (sc_14 hS) kse_Reader_refuse rfl) kl_Reader_92 md_Reader_refuse rfl rfl (fun q hq => c_Reader_refuse hS (5 : Int) M q hq) (fun q1 => ?_)
        refine s_if_eq (tgt := 31) (dt_Reader_isSomebody 14 _ _ _ rfl) rfl ?_ ?_
        · refine s_iconst (dt_Reader_isSomebody 17 _ _ _ rfl) rfl ?_
          exact s_mask [false, false] (s_ret0 rfl)
        · refine s_iconst (dt_Reader_isSomebody 15 _ _ _ rfl) rfl ?_
          refine s_goto (tgt := 32) (dt_Reader_isSomebody 16 _ _ _ rfl) rfl ?_
          exact s_mask [false, false] (s_ret0 rfl)
      · refine s_iconst (dt_Reader_isSomebody 15 _ _ _ rfl) rfl ?_
        refine s_goto (tgt := 32) (dt_Reader_isSomebody 16 _ _ _ rfl) rfl ?_
        exact s_mask [false, false] (s_ret0 rfl)
    exact s_zret (dt_Reader_isSomebody 18 _ _ _ rfl) rfl rfl
  · refine s_aload_n (dt_Reader_isSomebody 4 _ _ _ rfl) rfl ?_
    refine s_iconst (dt_Reader_isSomebody 5 _ _ _ rfl) rfl ?_
    refine s_callO (y := y_Reader_refuse) (Y' := Y_Reader_refuse) (as := [VR (some 14), VI (2 : Int)]) (r := fun q => some (VI q.1)) (M' := fun q => q.2) (kInvV (dt_Reader_isSomebody 6 _ _ _ rfl) kin_Reader_refuse 7 rfl (sc_14 hS) kse_Reader_refuse rfl) kl_Reader_92 md_Reader_refuse rfl rfl (fun q hq => c_Reader_refuse hS (2 : Int) M q hq) (fun q3 => ?_)
    exact s_zret (dt_Reader_isSomebody 7 _ _ _ rfl) rfl rfl
theorem c_Reader_isSomebody {S : KS} (hS : KExt 382 S)  (a0 : Int) (M : KM) : ∀ q, f_Reader_isSomebody a0 M = some q → Ctr y_Reader_isSomebody Y_Reader_isSomebody [VR (some 14), VI a0] S M (some (VI q.1)) S (q.2) := fun q hq =>
  ctr_of md_Reader_isSomebody (Nat.le_of_ble_eq_true rfl) ⟨Nat.le_refl _, Nat.le_refl _⟩ 0 hq rfl (fun _ G => sim_Reader_isSomebody hS  a0 M)
set_option maxRecDepth 100000 in
theorem sim_Reader_name {G : Gam} {S : KS} (hS : KExt 382 S)   (M : KM) : Sim G Y_Reader_name (f_Reader_name  M) (kC 0 [some (VR (some 14))] [] S M) (fun (q : Int) => Sum.inr (some (VJ q), S, M)) := by
  unfold f_Reader_name
  refine s_aload_n (dt_Reader_name 0 _ _ _ rfl) rfl ?_
  refine s_getI (c := 7) (j := 4) (dt_Reader_name 1 _ _ _ rfl) (kf_Reader_50) (sc_14 hS) rfl ?_
  refine s_bd (κ := fun t1 => kC 38 [none] [VJ t1] S M) ?_ (fun t1 => ?_)
  · refine s_if_lt (tgt := 37) (dt_Reader_name 2 _ _ _ rfl) rfl ?_ ?_
    · refine s_lconst0 (dt_Reader_name 17 _ _ _ rfl) ?_
      exact s_mask [false] (s_ret0 rfl)
    · refine s_aload_n (dt_Reader_name 3 _ _ _ rfl) rfl ?_
      refine s_getI (c := 7) (j := 4) (dt_Reader_name 4 _ _ _ rfl) (kf_Reader_50) (sc_14 hS) rfl ?_
      refine s_aload_n (dt_Reader_name 5 _ _ _ rfl) rfl ?_
      refine s_getR (c := 7) (j := 3) (o := (some 27)) (dt_Reader_name 6 _ _ _ rfl) (kf_Reader_28) (sc_14 hS) rfl rfl ?_
      refine s_getR (c := 11) (j := 3) (o := (some 31)) (dt_Reader_name 7 _ _ _ rfl) (kf_Reader_70) (sc_27 hS) rfl rfl ?_
      refine s_alen (N := 1601) (dt_Reader_name 8 _ _ _ rfl) (sc_31 hS) rfl rfl (by decide) ?_
      refine s_if_icmp_ge (tgt := 37) (dt_Reader_name 9 _ _ _ rfl) rfl ?_ ?_
      · refine s_aload_n (dt_Reader_name 10 _ _ _ rfl) rfl ?_
        refine s_getR (c := 7) (j := 3) (o := (some 27)) (dt_Reader_name 11 _ _ _ rfl) (kf_Reader_28) (sc_14 hS) rfl rfl ?_
        refine s_getR (c := 11) (j := 3) (o := (some 31)) (dt_Reader_name 12 _ _ _ rfl) (kf_Reader_70) (sc_27 hS) rfl rfl ?_
        refine s_aload_n (dt_Reader_name 13 _ _ _ rfl) rfl ?_
        refine s_getI (c := 7) (j := 4) (dt_Reader_name 14 _ _ _ rfl) (kf_Reader_50) (sc_14 hS) rfl ?_
        refine s_lald (N := 1601) (dt_Reader_name 15 _ _ _ rfl) (sc_31 hS) rfl ?_
        refine s_goto (tgt := 38) (dt_Reader_name 16 _ _ _ rfl) rfl ?_
        exact s_mask [false] (s_ret0 rfl)
      · refine s_lconst0 (dt_Reader_name 17 _ _ _ rfl) ?_
        exact s_mask [false] (s_ret0 rfl)
  exact s_lret (dt_Reader_name 18 _ _ _ rfl) rfl rfl
theorem c_Reader_name {S : KS} (hS : KExt 382 S)   (M : KM) : ∀ q, f_Reader_name  M = some q → Ctr y_Reader_name Y_Reader_name [VR (some 14)] S M (some (VJ q)) S (M) := fun q hq =>
  ctr_of md_Reader_name (Nat.le_of_ble_eq_true rfl) ⟨Nat.le_refl _, Nat.le_refl _⟩ 0 hq rfl (fun _ G => sim_Reader_name hS   M)
