set_option maxRecDepth 100000 in
theorem sJ_Reader_personLine_169 {G : Gam} {S : KS} (hS : KExt 382 S)  (M : KM) (j15 : Int) (j16 : Int) (j17 : Int) (M18 : KM) : Sim G Y_Reader_personLine (J_Reader_personLine_169 M j15 j16 j17 M18) (kC 169 [some (VR (some 14)), some (VI j15), some (VI j16), some (VI j17)] [] S M18) (fun (q : Int × KM) => Sum.inr (some (VI q.1), S, q.2)) := by
  unfold J_Reader_personLine_169
  refine s_aload_n (dt_Reader_personLine 84 _ _ _ rfl) rfl ?_
  refine s_getR (c := 7) (j := 2) (o := (some 15)) (dt_Reader_personLine 85 _ _ _ rfl) (kf_Reader_21) (sc_14 hS) rfl rfl ?_
  refine s_iload_n (dt_Reader_personLine 86 _ _ _ rfl) rfl ?_
  refine s_iload_n (dt_Reader_personLine 87 _ _ _ rfl) rfl ?_
  refine s_iload_n (dt_Reader_personLine 88 _ _ _ rfl) rfl ?_
  refine s_aload_n (dt_Reader_personLine 89 _ _ _ rfl) rfl ?_
  refine s_getI (c := 7) (j := 9) (dt_Reader_personLine 90 _ _ _ rfl) (kf_Reader_113) (sc_14 hS) rfl ?_
  refine s_callO (y := y_Town_addPerson) (Y' := Y_Town_addPerson) (as := [VR (some 15), VI j15, VI j16, VI j17, VI (M18 14 9)]) (r := fun q => none) (M' := fun q => q) (kInvV (dt_Reader_personLine 91 _ _ _ rfl) kin_Town_addPerson 12 rfl (sc_15 hS) kse_Town_addPerson rfl) kl_Reader_116 md_Town_addPerson rfl rfl (fun q hq => c_Town_addPerson hS j15 j16 j17 (M18 14 9) M18 q hq) (fun q19 => ?_)
  refine s_aload_n (dt_Reader_personLine 92 _ _ _ rfl) rfl ?_
  refine s_bipush (dt_Reader_personLine 93 _ _ _ rfl) rfl ?_
  refine s_callO (y := y_Reader_take) (Y' := Y_Reader_take) (as := [VR (some 14), VI (59 : Int)]) (r := fun q => some (VI q.1)) (M' := fun q => q.2) (kInvV (dt_Reader_personLine 94 _ _ _ rfl) kin_Reader_take 7 rfl (sc_14 hS) kse_Reader_take rfl) kl_Reader_120 md_Reader_take rfl rfl (fun q hq => c_Reader_take hS (59 : Int) q19 q hq) (fun q20 => ?_)
  exact s_zret (dt_Reader_personLine 95 _ _ _ rfl) rfl rfl
set_option maxRecDepth 100000 in
theorem sJ_Reader_personLine_135 {G : Gam} {S : KS} (hS : KExt 382 S)  (M : KM) (j9 : Int) (j10 : Int) (M11 : KM) : Sim G Y_Reader_personLine (J_Reader_personLine_135 M j9 j10 M11) (kC 135 [some (VR (some 14)), some (VI j9), some (VI j10), none] [] S M11) (fun (q : Int × KM) => Sum.inr (some (VI q.1), S, q.2)) := by
  unfold J_Reader_personLine_135
  refine s_aload_n (dt_Reader_personLine 66 _ _ _ rfl) rfl ?_
  refine s_getI (c := 7) (j := 9) (dt_Reader_personLine 67 _ _ _ rfl) (kf_Reader_113) (sc_14 hS) rfl ?_
  refine s_letI (fun v12 => ?_)
  refine s_istore_n (dt_Reader_personLine 68 _ _ _ rfl) rfl ?_
  refine s_aload_n (dt_Reader_personLine 69 _ _ _ rfl) rfl ?_
  refine s_iconst (dt_Reader_personLine 70 _ _ _ rfl) rfl ?_
  refine s_putI (c := 7) (j := 9) (dt_Reader_personLine 71 _ _ _ rfl) kp_Reader_113 (sc_14 hS) ⟨rfl, rfl⟩ ?_
  refine s_letM (fun M13 => ?_)
  refine s_aload_n (dt_Reader_personLine 72 _ _ _ rfl) rfl ?_
  refine s_getI (c := 7) (j := 5) (dt_Reader_personLine 73 _ _ _ rfl) (kf_Reader_59) (sc_14 hS) rfl ?_
  refine s_sipush (dt_Reader_personLine 74 _ _ _ rfl) rfl ?_
  refine s_if_icmp_ne (tgt := 169) (dt_Reader_personLine 75 _ _ _ rfl) rfl ?_ ?_
  · refine s_aload_n (dt_Reader_personLine 76 _ _ _ rfl) rfl ?_
    refine s_sipush (dt_Reader_personLine 77 _ _ _ rfl) rfl ?_
    refine s_iconst (dt_Reader_personLine 78 _ _ _ rfl) rfl ?_
    refine s_iconst (dt_Reader_personLine 79 _ _ _ rfl) rfl ?_
    refine s_callO (y := y_Reader_takeNumber) (Y' := Y_Reader_takeNumber) (as := [VR (some 14), VI (132 : Int), VI (0 : Int), VI (3 : Int)]) (r := fun q => some (VI q.1)) (M' := fun q => q.2) (kInvV (dt_Reader_personLine 80 _ _ _ rfl) kin_Reader_takeNumber 7 rfl (sc_14 hS) kse_Reader_takeNumber rfl) kl_Reader_109 md_Reader_takeNumber rfl rfl (fun q hq => c_Reader_takeNumber hS (132 : Int) (0 : Int) (3 : Int) M13 q hq) (fun q14 => ?_)
    refine s_if_ne (tgt := 169) (dt_Reader_personLine 81 _ _ _ rfl) rfl ?_ ?_
    · refine s_iconst (dt_Reader_personLine 82 _ _ _ rfl) rfl ?_
      exact s_zret01 (dt_Reader_personLine 83 _ _ _ rfl) rfl rfl rfl
    · exact s_mask [true, true, true, true] (sJ_Reader_personLine_169 hS M j9 j10 v12 q14.2)
  · exact s_mask [true, true, true, true] (sJ_Reader_personLine_169 hS M j9 j10 v12 M13)
set_option maxRecDepth 100000 in
theorem sim_Reader_personLine {G : Gam} {S : KS} (hS : KExt 382 S)   (M : KM) : Sim G Y_Reader_personLine (f_Reader_personLine  M) (kC 0 [some (VR (some 14)), none, none, none] [] S M) (fun (q : Int × KM) => Sum.inr (some (VI q.1), S, q.2)) := by
  unfold f_Reader_personLine
  refine s_aload_n (dt_Reader_personLine 0 _ _ _ rfl) rfl ?_
  refine s_getR (c := 7) (j := 2) (o := (some 15)) (dt_Reader_personLine 1 _ _ _ rfl) (kf_Reader_21) (sc_14 hS) rfl rfl ?_
  refine s_getI (c := 12) (j := 0) (dt_Reader_personLine 2 _ _ _ rfl) (kf_Reader_96) (sc_15 hS) rfl ?_
  refine s_bipush (dt_Reader_personLine 3 _ _ _ rfl) rfl ?_
  refine s_if_icmp_lt (tgt := 18) (dt_Reader_personLine 4 _ _ _ rfl) rfl ?_ ?_
  · refine s_aload_n (dt_Reader_personLine 9 _ _ _ rfl) rfl ?_
    refine s_callO (y := y_Reader_step) (Y' := Y_Reader_step) (as := [VR (some 14)]) (r := fun q => none) (M' := fun q => q) (kInvV (dt_Reader_personLine 10 _ _ _ rfl) kin_Reader_step 7 rfl (sc_14 hS) kse_Reader_step rfl) kl_Reader_53 md_Reader_step rfl rfl (fun q hq => c_Reader_step hS M q hq) (fun q1 => ?_)
    refine s_aload_n (dt_Reader_personLine 11 _ _ _ rfl) rfl ?_
    refine s_aload_n (dt_Reader_personLine 12 _ _ _ rfl) rfl ?_
    refine s_getR (c := 7) (j := 10) (o := (some 32)) (dt_Reader_personLine 13 _ _ _ rfl) (kf_Reader_32) (sc_14 hS) rfl rfl ?_
    refine s_aload_n (dt_Reader_personLine 14 _ _ _ rfl) rfl ?_
    refine s_getR (c := 7) (j := 2) (o := (some 15)) (dt_Reader_personLine 15 _ _ _ rfl) (kf_Reader_21) (sc_14 hS) rfl rfl ?_
    refine s_getI (c := 12) (j := 0) (dt_Reader_personLine 16 _ _ _ rfl) (kf_Reader_96) (sc_15 hS) rfl ?_
    refine s_callO (y := y_Reader_takeNewName) (Y' := Y_Reader_takeNewName) (as := [VR (some 14), VR (some 32), VI (q1 15 0)]) (r := fun q => some (VI q.1)) (M' := fun q => q.2) (kInvV (dt_Reader_personLine 17 _ _ _ rfl) kin_Reader_takeNewName 7 rfl (sc_14 hS) kse_Reader_takeNewName rfl) kl_Reader_99 md_Reader_takeNewName rfl rfl (fun q hq => c_Reader_takeNewNameP hS (q1 15 0) q1 q hq) (fun q2 => ?_)
    refine s_if_ne (tgt := 42) (dt_Reader_personLine 18 _ _ _ rfl) rfl ?_ ?_
    · refine s_iconst (dt_Reader_personLine 19 _ _ _ rfl) rfl ?_
      exact s_zret01 (dt_Reader_personLine 20 _ _ _ rfl) rfl rfl rfl
    · refine s_aload_n (dt_Reader_personLine 21 _ _ _ rfl) rfl ?_
      refine s_sipush (dt_Reader_personLine 22 _ _ _ rfl) rfl ?_
      refine s_aload_n (dt_Reader_personLine 23 _ _ _ rfl) rfl ?_
      refine s_getR (c := 7) (j := 2) (o := (some 15)) (dt_Reader_personLine 24 _ _ _ rfl) (kf_Reader_21) (sc_14 hS) rfl rfl ?_
      refine s_getI (c := 12) (j := 12) (dt_Reader_personLine 25 _ _ _ rfl) (kf_Reader_103) (sc_15 hS) rfl ?_
      refine s_aload_n (dt_Reader_personLine 26 _ _ _ rfl) rfl ?_
      refine s_getR (c := 7) (j := 2) (o := (some 15)) (dt_Reader_personLine 27 _ _ _ rfl) (kf_Reader_21) (sc_14 hS) rfl rfl ?_
      refine s_getI (c := 12) (j := 13) (dt_Reader_personLine 28 _ _ _ rfl) (kf_Reader_106) (sc_15 hS) rfl ?_
      refine s_callO (y := y_Reader_takeNumber) (Y' := Y_Reader_takeNumber) (as := [VR (some 14), VI (129 : Int), VI (q2.2 15 12), VI (q2.2 15 13)]) (r := fun q => some (VI q.1)) (M' := fun q => q.2) (kInvV (dt_Reader_personLine 29 _ _ _ rfl) kin_Reader_takeNumber 7 rfl (sc_14 hS) kse_Reader_takeNumber rfl) kl_Reader_109 md_Reader_takeNumber rfl rfl (fun q hq => c_Reader_takeNumber hS (129 : Int) (q2.2 15 12) (q2.2 15 13) q2.2 q hq) (fun q3 => ?_)
      refine s_if_ne (tgt := 68) (dt_Reader_personLine 30 _ _ _ rfl) rfl ?_ ?_
      · refine s_iconst (dt_Reader_personLine 31 _ _ _ rfl) rfl ?_
        exact s_zret01 (dt_Reader_personLine 32 _ _ _ rfl) rfl rfl rfl
      · refine s_aload_n (dt_Reader_personLine 33 _ _ _ rfl) rfl ?_
        refine s_getI (c := 7) (j := 9) (dt_Reader_personLine 34 _ _ _ rfl) (kf_Reader_113) (sc_14 hS) rfl ?_
        refine s_letI (fun v4 => ?_)
        refine s_istore_n (dt_Reader_personLine 35 _ _ _ rfl) rfl ?_
        refine s_aload_n (dt_Reader_personLine 36 _ _ _ rfl) rfl ?_
        refine s_sipush (dt_Reader_personLine 37 _ _ _ rfl) rfl ?_
        refine s_iconst (dt_Reader_personLine 38 _ _ _ rfl) rfl ?_
        refine s_sipush (dt_Reader_personLine 39 _ _ _ rfl) rfl ?_
        refine s_callO (y := y_Reader_takeNumber) (Y' := Y_Reader_takeNumber) (as := [VR (some 14), VI (130 : Int), VI (0 : Int), VI (999 : Int)]) (r := fun q => some (VI q.1)) (M' := fun q => q.2) (kInvV (dt_Reader_personLine 40 _ _ _ rfl) kin_Reader_takeNumber 7 rfl (sc_14 hS) kse_Reader_takeNumber rfl) kl_Reader_109 md_Reader_takeNumber rfl rfl (fun q hq => c_Reader_takeNumber hS (130 : Int) (0 : Int) (999 : Int) q3.2 q hq) (fun q5 => ?_)
        refine s_if_ne (tgt := 89) (dt_Reader_personLine 41 _ _ _ rfl) rfl ?_ ?_
        · refine s_iconst (dt_Reader_personLine 42 _ _ _ rfl) rfl ?_
          exact s_zret01 (dt_Reader_personLine 43 _ _ _ rfl) rfl rfl rfl
        · refine s_aload_n (dt_Reader_personLine 44 _ _ _ rfl) rfl ?_
          refine s_getI (c := 7) (j := 9) (dt_Reader_personLine 45 _ _ _ rfl) (kf_Reader_113) (sc_14 hS) rfl ?_
          refine s_letI (fun v6 => ?_)
          refine s_istore_n (dt_Reader_personLine 46 _ _ _ rfl) rfl ?_
          refine s_aload_n (dt_Reader_personLine 47 _ _ _ rfl) rfl ?_
          refine s_iload_n (dt_Reader_personLine 48 _ _ _ rfl) rfl ?_
          refine s_putI (c := 7) (j := 9) (dt_Reader_personLine 49 _ _ _ rfl) kp_Reader_113 (sc_14 hS) ⟨rfl, rfl⟩ ?_
          refine s_letM (fun M7 => ?_)
          refine s_aload_n (dt_Reader_personLine 50 _ _ _ rfl) rfl ?_
          refine s_getI (c := 7) (j := 5) (dt_Reader_personLine 51 _ _ _ rfl) (kf_Reader_59) (sc_14 hS) rfl ?_
          refine s_sipush (dt_Reader_personLine 52 _ _ _ rfl) rfl ?_
          refine s_if_icmp_ne (tgt := 135) (dt_Reader_personLine 53 _ _ _ rfl) rfl ?_ ?_
          · refine s_aload_n (dt_Reader_personLine 54 _ _ _ rfl) rfl ?_
            refine s_sipush (dt_Reader_personLine 55 _ _ _ rfl) rfl ?_
            refine s_aload_n (dt_Reader_personLine 56 _ _ _ rfl) rfl ?_
            refine s_getR (c := 7) (j := 2) (o := (some 15)) (dt_Reader_personLine 57 _ _ _ rfl) (kf_Reader_21) (sc_14 hS) rfl rfl ?_
            refine s_getI (c := 12) (j := 12) (dt_Reader_personLine 58 _ _ _ rfl) (kf_Reader_103) (sc_15 hS) rfl ?_
            refine s_aload_n (dt_Reader_personLine 59 _ _ _ rfl) rfl ?_
            refine s_getR (c := 7) (j := 2) (o := (some 15)) (dt_Reader_personLine 60 _ _ _ rfl) (kf_Reader_21) (sc_14 hS) rfl rfl ?_
            refine s_getI (c := 12) (j := 13) (dt_Reader_personLine 61 _ _ _ rfl) (kf_Reader_106) (sc_15 hS) rfl ?_
            refine s_callO (y := y_Reader_takeNumber) (Y' := Y_Reader_takeNumber) (as := [VR (some 14), VI (131 : Int), VI (M7 15 12), VI (M7 15 13)]) (r := fun q => some (VI q.1)) (M' := fun q => q.2) (kInvV (dt_Reader_personLine 62 _ _ _ rfl) kin_Reader_takeNumber 7 rfl (sc_14 hS) kse_Reader_takeNumber rfl) kl_Reader_109 md_Reader_takeNumber rfl rfl (fun q hq => c_Reader_takeNumber hS (131 : Int) (M7 15 12) (M7 15 13) M7 q hq) (fun q8 => ?_)
            refine s_if_ne (tgt := 135) (dt_Reader_personLine 63 _ _ _ rfl) rfl ?_ ?_
            · refine s_iconst (dt_Reader_personLine 64 _ _ _ rfl) rfl ?_
              exact s_zret01 (dt_Reader_personLine 65 _ _ _ rfl) rfl rfl rfl
            · exact s_mask [true, true, true, false] (sJ_Reader_personLine_135 hS M v4 v6 q8.2)
          · exact s_mask [true, true, true, false] (sJ_Reader_personLine_135 hS M v4 v6 M7)
  · refine s_aload_n (dt_Reader_personLine 5 _ _ _ rfl) rfl ?_
    refine s_iconst (dt_Reader_personLine 6 _ _ _ rfl) rfl ?_
    refine s_callO (y := y_Reader_refuse) (Y' := Y_Reader_refuse) (as := [VR (some 14), VI (2 : Int)]) (r := fun q => some (VI q.1)) (M' := fun q => q.2) (kInvV (dt_Reader_personLine 7 _ _ _ rfl) kin_Reader_refuse 7 rfl (sc_14 hS) kse_Reader_refuse rfl) kl_Reader_92 md_Reader_refuse rfl rfl (fun q hq => c_Reader_refuse hS (2 : Int) M q hq) (fun q21 => ?_)
    exact s_zret (dt_Reader_personLine 8 _ _ _ rfl) rfl rfl
theorem c_Reader_personLine {S : KS} (hS : KExt 382 S)   (M : KM) : ∀ q, f_Reader_personLine  M = some q → Ctr y_Reader_personLine Y_Reader_personLine [VR (some 14)] S M (some (VI q.1)) S (q.2) := fun q hq =>
  ctr_of md_Reader_personLine (Nat.le_of_ble_eq_true rfl) ⟨Nat.le_refl _, Nat.le_refl _⟩ 3 hq rfl (fun _ G => sim_Reader_personLine hS   M)
set_option maxRecDepth 100000 in
theorem sim_Reader_placeAmongR {G : Gam} {S : KS} (hS : KExt 382 S)  (a1 : Int) (M : KM) : Sim G Y_Reader_placeAmong (f_Reader_placeAmongR a1 M) (kC 0 [some (VR (some 14)), some (VR (some 33)), some (VI a1), none, none, none] [] S M) (fun (q : Int) => Sum.inr (some (VI q), S, M)) := by
  unfold f_Reader_placeAmongR
  refine s_aload_n (dt_Reader_placeAmong 0 _ _ _ rfl) rfl ?_
  refine s_callO (y := y_Reader_name) (Y' := Y_Reader_name) (as := [VR (some 14)]) (r := fun q => some (VJ q)) (M' := fun q => M) (kInvV (dt_Reader_placeAmong 1 _ _ _ rfl) kin_Reader_name 7 rfl (sc_14 hS) kse_Reader_name rfl) kl_Reader_127 md_Reader_name rfl rfl (fun q hq => c_Reader_name hS M q hq) (fun q1 => ?_)
  refine s_lstore_n (dt_Reader_placeAmong 2 _ _ _ rfl) rfl ?_
  refine s_iconst (dt_Reader_placeAmong 3 _ _ _ rfl) rfl ?_
  refine s_istore (dt_Reader_placeAmong 4 _ _ _ rfl) rfl ?_
  refine s_bd (κ := (Sum.elim (fun (e3 : Int) => kC 30 [none, none, none, none, none, some (VI e3)] [] S M) (fun (e4 : Unit) => kC 39 [none, none, none, none, none, none] [] S M))) (s_mask [false, true, true, true, false, true] (s_while (c := fun s2 => kC 8 [none, some (VR (some 33)), some (VI a1), some (VJ q1), none, some (VI s2)] [] S M) (fun s2 => ?_) (0 : Int))) ?_
  · refine s_iload (dt_Reader_placeAmong 5 _ _ _ rfl) rfl ?_
    refine s_iload_n (dt_Reader_placeAmong 6 _ _ _ rfl) rfl ?_
    refine s_if_icmp_ge (tgt := 39) (dt_Reader_placeAmong 7 _ _ _ rfl) rfl ?_ ?_
    · refine s_iload (dt_Reader_placeAmong 8 _ _ _ rfl) rfl ?_
      refine s_aload_n (dt_Reader_placeAmong 9 _ _ _ rfl) rfl ?_
      refine s_alen (N := 6) (dt_Reader_placeAmong 10 _ _ _ rfl) (sc_33 hS) rfl rfl (by decide) ?_
      refine s_if_icmp_ge (tgt := 39) (dt_Reader_placeAmong 11 _ _ _ rfl) rfl ?_ ?_
      · refine s_aload_n (dt_Reader_placeAmong 12 _ _ _ rfl) rfl ?_
        refine s_iload (dt_Reader_placeAmong 13 _ _ _ rfl) rfl ?_
        refine s_lald (N := 6) (dt_Reader_placeAmong 14 _ _ _ rfl) (sc_33 hS) rfl ?_
        refine s_lload_n (dt_Reader_placeAmong 15 _ _ _ rfl) rfl ?_
        refine s_lcmp (dt_Reader_placeAmong 16 _ _ _ rfl) ?_
        refine s_if_ne (tgt := 33) (dt_Reader_placeAmong 17 _ _ _ rfl) rfl ?_ ?_
        · exact s_mask [false, false, false, false, false, true] (s_ret0 rfl)
        · refine s_iinc (dt_Reader_placeAmong 20 _ _ _ rfl) rfl rfl ?_
          refine s_goto (tgt := 8) (dt_Reader_placeAmong 21 _ _ _ rfl) rfl ?_
          exact s_mask [false, true, true, true, false, true] (s_ret0 rfl)
      · exact s_mask [false, false, false, false, false, false] (s_ret0 rfl)
    · exact s_mask [false, false, false, false, false, false] (s_ret0 rfl)
  refine s_elim (fun e3 => ?_) ?_
  · refine s_iload (dt_Reader_placeAmong 18 _ _ _ rfl) rfl ?_
    exact s_iret (dt_Reader_placeAmong 19 _ _ _ rfl) rfl rfl
  intro e4
  refine s_iconst (dt_Reader_placeAmong 22 _ _ _ rfl) rfl ?_
  exact s_iret (dt_Reader_placeAmong 23 _ _ _ rfl) rfl rfl
theorem c_Reader_placeAmongR {S : KS} (hS : KExt 382 S)  (a1 : Int) (M : KM) : ∀ q, f_Reader_placeAmongR a1 M = some q → Ctr y_Reader_placeAmong Y_Reader_placeAmong [VR (some 14), VR (some 33), VI a1] S M (some (VI q)) S (M) := fun q hq =>
  ctr_of md_Reader_placeAmong (Nat.le_of_ble_eq_true rfl) ⟨Nat.le_refl _, Nat.le_refl _⟩ 3 hq rfl (fun _ G => sim_Reader_placeAmongR hS  a1 M)
set_option maxRecDepth 100000 in
theorem sim_Reader_takeNewNameR {G : Gam} {S : KS} (hS : KExt 382 S)  (a1 : Int) (M : KM) : Sim G Y_Reader_takeNewName (f_Reader_takeNewNameR a1 M) (kC 0 [some (VR (some 14)), some (VR (some 33)), some (VI a1)] [] S M) (fun (q : Int × KM) => Sum.inr (some (VI q.1), S, q.2)) := by
  unfold f_Reader_takeNewNameR
  refine s_aload_n (dt_Reader_takeNewName 0 _ _ _ rfl) rfl ?_
  refine s_getI (c := 7) (j := 5) (dt_Reader_takeNewName 1 _ _ _ rfl) (kf_Reader_59) (sc_14 hS) rfl ?_
  refine s_iconst (dt_Reader_takeNewName 2 _ _ _ rfl) rfl ?_
  refine s_if_icmp_eq (tgt := 14) (dt_Reader_takeNewName 3 _ _ _ rfl) rfl ?_ ?_
  · refine s_aload_n (dt_Reader_takeNewName 8 _ _ _ rfl) rfl ?_
    refine s_aload_n (dt_Reader_takeNewName 9 _ _ _ rfl) rfl ?_
    refine s_iload_n (dt_Reader_takeNewName 10 _ _ _ rfl) rfl ?_
    refine s_callO (y := y_Reader_placeAmong) (Y' := Y_Reader_placeAmong) (as := [VR (some 14), VR (some 33), VI a1]) (r := fun q => some (VI q)) (M' := fun q => M) (kInvV (dt_Reader_takeNewName 11 _ _ _ rfl) kin_Reader_placeAmong 7 rfl (sc_14 hS) kse_Reader_placeAmong rfl) kl_Reader_123 md_Reader_placeAmong rfl rfl (fun q hq => c_Reader_placeAmongR hS a1 M q hq) (fun q1 => ?_)
    refine s_iconst (dt_Reader_takeNewName 12 _ _ _ rfl) rfl ?_
    refine s_if_icmp_eq (tgt := 30) (dt_Reader_takeNewName 13 _ _ _ rfl) rfl ?_ ?_
    · refine s_iload_n (dt_Reader_takeNewName 18 _ _ _ rfl) rfl ?_
      refine s_bd (κ := fun t4 => kC 47 [some (VR (some 14)), none, none] [] S t4) ?_ (fun t4 => ?_)
      · refine s_if_lt (tgt := 47) (dt_Reader_takeNewName 19 _ _ _ rfl) rfl ?_ ?_
        · exact s_mask [true, false, false] (s_ret0 rfl)
        · refine s_iload_n (dt_Reader_takeNewName 20 _ _ _ rfl) rfl ?_
          refine s_aload_n (dt_Reader_takeNewName 21 _ _ _ rfl) rfl ?_
          refine s_alen (N := 6) (dt_Reader_takeNewName 22 _ _ _ rfl) (sc_33 hS) rfl rfl (by decide) ?_
          refine s_if_icmp_ge (tgt := 47) (dt_Reader_takeNewName 23 _ _ _ rfl) rfl ?_ ?_
          · refine s_aload_n (dt_Reader_takeNewName 24 _ _ _ rfl) rfl ?_
            refine s_iload_n (dt_Reader_takeNewName 25 _ _ _ rfl) rfl ?_
            refine s_aload_n (dt_Reader_takeNewName 26 _ _ _ rfl) rfl ?_
            refine s_callO (y := y_Reader_name) (Y' := Y_Reader_name) (as := [VR (some 14)]) (r := fun q => some (VJ q)) (M' := fun q => M) (kInvV (dt_Reader_takeNewName 27 _ _ _ rfl) kin_Reader_name 7 rfl (sc_14 hS) kse_Reader_name rfl) kl_Reader_127 md_Reader_name rfl rfl (fun q hq => c_Reader_name hS M q hq) (fun q2 => ?_)
            refine s_last (N := 6) (dt_Reader_takeNewName 28 _ _ _ rfl) (sc_33 hS) rfl ?_
            refine s_letM (fun M3 => ?_)
            exact s_mask [true, false, false] (s_ret0 rfl)
          · exact s_mask [true, false, false] (s_ret0 rfl)
      refine s_aload_n (dt_Reader_takeNewName 29 _ _ _ rfl) rfl ?_
      refine s_callO (y := y_Reader_step) (Y' := Y_Reader_step) (as := [VR (some 14)]) (r := fun q => none) (M' := fun q => q) (kInvV (dt_Reader_takeNewName 30 _ _ _ rfl) kin_Reader_step 7 rfl (sc_14 hS) kse_Reader_step rfl) kl_Reader_53 md_Reader_step rfl rfl (fun q hq => c_Reader_step hS t4 q hq) (fun q5 => ?_)
      refine s_iconst (dt_Reader_takeNewName 31 _ _ _ rfl) rfl ?_
      exact s_zret01 (dt_Reader_takeNewName 32 _ _ _ rfl) rfl rfl rfl
    · refine s_aload_n (dt_Reader_takeNewName 14 _ _ _ rfl) rfl ?_
      refine s_iconst (dt_Reader_takeNewName 15 _ _ _ rfl) rfl ?_
      refine s_callO (y := y_Reader_refuse) (Y' := Y_Reader_refuse) (as := [VR (some 14), VI (3 : Int)]) (r := fun q => some (VI q.1)) (M' := fun q => q.2) (kInvV (dt_Reader_takeNewName 16 _ _ _ rfl) kin_Reader_refuse 7 rfl (sc_14 hS) kse_Reader_refuse rfl) kl_Reader_92 md_Reader_refuse rfl rfl (fun q hq => c_Reader_refuse hS (3 : Int) M q hq) (fun q6 => ?_)
      exact s_zret (dt_Reader_takeNewName 17 _ _ _ rfl) rfl rfl
  · refine s_aload_n (dt_Reader_takeNewName 4 _ _ _ rfl) rfl ?_
    refine s_iconst (dt_Reader_takeNewName 5 _ _ _ rfl) rfl ?_
    refine s_callO (y := y_Reader_refuse) (Y' := Y_Reader_refuse) (as := [VR (some 14), VI (2 : Int)]) (r := fun q => some (VI q.1)) (M' := fun q => q.2) (kInvV (dt_Reader_takeNewName 6 _ _ _ rfl) kin_Reader_refuse 7 rfl (sc_14 hS) kse_Reader_refuse rfl) kl_Reader_92 md_Reader_refuse rfl rfl (fun q hq => c_Reader_refuse hS (2 : Int) M q hq) (fun q7 => ?_)
    exact s_zret (dt_Reader_takeNewName 7 _ _ _ rfl) rfl rfl
theorem c_Reader_takeNewNameR {S : KS} (hS : KExt 382 S)  (a1 : Int) (M : KM) : ∀ q, f_Reader_takeNewNameR a1 M = some q → Ctr y_Reader_takeNewName Y_Reader_takeNewName [VR (some 14), VR (some 33), VI a1] S M (some (VI q.1)) S (q.2) := fun q hq =>
  ctr_of md_Reader_takeNewName (Nat.le_of_ble_eq_true rfl) ⟨Nat.le_refl _, Nat.le_refl _⟩ 0 hq rfl (fun _ G => sim_Reader_takeNewNameR hS  a1 M)
set_option maxRecDepth 100000 in
theorem sim_Town_addRight {G : Gam} {S : KS} (hS : KExt 382 S)  (a0 : Int) (M : KM) : Sim G Y_Town_addRight (f_Town_addRight a0 M) (kC 0 [some (VR (some 15)), some (VI a0)] [] S M) (fun (q : KM) => Sum.inr (none, S, q)) := by
  unfold f_Town_addRight
  refine s_aload_n (dt_Town_addRight 0 _ _ _ rfl) rfl ?_
  refine s_getR (c := 12) (j := 10) (o := (some 23)) (dt_Town_addRight 1 _ _ _ rfl) (kf_Town_33) (sc_15 hS) rfl rfl ?_
  refine s_aload_n (dt_Town_addRight 2 _ _ _ rfl) rfl ?_
  refine s_getI (c := 12) (j := 9) (dt_Town_addRight 3 _ _ _ rfl) (kf_Town_53) (sc_15 hS) rfl ?_
  refine s_iload_n (dt_Town_addRight 4 _ _ _ rfl) rfl ?_
  refine s_inv (y := y_X_put) (Y' := Y_X_put) (as := [VR (some 23), VI (M 15 9), VI a0]) (r := none) (M' := (putM M 23 6 (M 15 9) a0)) (kInvS (dt_Town_addRight 5 _ _ _ rfl) kst_X_put rfl) kl_Town_81 md_X_put rfl rfl (c_X_put hS ⟨(sc_23 hS), by decide⟩ (M 15 9) a0 M) ?_
  refine s_letM (fun M1 => ?_)
  refine s_aload_n (dt_Town_addRight 6 _ _ _ rfl) rfl ?_
  refine s_dup (dt_Town_addRight 7 _ _ _ rfl) rfl ?_
  refine s_getI (c := 12) (j := 9) (dt_Town_addRight 8 _ _ _ rfl) (kf_Town_53) (sc_15 hS) rfl ?_
  refine s_iconst (dt_Town_addRight 9 _ _ _ rfl) rfl ?_
  refine s_iadd (dt_Town_addRight 10 _ _ _ rfl) ?_
  refine s_putI (c := 12) (j := 9) (dt_Town_addRight 11 _ _ _ rfl) kp_Town_53 (sc_15 hS) ⟨rfl, rfl⟩ ?_
  refine s_letM (fun M2 => ?_)
  exact s_vret (dt_Town_addRight 12 _ _ _ rfl) rfl rfl
theorem c_Town_addRight {S : KS} (hS : KExt 382 S)  (a0 : Int) (M : KM) : ∀ q, f_Town_addRight a0 M = some q → Ctr y_Town_addRight Y_Town_addRight [VR (some 15), VI a0] S M (none) S (q) := fun q hq =>
  ctr_of md_Town_addRight (Nat.le_of_ble_eq_true rfl) ⟨Nat.le_refl _, Nat.le_refl _⟩ 0 hq rfl (fun _ G => sim_Town_addRight hS  a0 M)
set_option maxRecDepth 100000 in
theorem sim_Reader_rightLine {G : Gam} {S : KS} (hS : KExt 382 S)   (M : KM) : Sim G Y_Reader_rightLine (f_Reader_rightLine  M) (kC 0 [some (VR (some 14))] [] S M) (fun (q : Int × KM) => Sum.inr (some (VI q.1), S, q.2)) := by
  unfold f_Reader_rightLine
  refine s_aload_n (dt_Reader_rightLine 0 _ _ _ rfl) rfl ?_
  refine s_getR (c := 7) (j := 2) (o := (some 15)) (dt_Reader_rightLine 1 _ _ _ rfl) (kf_Reader_21) (sc_14 hS) rfl rfl ?_
  refine s_getI (c := 12) (j := 9) (dt_Reader_rightLine 2 _ _ _ rfl) (kf_Reader_145) (sc_15 hS) rfl ?_
  refine s_bipush (dt_Reader_rightLine 3 _ _ _ rfl) rfl ?_
  refine s_if_icmp_lt (tgt := 18) (dt_Reader_rightLine 4 _ _ _ rfl) rfl ?_ ?_
  · refine s_aload_n (dt_Reader_rightLine 9 _ _ _ rfl) rfl ?_
    refine s_callO (y := y_Reader_step) (Y' := Y_Reader_step) (as := [VR (some 14)]) (r := fun q => none) (M' := fun q => q) (kInvV (dt_Reader_rightLine 10 _ _ _ rfl) kin_Reader_step 7 rfl (sc_14 hS) kse_Reader_step rfl) kl_Reader_53 md_Reader_step rfl rfl (fun q hq => c_Reader_step hS M q hq) (fun q1 => ?_)
    refine s_aload_n (dt_Reader_rightLine 11 _ _ _ rfl) rfl ?_
    refine s_aload_n (dt_Reader_rightLine 12 _ _ _ rfl) rfl ?_
    refine s_getR (c := 7) (j := 11) (o := (some 33)) (dt_Reader_rightLine 13 _ _ _ rfl) (kf_Reader_36) (sc_14 hS) rfl rfl ?_
    refine s_aload_n (dt_Reader_rightLine 14 _ _ _ rfl) rfl ?_
    refine s_getR (c := 7) (j := 2) (o := (some 15)) (dt_Reader_rightLine 15 _ _ _ rfl) (kf_Reader_21) (sc_14 hS) rfl rfl ?_
    refine s_getI (c := 12) (j := 9) (dt_Reader_rightLine 16 _ _ _ rfl) (kf_Reader_145) (sc_15 hS) rfl ?_
    refine s_callO (y := y_Reader_takeNewName) (Y' := Y_Reader_takeNewName) (as := [VR (some 14), VR (some 33), VI (q1 15 9)]) (r := fun q => some (VI q.1)) (M' := fun q => q.2) (kInvV (dt_Reader_rightLine 17 _ _ _ rfl) kin_Reader_takeNewName 7 rfl (sc_14 hS) kse_Reader_takeNewName rfl) kl_Reader_99 md_Reader_takeNewName rfl rfl (fun q hq => c_Reader_takeNewNameR hS (q1 15 9) q1 q hq) (fun q2 => ?_)
    refine s_if_ne (tgt := 42) (dt_Reader_rightLine 18 _ _ _ rfl) rfl ?_ ?_
    · refine s_iconst (dt_Reader_rightLine 19 _ _ _ rfl) rfl ?_
      exact s_zret01 (dt_Reader_rightLine 20 _ _ _ rfl) rfl rfl rfl
    · refine s_aload_n (dt_Reader_rightLine 21 _ _ _ rfl) rfl ?_
      refine s_getR (c := 7) (j := 2) (o := (some 15)) (dt_Reader_rightLine 22 _ _ _ rfl) (kf_Reader_21) (sc_14 hS) rfl rfl ?_
      refine s_aload_n (dt_Reader_rightLine 23 _ _ _ rfl) rfl ?_
      refine s_getR (c := 7) (j := 2) (o := (some 15)) (dt_Reader_rightLine 24 _ _ _ rfl) (kf_Reader_21) (sc_14 hS) rfl rfl ?_
      refine s_getR (c := 12) (j := 16) (o := (some 24)) (dt_Reader_rightLine 25 _ _ _ rfl) (kf_Reader_148) (sc_15 hS) rfl rfl ?_
      refine s_getI (c := 4) (j := 1) (dt_Reader_rightLine 26 _ _ _ rfl) (kf_Reader_152) (sc_24 hS) rfl ?_
      refine s_callO (y := y_Town_addRight) (Y' := Y_Town_addRight) (as := [VR (some 15), VI (q2.2 24 1)]) (r := fun q => none) (M' := fun q => q) (kInvV (dt_Reader_rightLine 27 _ _ _ rfl) kin_Town_addRight 12 rfl (sc_15 hS) kse_Town_addRight rfl) kl_Reader_157 md_Town_addRight rfl rfl (fun q hq => c_Town_addRight hS (q2.2 24 1) q2.2 q hq) (fun q3 => ?_)
      refine s_aload_n (dt_Reader_rightLine 28 _ _ _ rfl) rfl ?_
      refine s_callO (y := y_Reader_formula) (Y' := Y_Reader_formula) (as := [VR (some 14)]) (r := fun q => some (VI q.1)) (M' := fun q => q.2) (kInvV (dt_Reader_rightLine 29 _ _ _ rfl) kin_Reader_formula 7 rfl (sc_14 hS) kse_Reader_formula rfl) kl_Reader_161 md_Reader_formula rfl rfl (fun q hq => c_Reader_formula hS q3 q hq) (fun q4 => ?_)
      exact s_zret (dt_Reader_rightLine 30 _ _ _ rfl) rfl rfl
  · refine s_aload_n (dt_Reader_rightLine 5 _ _ _ rfl) rfl ?_
    refine s_iconst (dt_Reader_rightLine 6 _ _ _ rfl) rfl ?_
    refine s_callO (y := y_Reader_refuse) (Y' := Y_Reader_refuse) (as := [VR (some 14), VI (2 : Int)]) (r := fun q => some (VI q.1)) (M' := fun q => q.2) (kInvV (dt_Reader_rightLine 7 _ _ _ rfl) kin_Reader_refuse 7 rfl (sc_14 hS) kse_Reader_refuse rfl) kl_Reader_92 md_Reader_refuse rfl rfl (fun q hq => c_Reader_refuse hS (2 : Int) M q hq) (fun q5 => ?_)
    exact s_zret (dt_Reader_rightLine 8 _ _ _ rfl) rfl rfl
theorem c_Reader_rightLine {S : KS} (hS : KExt 382 S)   (M : KM) : ∀ q, f_Reader_rightLine  M = some q → Ctr y_Reader_rightLine Y_Reader_rightLine [VR (some 14)] S M (some (VI q.1)) S (q.2) := fun q hq =>
  ctr_of md_Reader_rightLine (Nat.le_of_ble_eq_true rfl) ⟨Nat.le_refl _, Nat.le_refl _⟩ 0 hq rfl (fun _ G => sim_Reader_rightLine hS   M)
set_option maxRecDepth 100000 in
theorem sim_Reader_line {G : Gam} {S : KS} (hS : KExt 382 S)   (M : KM) : Sim G Y_Reader_line (f_Reader_line  M) (kC 0 [some (VR (some 14))] [] S M) (fun (q : Int × KM) => Sum.inr (some (VI q.1), S, q.2)) := by
  unfold f_Reader_line
  refine s_aload_n (dt_Reader_line 0 _ _ _ rfl) rfl ?_
  refine s_getI (c := 7) (j := 5) (dt_Reader_line 1 _ _ _ rfl) (kf_Reader_59) (sc_14 hS) rfl ?_
  refine s_tcase (tgt := 68) (dt_Reader_line 2 _ _ _ rfl) rfl rfl rfl ?_ (fun h14 => ?_)
  · refine s_aload_n (dt_Reader_line 3 _ _ _ rfl) rfl ?_
    refine s_callO (y := y_Reader_personLine) (Y' := Y_Reader_personLine) (as := [VR (some 14)]) (r := fun q => some (VI q.1)) (M' := fun q => q.2) (kInvV (dt_Reader_line 4 _ _ _ rfl) kin_Reader_personLine 7 rfl (sc_14 hS) kse_Reader_personLine rfl) kl_Reader_74 md_Reader_personLine rfl rfl (fun q hq => c_Reader_personLine hS M q hq) (fun q1 => ?_)
    exact s_zret (dt_Reader_line 5 _ _ _ rfl) rfl rfl
  refine s_tcase (tgt := 98) (dt_Reader_line 2 _ _ _ rfl) rfl rfl rfl ?_ (fun h15 => ?_)
  · refine s_aload_n (dt_Reader_line 21 _ _ _ rfl) rfl ?_
    refine s_iconst (dt_Reader_line 22 _ _ _ rfl) rfl ?_
    refine s_callO (y := y_Reader_refuse) (Y' := Y_Reader_refuse) (as := [VR (some 14), VI (2 : Int)]) (r := fun q => some (VI q.1)) (M' := fun q => q.2) (kInvV (dt_Reader_line 23 _ _ _ rfl) kin_Reader_refuse 7 rfl (sc_14 hS) kse_Reader_refuse rfl) kl_Reader_92 md_Reader_refuse rfl rfl (fun q hq => c_Reader_refuse hS (2 : Int) M q hq) (fun q2 => ?_)
    exact s_zret (dt_Reader_line 24 _ _ _ rfl) rfl rfl
  refine s_tcase (tgt := 98) (dt_Reader_line 2 _ _ _ rfl) rfl rfl rfl ?_ (fun h16 => ?_)
  · refine s_aload_n (dt_Reader_line 21 _ _ _ rfl) rfl ?_
    refine s_iconst (dt_Reader_line 22 _ _ _ rfl) rfl ?_
    refine s_callO (y := y_Reader_refuse) (Y' := Y_Reader_refuse) (as := [VR (some 14), VI (2 : Int)]) (r := fun q => some (VI q.1)) (M' := fun q => q.2) (kInvV (dt_Reader_line 23 _ _ _ rfl) kin_Reader_refuse 7 rfl (sc_14 hS) kse_Reader_refuse rfl) kl_Reader_92 md_Reader_refuse rfl rfl (fun q hq => c_Reader_refuse hS (2 : Int) M q hq) (fun q3 => ?_)
    exact s_zret (dt_Reader_line 24 _ _ _ rfl) rfl rfl
  refine s_tcase (tgt := 98) (dt_Reader_line 2 _ _ _ rfl) rfl rfl rfl ?_ (fun h17 => ?_)
  · refine s_aload_n (dt_Reader_line 21 _ _ _ rfl) rfl ?_
    refine s_iconst (dt_Reader_line 22 _ _ _ rfl) rfl ?_
    refine s_callO (y := y_Reader_refuse) (Y' := Y_Reader_refuse) (as := [VR (some 14), VI (2 : Int)]) (r := fun q => some (VI q.1)) (M' := fun q => q.2) (kInvV (dt_Reader_line 23 _ _ _ rfl) kin_Reader_refuse 7 rfl (sc_14 hS) kse_Reader_refuse rfl) kl_Reader_92 md_Reader_refuse rfl rfl (fun q hq => c_Reader_refuse hS (2 : Int) M q hq) (fun q4 => ?_)
    exact s_zret (dt_Reader_line 24 _ _ _ rfl) rfl rfl
  refine s_tcase (tgt := 98) (dt_Reader_line 2 _ _ _ rfl) rfl rfl rfl ?_ (fun h18 => ?_)
  · refine s_aload_n (dt_Reader_line 21 _ _ _ rfl) rfl ?_
    refine s_iconst (dt_Reader_line 22 _ _ _ rfl) rfl ?_
    refine s_callO (y := y_Reader_refuse) (Y' := Y_Reader_refuse) (as := [VR (some 14), VI (2 : Int)]) (r := fun q => some (VI q.1)) (M' := fun q => q.2) (kInvV (dt_Reader_line 23 _ _ _ rfl) kin_Reader_refuse 7 rfl (sc_14 hS) kse_Reader_refuse rfl) kl_Reader_92 md_Reader_refuse rfl rfl (fun q hq => c_Reader_refuse hS (2 : Int) M q hq) (fun q5 => ?_)
    exact s_zret (dt_Reader_line 24 _ _ _ rfl) rfl rfl
  refine s_tcase (tgt := 73) (dt_Reader_line 2 _ _ _ rfl) rfl rfl rfl ?_ (fun h19 => ?_)
  · refine s_aload_n (dt_Reader_line 6 _ _ _ rfl) rfl ?_
    refine s_callO (y := y_Reader_friendLine) (Y' := Y_Reader_friendLine) (as := [VR (some 14)]) (r := fun q => some (VI q.1)) (M' := fun q => q.2) (kInvV (dt_Reader_line 7 _ _ _ rfl) kin_Reader_friendLine 7 rfl (sc_14 hS) kse_Reader_friendLine rfl) kl_Reader_77 md_Reader_friendLine rfl rfl (fun q hq => c_Reader_friendLine hS M q hq) (fun q6 => ?_)
    exact s_zret (dt_Reader_line 8 _ _ _ rfl) rfl rfl
  refine s_tcase (tgt := 98) (dt_Reader_line 2 _ _ _ rfl) rfl rfl rfl ?_ (fun h20 => ?_)
  · refine s_aload_n (dt_Reader_line 21 _ _ _ rfl) rfl ?_
    refine s_iconst (dt_Reader_line 22 _ _ _ rfl) rfl ?_
    refine s_callO (y := y_Reader_refuse) (Y' := Y_Reader_refuse) (as := [VR (some 14), VI (2 : Int)]) (r := fun q => some (VI q.1)) (M' := fun q => q.2) (kInvV (dt_Reader_line 23 _ _ _ rfl) kin_Reader_refuse 7 rfl (sc_14 hS) kse_Reader_refuse rfl) kl_Reader_92 md_Reader_refuse rfl rfl (fun q hq => c_Reader_refuse hS (2 : Int) M q hq) (fun q7 => ?_)
    exact s_zret (dt_Reader_line 24 _ _ _ rfl) rfl rfl
  refine s_tcase (tgt := 98) (dt_Reader_line 2 _ _ _ rfl) rfl rfl rfl ?_ (fun h21 => ?_)
  · refine s_aload_n (dt_Reader_line 21 _ _ _ rfl) rfl ?_
    refine s_iconst (dt_Reader_line 22 _ _ _ rfl) rfl ?_
    refine s_callO (y := y_Reader_refuse) (Y' := Y_Reader_refuse) (as := [VR (some 14), VI (2 : Int)]) (r := fun q => some (VI q.1)) (M' := fun q => q.2) (kInvV (dt_Reader_line 23 _ _ _ rfl) kin_Reader_refuse 7 rfl (sc_14 hS) kse_Reader_refuse rfl) kl_Reader_92 md_Reader_refuse rfl rfl (fun q hq => c_Reader_refuse hS (2 : Int) M q hq) (fun q8 => ?_)
    exact s_zret (dt_Reader_line 24 _ _ _ rfl) rfl rfl
  refine s_tcase (tgt := 78) (dt_Reader_line 2 _ _ _ rfl) rfl rfl rfl ?_ (fun h22 => ?_)
  · refine s_aload_n (dt_Reader_line 9 _ _ _ rfl) rfl ?_
    refine s_callO (y := y_Reader_rightLine) (Y' := Y_Reader_rightLine) (as := [VR (some 14)]) (r := fun q => some (VI q.1)) (M' := fun q => q.2) (kInvV (dt_Reader_line 10 _ _ _ rfl) kin_Reader_rightLine 7 rfl (sc_14 hS) kse_Reader_rightLine rfl) kl_Reader_80 md_Reader_rightLine rfl rfl (fun q hq => c_Reader_rightLine hS M q hq) (fun q9 => ?_)
    exact s_zret (dt_Reader_line 11 _ _ _ rfl) rfl rfl
  refine s_tcase (tgt := 83) (dt_Reader_line 2 _ _ _ rfl) rfl rfl rfl ?_ (fun h23 => ?_)
  · refine s_aload_n (dt_Reader_line 12 _ _ _ rfl) rfl ?_
    refine s_callO (y := y_Reader_oddsLine) (Y' := Y_Reader_oddsLine) (as := [VR (some 14)]) (r := fun q => some (VI q.1)) (M' := fun q => q.2) (kInvV (dt_Reader_line 13 _ _ _ rfl) kin_Reader_oddsLine 7 rfl (sc_14 hS) kse_Reader_oddsLine rfl) kl_Reader_83 md_Reader_oddsLine rfl rfl (fun q hq => c_Reader_oddsLine hS M q hq) (fun q10 => ?_)
    exact s_zret (dt_Reader_line 14 _ _ _ rfl) rfl rfl
  refine s_tcase (tgt := 88) (dt_Reader_line 2 _ _ _ rfl) rfl rfl rfl ?_ (fun h24 => ?_)
  · refine s_aload_n (dt_Reader_line 15 _ _ _ rfl) rfl ?_
    refine s_callO (y := y_Reader_agesLine) (Y' := Y_Reader_agesLine) (as := [VR (some 14)]) (r := fun q => some (VI q.1)) (M' := fun q => q.2) (kInvV (dt_Reader_line 16 _ _ _ rfl) kin_Reader_agesLine 7 rfl (sc_14 hS) kse_Reader_agesLine rfl) kl_Reader_86 md_Reader_agesLine rfl rfl (fun q hq => c_Reader_agesLine hS M q hq) (fun q11 => ?_)
    exact s_zret (dt_Reader_line 17 _ _ _ rfl) rfl rfl
  refine s_tcase (tgt := 93) (dt_Reader_line 2 _ _ _ rfl) rfl rfl rfl ?_ (fun h25 => ?_)
  · refine s_aload_n (dt_Reader_line 18 _ _ _ rfl) rfl ?_
    refine s_callO (y := y_Reader_drawLine) (Y' := Y_Reader_drawLine) (as := [VR (some 14)]) (r := fun q => some (VI q.1)) (M' := fun q => q.2) (kInvV (dt_Reader_line 19 _ _ _ rfl) kin_Reader_drawLine 7 rfl (sc_14 hS) kse_Reader_drawLine rfl) kl_Reader_89 md_Reader_drawLine rfl rfl (fun q hq => c_Reader_drawLine hS M q hq) (fun q12 => ?_)
    exact s_zret (dt_Reader_line 20 _ _ _ rfl) rfl rfl
  refine s_tdef (tgt := 98) (dt_Reader_line 2 _ _ _ rfl) (by omega) rfl ?_
  refine s_aload_n (dt_Reader_line 21 _ _ _ rfl) rfl ?_
  refine s_iconst (dt_Reader_line 22 _ _ _ rfl) rfl ?_
  refine s_callO (y := y_Reader_refuse) (Y' := Y_Reader_refuse) (as := [VR (some 14), VI (2 : Int)]) (r := fun q => some (VI q.1)) (M' := fun q => q.2) (kInvV (dt_Reader_line 23 _ _ _ rfl) kin_Reader_refuse 7 rfl (sc_14 hS) kse_Reader_refuse rfl) kl_Reader_92 md_Reader_refuse rfl rfl (fun q hq => c_Reader_refuse hS (2 : Int) M q hq) (fun q13 => ?_)
  exact s_zret (dt_Reader_line 24 _ _ _ rfl) rfl rfl
theorem c_Reader_line {S : KS} (hS : KExt 382 S)   (M : KM) : ∀ q, f_Reader_line  M = some q → Ctr y_Reader_line Y_Reader_line [VR (some 14)] S M (some (VI q.1)) S (q.2) := fun q hq =>
  ctr_of md_Reader_line (Nat.le_of_ble_eq_true rfl) ⟨Nat.le_refl _, Nat.le_refl _⟩ 0 hq rfl (fun _ G => sim_Reader_line hS   M)
set_option maxRecDepth 100000 in
theorem sim_Tokens_byteAt {G : Gam} {S : KS} (hS : KExt 382 S)  (a1 : Int) (M : KM) : Sim G Y_Tokens_byteAt (f_Tokens_byteAt a1 M) (kC 0 [some (VR (some 1)), some (VI a1)] [] S M) (fun (q : Int) => Sum.inr (some (VI q), S, M)) := by
  unfold f_Tokens_byteAt
  refine s_aload_n (dt_Tokens_byteAt 0 _ _ _ rfl) rfl ?_
  refine s_ifnull (dt_Tokens_byteAt 1 _ _ _ rfl) ?_
  refine s_iload_n (dt_Tokens_byteAt 2 _ _ _ rfl) rfl ?_
  refine s_bd (κ := fun t1 => kC 25 [none, none] [VI t1] S M) ?_ (fun t1 => ?_)
  · refine s_if_lt (tgt := 24) (dt_Tokens_byteAt 3 _ _ _ rfl) rfl ?_ ?_
    · refine s_iconst (dt_Tokens_byteAt 14 _ _ _ rfl) rfl ?_
      exact s_mask [false, false] (s_ret0 rfl)
    · refine s_iload_n (dt_Tokens_byteAt 4 _ _ _ rfl) rfl ?_
      refine s_aload_n (dt_Tokens_byteAt 5 _ _ _ rfl) rfl ?_
      refine s_alen (N := 1600) (dt_Tokens_byteAt 6 _ _ _ rfl) (sc_1 hS) rfl rfl (by decide) ?_
      refine s_if_icmp_ge (tgt := 24) (dt_Tokens_byteAt 7 _ _ _ rfl) rfl ?_ ?_
      · refine s_aload_n (dt_Tokens_byteAt 8 _ _ _ rfl) rfl ?_
        refine s_iload_n (dt_Tokens_byteAt 9 _ _ _ rfl) rfl ?_
        refine s_bald (N := 1600) (dt_Tokens_byteAt 10 _ _ _ rfl) (sc_1 hS) rfl ?_
        refine s_sipush (dt_Tokens_byteAt 11 _ _ _ rfl) rfl ?_
        refine s_iand (dt_Tokens_byteAt 12 _ _ _ rfl) ?_
        refine s_goto (tgt := 25) (dt_Tokens_byteAt 13 _ _ _ rfl) rfl ?_
        exact s_mask [false, false] (s_ret0 rfl)
      · refine s_iconst (dt_Tokens_byteAt 14 _ _ _ rfl) rfl ?_
        exact s_mask [false, false] (s_ret0 rfl)
  exact s_iret (dt_Tokens_byteAt 15 _ _ _ rfl) rfl rfl
theorem c_Tokens_byteAt {S : KS} (hS : KExt 382 S)  (a1 : Int) (M : KM) : ∀ q, f_Tokens_byteAt a1 M = some q → Ctr y_Tokens_byteAt Y_Tokens_byteAt [VR (some 1), VI a1] S M (some (VI q)) S (M) := fun q hq =>
  ctr_of md_Tokens_byteAt (Nat.le_of_ble_eq_true rfl) ⟨Nat.le_refl _, Nat.le_refl _⟩ 0 hq rfl (fun _ G => sim_Tokens_byteAt hS  a1 M)
set_option maxRecDepth 100000 in
theorem sim_Tokens_isBlank {G : Gam} {S : KS} (hS : KExt 382 S)  (a0 : Int) (M : KM) : Sim G Y_Tokens_isBlank (f_Tokens_isBlank a0 M) (kC 0 [some (VI a0)] [] S M) (fun (q : Int) => Sum.inr (some (VI q), S, M)) := by
  unfold f_Tokens_isBlank
  refine s_iload_n (dt_Tokens_isBlank 0 _ _ _ rfl) rfl ?_
  refine s_bipush (dt_Tokens_isBlank 1 _ _ _ rfl) rfl ?_
  refine s_bd (κ := fun t1 => kC 17 [none] [VI t1] S M) ?_ (fun t1 => ?_)
  · refine s_if_icmp_eq (tgt := 12) (dt_Tokens_isBlank 2 _ _ _ rfl) rfl ?_ ?_
    · refine s_iconst (dt_Tokens_isBlank 6 _ _ _ rfl) rfl ?_
      refine s_goto (tgt := 17) (dt_Tokens_isBlank 7 _ _ _ rfl) rfl ?_
      exact s_mask [false] (s_ret0 rfl)
    · refine s_iload_n (dt_Tokens_isBlank 3 _ _ _ rfl) rfl ?_
      refine s_bipush (dt_Tokens_isBlank 4 _ _ _ rfl) rfl ?_
      refine s_if_icmp_ne (tgt := 16) (dt_Tokens_isBlank 5 _ _ _ rfl) rfl ?_ ?_
      · refine s_iconst (dt_Tokens_isBlank 6 _ _ _ rfl) rfl ?_
        refine s_goto (tgt := 17) (dt_Tokens_isBlank 7 _ _ _ rfl) rfl ?_
        exact s_mask [false] (s_ret0 rfl)
      · refine s_iconst (dt_Tokens_isBlank 8 _ _ _ rfl) rfl ?_
        exact s_mask [false] (s_ret0 rfl)
  exact s_zret (dt_Tokens_isBlank 9 _ _ _ rfl) rfl rfl
theorem c_Tokens_isBlank {S : KS} (hS : KExt 382 S)  (a0 : Int) (M : KM) : ∀ q, f_Tokens_isBlank a0 M = some q → Ctr y_Tokens_isBlank Y_Tokens_isBlank [VI a0] S M (some (VI q)) S (M) := fun q hq =>
  ctr_of md_Tokens_isBlank (Nat.le_of_ble_eq_true rfl) ⟨Nat.le_refl _, Nat.le_refl _⟩ 0 hq rfl (fun _ G => sim_Tokens_isBlank hS  a0 M)
set_option maxRecDepth 100000 in
theorem sim_Tokens_isDigit {G : Gam} {S : KS} (hS : KExt 382 S)  (a0 : Int) (M : KM) : Sim G Y_Tokens_isDigit (f_Tokens_isDigit a0 M) (kC 0 [some (VI a0)] [] S M) (fun (q : Int) => Sum.inr (some (VI q), S, M)) := by
  unfold f_Tokens_isDigit
  refine s_iload_n (dt_Tokens_isDigit 0 _ _ _ rfl) rfl ?_
  refine s_bipush (dt_Tokens_isDigit 1 _ _ _ rfl) rfl ?_
  refine s_bd (κ := fun t1 => kC 17 [none] [VI t1] S M) ?_ (fun t1 => ?_)
  · refine s_if_icmp_lt (tgt := 16) (dt_Tokens_isDigit 2 _ _ _ rfl) rfl ?_ ?_
    · refine s_iconst (dt_Tokens_isDigit 8 _ _ _ rfl) rfl ?_
      exact s_mask [false] (s_ret0 rfl)
    · refine s_iload_n (dt_Tokens_isDigit 3 _ _ _ rfl) rfl ?_
      refine s_bipush (dt_Tokens_isDigit 4 _ _ _ rfl) rfl ?_
      refine s_if_icmp_gt (tgt := 16) (dt_Tokens_isDigit 5 _ _ _ rfl) rfl ?_ ?_
      · refine s_iconst (dt_Tokens_isDigit 6 _ _ _ rfl) rfl ?_
        refine s_goto (tgt := 17) (dt_Tokens_isDigit 7 _ _ _ rfl) rfl ?_
        exact s_mask [false] (s_ret0 rfl)
      · refine s_iconst (dt_Tokens_isDigit 8 _ _ _ rfl) rfl ?_
        exact s_mask [false] (s_ret0 rfl)
  exact s_zret (dt_Tokens_isDigit 9 _ _ _ rfl) rfl rfl
theorem c_Tokens_isDigit {S : KS} (hS : KExt 382 S)  (a0 : Int) (M : KM) : ∀ q, f_Tokens_isDigit a0 M = some q → Ctr y_Tokens_isDigit Y_Tokens_isDigit [VI a0] S M (some (VI q)) S (M) := fun q hq =>
  ctr_of md_Tokens_isDigit (Nat.le_of_ble_eq_true rfl) ⟨Nat.le_refl _, Nat.le_refl _⟩ 0 hq rfl (fun _ G => sim_Tokens_isDigit hS  a0 M)
set_option maxRecDepth 100000 in
theorem sim_Tokens_isLetter {G : Gam} {S : KS} (hS : KExt 382 S)  (a0 : Int) (M : KM) : Sim G Y_Tokens_isLetter (f_Tokens_isLetter a0 M) (kC 0 [some (VI a0)] [] S M) (fun (q : Int) => Sum.inr (some (VI q), S, M)) := by
  unfold f_Tokens_isLetter
  refine s_iload_n (dt_Tokens_isLetter 0 _ _ _ rfl) rfl ?_
  refine s_bipush (dt_Tokens_isLetter 1 _ _ _ rfl) rfl ?_
  refine s_bd (κ := fun t1 => kC 17 [none] [VI t1] S M) ?_ (fun t1 => ?_)
  · refine s_if_icmp_lt (tgt := 16) (dt_Tokens_isLetter 2 _ _ _ rfl) rfl ?_ ?_
    · refine s_iconst (dt_Tokens_isLetter 8 _ _ _ rfl) rfl ?_
      exact s_mask [false] (s_ret0 rfl)
    · refine s_iload_n (dt_Tokens_isLetter 3 _ _ _ rfl) rfl ?_
      refine s_bipush (dt_Tokens_isLetter 4 _ _ _ rfl) rfl ?_
      refine s_if_icmp_gt (tgt := 16) (dt_Tokens_isLetter 5 _ _ _ rfl) rfl ?_ ?_
      · refine s_iconst (dt_Tokens_isLetter 6 _ _ _ rfl) rfl ?_
        refine s_goto (tgt := 17) (dt_Tokens_isLetter 7 _ _ _ rfl) rfl ?_
        exact s_mask [false] (s_ret0 rfl)
      · refine s_iconst (dt_Tokens_isLetter 8 _ _ _ rfl) rfl ?_
        exact s_mask [false] (s_ret0 rfl)
  exact s_zret (dt_Tokens_isLetter 9 _ _ _ rfl) rfl rfl
theorem c_Tokens_isLetter {S : KS} (hS : KExt 382 S)  (a0 : Int) (M : KM) : ∀ q, f_Tokens_isLetter a0 M = some q → Ctr y_Tokens_isLetter Y_Tokens_isLetter [VI a0] S M (some (VI q)) S (M) := fun q hq =>
  ctr_of md_Tokens_isLetter (Nat.le_of_ble_eq_true rfl) ⟨Nat.le_refl _, Nat.le_refl _⟩ 0 hq rfl (fun _ G => sim_Tokens_isLetter hS  a0 M)
set_option maxRecDepth 100000 in
theorem sim_Tokens_scanNumber {G : Gam} {S : KS} (hS : KExt 382 S)  (a1 : Int) (M : KM) : Sim G Y_Tokens_scanNumber (f_Tokens_scanNumber a1 M) (kC 0 [some (VR (some 27)), some (VR (some 1)), some (VI a1), none, none, none] [] S M) (fun (q : Int × KM) => Sum.inr (some (VI q.1), S, q.2)) := by
  unfold f_Tokens_scanNumber
  refine s_aload_n (dt_Tokens_scanNumber 0 _ _ _ rfl) rfl ?_
  refine s_getI (c := 11) (j := 5) (dt_Tokens_scanNumber 1 _ _ _ rfl) (kf_Tokens_29) (sc_27 hS) rfl ?_
  refine s_letI (fun v1 => ?_)
  refine s_istore_n (dt_Tokens_scanNumber 2 _ _ _ rfl) rfl ?_
  refine s_iconst (dt_Tokens_scanNumber 3 _ _ _ rfl) rfl ?_
  refine s_istore (dt_Tokens_scanNumber 4 _ _ _ rfl) rfl ?_
  refine s_bd (κ := (fun (e8 : Int × KM) => kC 62 [some (VR (some 27)), some (VR (some 1)), some (VI a1), some (VI v1), some (VI e8.1), none] [] S e8.2)) (s_mask [true, true, true, true, true, false] (s_while (c := fun s2 => kC 8 [some (VR (some 27)), some (VR (some 1)), some (VI a1), some (VI v1), some (VI s2.1), none] [] S s2.2) (fun s2 => ?_) ((0 : Int), M))) ?_
  · refine s_aload_n (dt_Tokens_scanNumber 5 _ _ _ rfl) rfl ?_
    refine s_getI (c := 11) (j := 5) (dt_Tokens_scanNumber 6 _ _ _ rfl) (kf_Tokens_29) (sc_27 hS) rfl ?_
    refine s_iload_n (dt_Tokens_scanNumber 7 _ _ _ rfl) rfl ?_
    refine s_if_icmp_ge (tgt := 62) (dt_Tokens_scanNumber 8 _ _ _ rfl) rfl ?_ ?_
    · refine s_aload_n (dt_Tokens_scanNumber 9 _ _ _ rfl) rfl ?_
      refine s_aload_n (dt_Tokens_scanNumber 10 _ _ _ rfl) rfl ?_
      refine s_getI (c := 11) (j := 5) (dt_Tokens_scanNumber 11 _ _ _ rfl) (kf_Tokens_29) (sc_27 hS) rfl ?_
      refine s_callO (y := y_Tokens_byteAt) (Y' := Y_Tokens_byteAt) (as := [VR (some 1), VI (s2.2 27 5)]) (r := fun q => some (VI q)) (M' := fun q => s2.2) (kInvS (dt_Tokens_scanNumber 12 _ _ _ rfl) kst_Tokens_byteAt rfl) kl_Tokens_32 md_Tokens_byteAt rfl rfl (fun q hq => c_Tokens_byteAt hS (s2.2 27 5) s2.2 q hq) (fun q3 => ?_)
      refine s_callO (y := y_Tokens_isDigit) (Y' := Y_Tokens_isDigit) (as := [VI q3]) (r := fun q => some (VI q)) (M' := fun q => s2.2) (kInvS (dt_Tokens_scanNumber 13 _ _ _ rfl) kst_Tokens_isDigit rfl) kl_Tokens_50 md_Tokens_isDigit rfl rfl (fun q hq => c_Tokens_isDigit hS q3 s2.2 q hq) (fun q4 => ?_)
      refine s_if_eq (tgt := 62) (dt_Tokens_scanNumber 14 _ _ _ rfl) rfl ?_ ?_
      · exact s_mask [true, true, true, true, true, false] (s_ret0 rfl)
      · refine s_iload (dt_Tokens_scanNumber 15 _ _ _ rfl) rfl ?_
        refine s_bipush (dt_Tokens_scanNumber 16 _ _ _ rfl) rfl ?_
        refine s_imul (dt_Tokens_scanNumber 17 _ _ _ rfl) ?_
        refine s_aload_n (dt_Tokens_scanNumber 18 _ _ _ rfl) rfl ?_
        refine s_aload_n (dt_Tokens_scanNumber 19 _ _ _ rfl) rfl ?_
        refine s_getI (c := 11) (j := 5) (dt_Tokens_scanNumber 20 _ _ _ rfl) (kf_Tokens_29) (sc_27 hS) rfl ?_
        refine s_callO (y := y_Tokens_byteAt) (Y' := Y_Tokens_byteAt) (as := [VR (some 1), VI (s2.2 27 5)]) (r := fun q => some (VI q)) (M' := fun q => s2.2) (kInvS (dt_Tokens_scanNumber 21 _ _ _ rfl) kst_Tokens_byteAt rfl) kl_Tokens_32 md_Tokens_byteAt rfl rfl (fun q hq => c_Tokens_byteAt hS (s2.2 27 5) s2.2 q hq) (fun q5 => ?_)
        refine s_bipush (dt_Tokens_scanNumber 22 _ _ _ rfl) rfl ?_
        refine s_isub (dt_Tokens_scanNumber 23 _ _ _ rfl) ?_
        refine s_iadd (dt_Tokens_scanNumber 24 _ _ _ rfl) ?_
        refine s_letI (fun v6 => ?_)
        refine s_istore (dt_Tokens_scanNumber 25 _ _ _ rfl) rfl ?_
        refine s_aload_n (dt_Tokens_scanNumber 26 _ _ _ rfl) rfl ?_
        refine s_dup (dt_Tokens_scanNumber 27 _ _ _ rfl) rfl ?_
        refine s_getI (c := 11) (j := 5) (dt_Tokens_scanNumber 28 _ _ _ rfl) (kf_Tokens_29) (sc_27 hS) rfl ?_
        refine s_iconst (dt_Tokens_scanNumber 29 _ _ _ rfl) rfl ?_
        refine s_iadd (dt_Tokens_scanNumber 30 _ _ _ rfl) ?_
        refine s_putI (c := 11) (j := 5) (dt_Tokens_scanNumber 31 _ _ _ rfl) kp_Tokens_29 (sc_27 hS) ⟨rfl, rfl⟩ ?_
        refine s_letM (fun M7 => ?_)
        refine s_goto (tgt := 8) (dt_Tokens_scanNumber 32 _ _ _ rfl) rfl ?_
        exact s_mask [true, true, true, true, true, false] (s_ret0 rfl)
    · exact s_mask [true, true, true, true, true, false] (s_ret0 rfl)
  intro e8
  refine s_aload_n (dt_Tokens_scanNumber 33 _ _ _ rfl) rfl ?_
  refine s_getR (c := 11) (j := 2) (o := (some 30)) (dt_Tokens_scanNumber 34 _ _ _ rfl) (kf_Tokens_18) (sc_27 hS) rfl rfl ?_
  refine s_aload_n (dt_Tokens_scanNumber 35 _ _ _ rfl) rfl ?_
  refine s_getI (c := 11) (j := 4) (dt_Tokens_scanNumber 36 _ _ _ rfl) (kf_Tokens_25) (sc_27 hS) rfl ?_
  refine s_iload (dt_Tokens_scanNumber 37 _ _ _ rfl) rfl ?_
  refine s_inv (y := y_X_put) (Y' := Y_X_put) (as := [VR (some 30), VI (e8.2 27 4), VI e8.1]) (r := none) (M' := (putM e8.2 30 1601 (e8.2 27 4) e8.1)) (kInvS (dt_Tokens_scanNumber 38 _ _ _ rfl) kst_X_put rfl) kl_Tokens_40 md_X_put rfl rfl (c_X_put hS ⟨(sc_30 hS), by decide⟩ (e8.2 27 4) e8.1 e8.2) ?_
  refine s_letM (fun M9 => ?_)
  refine s_aload_n (dt_Tokens_scanNumber 39 _ _ _ rfl) rfl ?_
  refine s_getI (c := 11) (j := 5) (dt_Tokens_scanNumber 40 _ _ _ rfl) (kf_Tokens_29) (sc_27 hS) rfl ?_
  refine s_iload_n (dt_Tokens_scanNumber 41 _ _ _ rfl) rfl ?_
  refine s_bd (κ := fun t12 => kC 102 [some (VR (some 27)), none, none, some (VI v1), none, none] [VI t12] S M9) ?_ (fun t12 => ?_)
  · refine s_if_icmp_ge (tgt := 101) (dt_Tokens_scanNumber 42 _ _ _ rfl) rfl ?_ ?_
    · refine s_aload_n (dt_Tokens_scanNumber 43 _ _ _ rfl) rfl ?_
      refine s_aload_n (dt_Tokens_scanNumber 44 _ _ _ rfl) rfl ?_
      refine s_getI (c := 11) (j := 5) (dt_Tokens_scanNumber 45 _ _ _ rfl) (kf_Tokens_29) (sc_27 hS) rfl ?_
      refine s_callO (y := y_Tokens_byteAt) (Y' := Y_Tokens_byteAt) (as := [VR (some 1), VI (M9 27 5)]) (r := fun q => some (VI q)) (M' := fun q => M9) (kInvS (dt_Tokens_scanNumber 46 _ _ _ rfl) kst_Tokens_byteAt rfl) kl_Tokens_32 md_Tokens_byteAt rfl rfl (fun q hq => c_Tokens_byteAt hS (M9 27 5) M9 q hq) (fun q10 => ?_)
      refine s_callO (y := y_Tokens_isLetter) (Y' := Y_Tokens_isLetter) (as := [VI q10]) (r := fun q => some (VI q)) (M' := fun q => M9) (kInvS (dt_Tokens_scanNumber 47 _ _ _ rfl) kst_Tokens_isLetter rfl) kl_Tokens_44 md_Tokens_isLetter rfl rfl (fun q hq => c_Tokens_isLetter hS q10 M9 q hq) (fun q11 => ?_)
      refine s_if_eq (tgt := 101) (dt_Tokens_scanNumber 48 _ _ _ rfl) rfl ?_ ?_
      · refine s_iconst (dt_Tokens_scanNumber 51 _ _ _ rfl) rfl ?_
        exact s_mask [true, false, false, true, false, false] (s_ret0 rfl)
      · refine s_iconst (dt_Tokens_scanNumber 49 _ _ _ rfl) rfl ?_
        refine s_goto (tgt := 102) (dt_Tokens_scanNumber 50 _ _ _ rfl) rfl ?_
        exact s_mask [true, false, false, true, false, false] (s_ret0 rfl)
    · refine s_iconst (dt_Tokens_scanNumber 51 _ _ _ rfl) rfl ?_
      exact s_mask [true, false, false, true, false, false] (s_ret0 rfl)
  refine s_istore (dt_Tokens_scanNumber 52 _ _ _ rfl) rfl ?_
  refine s_iload (dt_Tokens_scanNumber 53 _ _ _ rfl) rfl ?_
  refine s_bd (κ := fun t13 => kC 124 [none, none, none, none, none, none] [VI t13] S M9) ?_ (fun t13 => ?_)
  · refine s_if_ne (tgt := 119) (dt_Tokens_scanNumber 54 _ _ _ rfl) rfl ?_ ?_
    · refine s_aload_n (dt_Tokens_scanNumber 55 _ _ _ rfl) rfl ?_
      refine s_getI (c := 11) (j := 5) (dt_Tokens_scanNumber 56 _ _ _ rfl) (kf_Tokens_29) (sc_27 hS) rfl ?_
      refine s_iload_n (dt_Tokens_scanNumber 57 _ _ _ rfl) rfl ?_
      refine s_isub (dt_Tokens_scanNumber 58 _ _ _ rfl) ?_
      refine s_iconst (dt_Tokens_scanNumber 59 _ _ _ rfl) rfl ?_
      refine s_if_icmp_le (tgt := 123) (dt_Tokens_scanNumber 60 _ _ _ rfl) rfl ?_ ?_
      · refine s_iconst (dt_Tokens_scanNumber 63 _ _ _ rfl) rfl ?_
        exact s_mask [false, false, false, false, false, false] (s_ret0 rfl)
      · refine s_iconst (dt_Tokens_scanNumber 61 _ _ _ rfl) rfl ?_
        refine s_goto (tgt := 124) (dt_Tokens_scanNumber 62 _ _ _ rfl) rfl ?_
        exact s_mask [false, false, false, false, false, false] (s_ret0 rfl)
    · refine s_iconst (dt_Tokens_scanNumber 61 _ _ _ rfl) rfl ?_
      refine s_goto (tgt := 124) (dt_Tokens_scanNumber 62 _ _ _ rfl) rfl ?_
      exact s_mask [false, false, false, false, false, false] (s_ret0 rfl)
  exact s_iret (dt_Tokens_scanNumber 64 _ _ _ rfl) rfl rfl
theorem c_Tokens_scanNumber {S : KS} (hS : KExt 382 S)  (a1 : Int) (M : KM) : ∀ q, f_Tokens_scanNumber a1 M = some q → Ctr y_Tokens_scanNumber Y_Tokens_scanNumber [VR (some 27), VR (some 1), VI a1] S M (some (VI q.1)) S (q.2) := fun q hq =>
  ctr_of md_Tokens_scanNumber (Nat.le_of_ble_eq_true rfl) ⟨Nat.le_refl _, Nat.le_refl _⟩ 3 hq rfl (fun _ G => sim_Tokens_scanNumber hS  a1 M)
