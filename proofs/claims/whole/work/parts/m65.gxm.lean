set_option maxRecDepth 100000 in
theorem sim_M_many {G : Gam} {S : KS} (hS : KExt 435 S)   (M : KM) : Sim G Y_M_many (f_M_many  M) (kC 0 [some (VR (some 382))] [] S M) (fun (q : Int) => Sum.inr (some (VI q), S, M)) := by
  unfold f_M_many
  refine s_aload_n (dt_M_many 0 _ _ _ rfl) rfl ?_
  refine s_getR (c := 1) (j := 11) (o := (some 385)) (dt_M_many 1 _ _ _ rfl) (kf_M_20) (sc_382 hS) rfl rfl ?_
  refine s_aload_n (dt_M_many 2 _ _ _ rfl) rfl ?_
  refine s_getI (c := 1) (j := 37) (dt_M_many 3 _ _ _ rfl) (kf_M_288) (sc_382 hS) rfl ?_
  refine s_iald (N := 2) (dt_M_many 4 _ _ _ rfl) (sc_385 hS) rfl ?_
  exact s_iret (dt_M_many 5 _ _ _ rfl) rfl rfl
theorem c_M_many {S : KS} (hS : KExt 435 S)   (M : KM) : ∀ q, f_M_many  M = some q → Ctr y_M_many Y_M_many [VR (some 382)] S M (some (VI q)) S (M) := fun q hq =>
  ctr_of md_M_many (Nat.le_of_ble_eq_true rfl) ⟨Nat.le_refl _, Nat.le_refl _⟩ 0 hq rfl (fun _ G => sim_M_many hS   M)
set_option maxRecDepth 100000 in
theorem sim_M_startAnew {G : Gam} {S : KS} (hS : KExt 435 S)   (M : KM) : Sim G Y_M_startAnew (f_M_startAnew  M) (kC 0 [some (VR (some 382)), none] [] S M) (fun (q : KM) => Sum.inr (none, S, q)) := by
  unfold f_M_startAnew
  refine s_iconst (dt_M_startAnew 0 _ _ _ rfl) rfl ?_
  refine s_istore_n (dt_M_startAnew 1 _ _ _ rfl) rfl ?_
  refine s_bd (κ := (fun (e3 : KM) => kC 22 [some (VR (some 382)), none] [] S e3)) (s_mask [true, true] (s_while (c := fun s1 => kC 2 [some (VR (some 382)), some (VI s1.1)] [] S s1.2) (fun s1 => ?_) ((0 : Int), M))) ?_
  · refine s_iload_n (dt_M_startAnew 2 _ _ _ rfl) rfl ?_
    refine s_sipush (dt_M_startAnew 3 _ _ _ rfl) rfl ?_
    refine s_if_icmp_ge (tgt := 22) (dt_M_startAnew 4 _ _ _ rfl) rfl ?_ ?_
    · refine s_aload_n (dt_M_startAnew 5 _ _ _ rfl) rfl ?_
      refine s_getR (c := 1) (j := 46) (o := (some 411)) (dt_M_startAnew 6 _ _ _ rfl) (kf_M_101) (sc_382 hS) rfl rfl ?_
      refine s_iload_n (dt_M_startAnew 7 _ _ _ rfl) rfl ?_
      refine s_iconst (dt_M_startAnew 8 _ _ _ rfl) rfl ?_
      refine s_iast (N := 171) (dt_M_startAnew 9 _ _ _ rfl) (sc_411 hS) rfl ?_
      refine s_letM (fun M2 => ?_)
      refine s_iinc (dt_M_startAnew 10 _ _ _ rfl) rfl rfl ?_
      refine s_goto (tgt := 2) (dt_M_startAnew 11 _ _ _ rfl) rfl ?_
      exact s_mask [true, true] (s_ret0 rfl)
    · exact s_mask [true, false] (s_ret0 rfl)
  intro e3
  refine s_iconst (dt_M_startAnew 12 _ _ _ rfl) rfl ?_
  refine s_istore_n (dt_M_startAnew 13 _ _ _ rfl) rfl ?_
  refine s_bd (κ := (fun (e8 : KM) => kC 83 [some (VR (some 382)), none] [] S e8)) (s_mask [true, true] (s_while (c := fun s4 => kC 24 [some (VR (some 382)), some (VI s4.1)] [] S s4.2) (fun s4 => ?_) ((0 : Int), e3))) ?_
  · refine s_iload_n (dt_M_startAnew 14 _ _ _ rfl) rfl ?_
    refine s_aload_n (dt_M_startAnew 15 _ _ _ rfl) rfl ?_
    refine s_callO (y := y_M_many) (Y' := Y_M_many) (as := [VR (some 382)]) (r := fun q => some (VI q)) (M' := fun q => s4.2) (kInvV (dt_M_startAnew 16 _ _ _ rfl) kin_M_many 1 rfl (sc_382 hS) kse_M_many rfl) kl_M_385 md_M_many rfl rfl (fun q hq => c_M_many hS s4.2 q hq) (fun q5 => ?_)
    refine s_if_icmp_ge (tgt := 83) (dt_M_startAnew 17 _ _ _ rfl) rfl ?_ ?_
    · refine s_aload_n (dt_M_startAnew 18 _ _ _ rfl) rfl ?_
      refine s_getR (c := 1) (j := 46) (o := (some 411)) (dt_M_startAnew 19 _ _ _ rfl) (kf_M_101) (sc_382 hS) rfl rfl ?_
      refine s_iconst (dt_M_startAnew 20 _ _ _ rfl) rfl ?_
      refine s_iload_n (dt_M_startAnew 21 _ _ _ rfl) rfl ?_
      refine s_iadd (dt_M_startAnew 22 _ _ _ rfl) ?_
      refine s_aload_n (dt_M_startAnew 23 _ _ _ rfl) rfl ?_
      refine s_getR (c := 1) (j := 19) (o := (some 393)) (dt_M_startAnew 24 _ _ _ rfl) (kf_M_45) (sc_382 hS) rfl rfl ?_
      refine s_bipush (dt_M_startAnew 25 _ _ _ rfl) rfl ?_
      refine s_aload_n (dt_M_startAnew 26 _ _ _ rfl) rfl ?_
      refine s_getI (c := 1) (j := 37) (dt_M_startAnew 27 _ _ _ rfl) (kf_M_288) (sc_382 hS) rfl ?_
      refine s_imul (dt_M_startAnew 28 _ _ _ rfl) ?_
      refine s_iload_n (dt_M_startAnew 29 _ _ _ rfl) rfl ?_
      refine s_iadd (dt_M_startAnew 30 _ _ _ rfl) ?_
      refine s_iald (N := 16) (dt_M_startAnew 31 _ _ _ rfl) (sc_393 hS) rfl ?_
      refine s_iast (N := 171) (dt_M_startAnew 32 _ _ _ rfl) (sc_411 hS) rfl ?_
      refine s_letM (fun M6 => ?_)
      refine s_aload_n (dt_M_startAnew 33 _ _ _ rfl) rfl ?_
      refine s_getR (c := 1) (j := 46) (o := (some 411)) (dt_M_startAnew 34 _ _ _ rfl) (kf_M_101) (sc_382 hS) rfl rfl ?_
      refine s_bipush (dt_M_startAnew 35 _ _ _ rfl) rfl ?_
      refine s_iload_n (dt_M_startAnew 36 _ _ _ rfl) rfl ?_
      refine s_iadd (dt_M_startAnew 37 _ _ _ rfl) ?_
      refine s_aload_n (dt_M_startAnew 38 _ _ _ rfl) rfl ?_
      refine s_getR (c := 1) (j := 20) (o := (some 394)) (dt_M_startAnew 39 _ _ _ rfl) (kf_M_48) (sc_382 hS) rfl rfl ?_
      refine s_bipush (dt_M_startAnew 40 _ _ _ rfl) rfl ?_
      refine s_aload_n (dt_M_startAnew 41 _ _ _ rfl) rfl ?_
      refine s_getI (c := 1) (j := 37) (dt_M_startAnew 42 _ _ _ rfl) (kf_M_288) (sc_382 hS) rfl ?_
      refine s_imul (dt_M_startAnew 43 _ _ _ rfl) ?_
      refine s_iload_n (dt_M_startAnew 44 _ _ _ rfl) rfl ?_
      refine s_iadd (dt_M_startAnew 45 _ _ _ rfl) ?_
      refine s_iald (N := 16) (dt_M_startAnew 46 _ _ _ rfl) (sc_394 hS) rfl ?_
      refine s_iast (N := 171) (dt_M_startAnew 47 _ _ _ rfl) (sc_411 hS) rfl ?_
      refine s_letM (fun M7 => ?_)
      refine s_iinc (dt_M_startAnew 48 _ _ _ rfl) rfl rfl ?_
      refine s_goto (tgt := 24) (dt_M_startAnew 49 _ _ _ rfl) rfl ?_
      exact s_mask [true, true] (s_ret0 rfl)
    · exact s_mask [true, false] (s_ret0 rfl)
  intro e8
  refine s_aload_n (dt_M_startAnew 50 _ _ _ rfl) rfl ?_
  refine s_getR (c := 1) (j := 46) (o := (some 411)) (dt_M_startAnew 51 _ _ _ rfl) (kf_M_101) (sc_382 hS) rfl rfl ?_
  refine s_bipush (dt_M_startAnew 52 _ _ _ rfl) rfl ?_
  refine s_iconst (dt_M_startAnew 53 _ _ _ rfl) rfl ?_
  refine s_aload_n (dt_M_startAnew 54 _ _ _ rfl) rfl ?_
  refine s_callO (y := y_M_many) (Y' := Y_M_many) (as := [VR (some 382)]) (r := fun q => some (VI q)) (M' := fun q => e8) (kInvV (dt_M_startAnew 55 _ _ _ rfl) kin_M_many 1 rfl (sc_382 hS) kse_M_many rfl) kl_M_385 md_M_many rfl rfl (fun q hq => c_M_many hS e8 q hq) (fun q9 => ?_)
  refine s_ishl (dt_M_startAnew 56 _ _ _ rfl) ?_
  refine s_iconst (dt_M_startAnew 57 _ _ _ rfl) rfl ?_
  refine s_isub (dt_M_startAnew 58 _ _ _ rfl) ?_
  refine s_iast (N := 171) (dt_M_startAnew 59 _ _ _ rfl) (sc_411 hS) rfl ?_
  refine s_letM (fun M10 => ?_)
  refine s_aload_n (dt_M_startAnew 60 _ _ _ rfl) rfl ?_
  refine s_getR (c := 1) (j := 46) (o := (some 411)) (dt_M_startAnew 61 _ _ _ rfl) (kf_M_101) (sc_382 hS) rfl rfl ?_
  refine s_bipush (dt_M_startAnew 62 _ _ _ rfl) rfl ?_
  refine s_aload_n (dt_M_startAnew 63 _ _ _ rfl) rfl ?_
  refine s_getR (c := 1) (j := 15) (o := (some 389)) (dt_M_startAnew 64 _ _ _ rfl) (kf_M_33) (sc_382 hS) rfl rfl ?_
  refine s_aload_n (dt_M_startAnew 65 _ _ _ rfl) rfl ?_
  refine s_getI (c := 1) (j := 37) (dt_M_startAnew 66 _ _ _ rfl) (kf_M_288) (sc_382 hS) rfl ?_
  refine s_iald (N := 2) (dt_M_startAnew 67 _ _ _ rfl) (sc_389 hS) rfl ?_
  refine s_iast (N := 171) (dt_M_startAnew 68 _ _ _ rfl) (sc_411 hS) rfl ?_
  refine s_letM (fun M11 => ?_)
  refine s_iconst (dt_M_startAnew 69 _ _ _ rfl) rfl ?_
  refine s_istore_n (dt_M_startAnew 70 _ _ _ rfl) rfl ?_
  refine s_bd (κ := (fun (e14 : KM) => kC 135 [some (VR (some 382)), none] [] S e14)) (s_mask [true, true] (s_while (c := fun s12 => kC 116 [some (VR (some 382)), some (VI s12.1)] [] S s12.2) (fun s12 => ?_) ((0 : Int), M11))) ?_
  · refine s_iload_n (dt_M_startAnew 71 _ _ _ rfl) rfl ?_
    refine s_bipush (dt_M_startAnew 72 _ _ _ rfl) rfl ?_
    refine s_if_icmp_ge (tgt := 135) (dt_M_startAnew 73 _ _ _ rfl) rfl ?_ ?_
    · refine s_aload_n (dt_M_startAnew 74 _ _ _ rfl) rfl ?_
      refine s_getR (c := 1) (j := 51) (o := (some 414)) (dt_M_startAnew 75 _ _ _ rfl) (kf_M_110) (sc_382 hS) rfl rfl ?_
      refine s_iload_n (dt_M_startAnew 76 _ _ _ rfl) rfl ?_
      refine s_iconst (dt_M_startAnew 77 _ _ _ rfl) rfl ?_
      refine s_iast (N := 8) (dt_M_startAnew 78 _ _ _ rfl) (sc_414 hS) rfl ?_
      refine s_letM (fun M13 => ?_)
      refine s_iinc (dt_M_startAnew 79 _ _ _ rfl) rfl rfl ?_
      refine s_goto (tgt := 116) (dt_M_startAnew 80 _ _ _ rfl) rfl ?_
      exact s_mask [true, true] (s_ret0 rfl)
    · exact s_mask [true, false] (s_ret0 rfl)
  intro e14
  refine s_aload_n (dt_M_startAnew 81 _ _ _ rfl) rfl ?_
  refine s_iconst (dt_M_startAnew 82 _ _ _ rfl) rfl ?_
  refine s_putI (c := 1) (j := 48) (dt_M_startAnew 83 _ _ _ rfl) kp_M_392 (sc_382 hS) ⟨rfl, rfl⟩ ?_
  refine s_letM (fun M15 => ?_)
  refine s_aload_n (dt_M_startAnew 84 _ _ _ rfl) rfl ?_
  refine s_iconst (dt_M_startAnew 85 _ _ _ rfl) rfl ?_
  refine s_putI (c := 1) (j := 49) (dt_M_startAnew 86 _ _ _ rfl) kp_M_395 (sc_382 hS) ⟨rfl, rfl⟩ ?_
  refine s_letM (fun M16 => ?_)
  refine s_aload_n (dt_M_startAnew 87 _ _ _ rfl) rfl ?_
  refine s_iconst (dt_M_startAnew 88 _ _ _ rfl) rfl ?_
  refine s_putI (c := 1) (j := 71) (dt_M_startAnew 89 _ _ _ rfl) kp_M_398 (sc_382 hS) ⟨rfl, rfl⟩ ?_
  refine s_letM (fun M17 => ?_)
  refine s_aload_n (dt_M_startAnew 90 _ _ _ rfl) rfl ?_
  refine s_iconst (dt_M_startAnew 91 _ _ _ rfl) rfl ?_
  refine s_putI (c := 1) (j := 63) (dt_M_startAnew 92 _ _ _ rfl) kp_M_401 (sc_382 hS) ⟨rfl, rfl⟩ ?_
  refine s_letM (fun M18 => ?_)
  refine s_iconst (dt_M_startAnew 93 _ _ _ rfl) rfl ?_
  refine s_istore_n (dt_M_startAnew 94 _ _ _ rfl) rfl ?_
  refine s_bd (κ := (fun (e21 : KM) => kC 175 [none, none] [] S e21)) (s_mask [true, true] (s_while (c := fun s19 => kC 157 [some (VR (some 382)), some (VI s19.1)] [] S s19.2) (fun s19 => ?_) ((0 : Int), M18))) ?_
  · refine s_iload_n (dt_M_startAnew 95 _ _ _ rfl) rfl ?_
    refine s_iconst (dt_M_startAnew 96 _ _ _ rfl) rfl ?_
    refine s_if_icmp_ge (tgt := 175) (dt_M_startAnew 97 _ _ _ rfl) rfl ?_ ?_
    · refine s_aload_n (dt_M_startAnew 98 _ _ _ rfl) rfl ?_
      refine s_getR (c := 1) (j := 77) (o := (some 434)) (dt_M_startAnew 99 _ _ _ rfl) (kf_M_173) (sc_382 hS) rfl rfl ?_
      refine s_iload_n (dt_M_startAnew 100 _ _ _ rfl) rfl ?_
      refine s_iconst (dt_M_startAnew 101 _ _ _ rfl) rfl ?_
      refine s_zast (N := 3) (dt_M_startAnew 102 _ _ _ rfl) (sc_434 hS) rfl ?_
      refine s_letM (fun M20 => ?_)
      refine s_iinc (dt_M_startAnew 103 _ _ _ rfl) rfl rfl ?_
      refine s_goto (tgt := 157) (dt_M_startAnew 104 _ _ _ rfl) rfl ?_
      exact s_mask [true, true] (s_ret0 rfl)
    · exact s_mask [false, false] (s_ret0 rfl)
  intro e21
  exact s_vret (dt_M_startAnew 105 _ _ _ rfl) rfl rfl
theorem c_M_startAnew {S : KS} (hS : KExt 435 S)   (M : KM) : ∀ q, f_M_startAnew  M = some q → Ctr y_M_startAnew Y_M_startAnew [VR (some 382)] S M (none) S (q) := fun q hq =>
  ctr_of md_M_startAnew (Nat.le_of_ble_eq_true rfl) ⟨Nat.le_refl _, Nat.le_refl _⟩ 1 hq rfl (fun _ G => sim_M_startAnew hS   M)
set_option maxRecDepth 100000 in
theorem sim_M_town {G : Gam} {S : KS} (hS : KExt 435 S)   (M : KM) : Sim G Y_M_town (f_M_town  M) (kC 0 [some (VR (some 382)), none] [] S M) (fun (q : Int × KM) => Sum.inr (some (VI q.1), S, q.2)) := by
  unfold f_M_town
  refine s_aload_n (dt_M_town 0 _ _ _ rfl) rfl ?_
  refine s_iconst (dt_M_town 1 _ _ _ rfl) rfl ?_
  refine s_putI (c := 1) (j := 4) (dt_M_town 2 _ _ _ rfl) kp_M_185 (sc_382 hS) ⟨rfl, rfl⟩ ?_
  refine s_letM (fun M1 => ?_)
  refine s_aload_n (dt_M_town 3 _ _ _ rfl) rfl ?_
  refine s_iconst (dt_M_town 4 _ _ _ rfl) rfl ?_
  refine s_putI (c := 1) (j := 5) (dt_M_town 5 _ _ _ rfl) kp_M_16 (sc_382 hS) ⟨rfl, rfl⟩ ?_
  refine s_letM (fun M2 => ?_)
  refine s_aload_n (dt_M_town 6 _ _ _ rfl) rfl ?_
  refine s_aload_n (dt_M_town 7 _ _ _ rfl) rfl ?_
  refine s_getI (c := 1) (j := 2) (dt_M_town 8 _ _ _ rfl) (kf_M_285) (sc_382 hS) rfl ?_
  refine s_putI (c := 1) (j := 3) (dt_M_town 9 _ _ _ rfl) kp_M_182 (sc_382 hS) ⟨rfl, rfl⟩ ?_
  refine s_letM (fun M3 => ?_)
  refine s_iconst (dt_M_town 10 _ _ _ rfl) rfl ?_
  refine s_istore_n (dt_M_town 11 _ _ _ rfl) rfl ?_
  refine s_bd (κ := (fun (e6 : KM) => kC 46 [some (VR (some 382)), none] [] S e6)) (s_mask [true, true] (s_while (c := fun s4 => kC 20 [some (VR (some 382)), some (VI s4.1)] [] S s4.2) (fun s4 => ?_) ((0 : Int), M3))) ?_
  · refine s_iload_n (dt_M_town 12 _ _ _ rfl) rfl ?_
    refine s_aload_n (dt_M_town 13 _ _ _ rfl) rfl ?_
    refine s_getI (c := 1) (j := 3) (dt_M_town 14 _ _ _ rfl) (kf_M_182) (sc_382 hS) rfl ?_
    refine s_if_icmp_ge (tgt := 46) (dt_M_town 15 _ _ _ rfl) rfl ?_ ?_
    · refine s_aload_n (dt_M_town 16 _ _ _ rfl) rfl ?_
      refine s_getR (c := 1) (j := 1) (o := (some 384)) (dt_M_town 17 _ _ _ rfl) (kf_M_13) (sc_382 hS) rfl rfl ?_
      refine s_iload_n (dt_M_town 18 _ _ _ rfl) rfl ?_
      refine s_aload_n (dt_M_town 19 _ _ _ rfl) rfl ?_
      refine s_getR (c := 1) (j := 0) (o := (some 383)) (dt_M_town 20 _ _ _ rfl) (kf_M_7) (sc_382 hS) rfl rfl ?_
      refine s_iload_n (dt_M_town 21 _ _ _ rfl) rfl ?_
      refine s_bald (N := 1620) (dt_M_town 22 _ _ _ rfl) (sc_383 hS) rfl ?_
      refine s_bast (N := 1600) (dt_M_town 23 _ _ _ rfl) (sc_384 hS) rfl ?_
      refine s_letM (fun M5 => ?_)
      refine s_iinc (dt_M_town 24 _ _ _ rfl) rfl rfl ?_
      refine s_goto (tgt := 20) (dt_M_town 25 _ _ _ rfl) rfl ?_
      exact s_mask [true, true] (s_ret0 rfl)
    · exact s_mask [true, false] (s_ret0 rfl)
  intro e6
  refine s_aload_n (dt_M_town 26 _ _ _ rfl) rfl ?_
  refine s_iconst (dt_M_town 27 _ _ _ rfl) rfl ?_
  refine s_putI (c := 1) (j := 2) (dt_M_town 28 _ _ _ rfl) kp_M_285 (sc_382 hS) ⟨rfl, rfl⟩ ?_
  refine s_letM (fun M7 => ?_)
  refine s_aload_n (dt_M_town 29 _ _ _ rfl) rfl ?_
  refine s_iconst (dt_M_town 30 _ _ _ rfl) rfl ?_
  refine s_putI (c := 1) (j := 7) (dt_M_town 31 _ _ _ rfl) kp_M_220 (sc_382 hS) ⟨rfl, rfl⟩ ?_
  refine s_letM (fun M8 => ?_)
  refine s_aload_n (dt_M_town 32 _ _ _ rfl) rfl ?_
  refine s_iconst (dt_M_town 33 _ _ _ rfl) rfl ?_
  refine s_aload_n (dt_M_town 34 _ _ _ rfl) rfl ?_
  refine s_getI (c := 1) (j := 37) (dt_M_town 35 _ _ _ rfl) (kf_M_288) (sc_382 hS) rfl ?_
  refine s_isub (dt_M_town 36 _ _ _ rfl) ?_
  refine s_putI (c := 1) (j := 38) (dt_M_town 37 _ _ _ rfl) kp_M_279 (sc_382 hS) ⟨rfl, rfl⟩ ?_
  refine s_letM (fun M9 => ?_)
  refine s_aload_n (dt_M_town 38 _ _ _ rfl) rfl ?_
  refine s_callO (y := y_M_clearBank) (Y' := Y_M_clearBank) (as := [VR (some 382)]) (r := fun q => none) (M' := fun q => q) (kInvV (dt_M_town 39 _ _ _ rfl) kin_M_clearBank 1 rfl (sc_382 hS) kse_M_clearBank rfl) kl_M_176 md_M_clearBank rfl rfl (fun q hq => c_M_clearBank hS M9 q hq) (fun q10 => ?_)
  refine s_aload_n (dt_M_town 40 _ _ _ rfl) rfl ?_
  refine s_callO (y := y_M_goOn) (Y' := Y_M_goOn) (as := [VR (some 382)]) (r := fun q => none) (M' := fun q => q) (kInvV (dt_M_town 41 _ _ _ rfl) kin_M_goOn 1 rfl (sc_382 hS) kse_M_goOn rfl) kl_M_262 md_M_goOn rfl rfl (fun q hq => c_M_goOn hS q10 q hq) (fun q11 => ?_)
  refine s_bd (κ := (fun (e15 : KM) => kC 95 [some (VR (some 382)), none] [] S e15)) (s_mask [true, false] (s_while (c := fun s12 => kC 74 [some (VR (some 382)), none] [] S s12) (fun s12 => ?_) q11)) ?_
  · refine s_aload_n (dt_M_town 42 _ _ _ rfl) rfl ?_
    refine s_callO (y := y_M_isGood) (Y' := Y_M_isGood) (as := [VR (some 382)]) (r := fun q => some (VI q)) (M' := fun q => s12) (kInvV (dt_M_town 43 _ _ _ rfl) kin_M_isGood 1 rfl (sc_382 hS) kse_M_isGood rfl) kl_M_258 md_M_isGood rfl rfl (fun q hq => c_M_isGood hS s12 q hq) (fun q13 => ?_)
    refine s_if_eq (tgt := 95) (dt_M_town 44 _ _ _ rfl) rfl ?_ ?_
    · exact s_mask [true, false] (s_ret0 rfl)
    · refine s_aload_n (dt_M_town 45 _ _ _ rfl) rfl ?_
      refine s_getI (c := 1) (j := 8) (dt_M_town 46 _ _ _ rfl) (kf_M_230) (sc_382 hS) rfl ?_
      refine s_if_eq (tgt := 95) (dt_M_town 47 _ _ _ rfl) rfl ?_ ?_
      · exact s_mask [true, false] (s_ret0 rfl)
      · refine s_aload_n (dt_M_town 48 _ _ _ rfl) rfl ?_
        refine s_callO (y := y_M_readLine) (Y' := Y_M_readLine) (as := [VR (some 382)]) (r := fun q => none) (M' := fun q => q) (kInvV (dt_M_town 49 _ _ _ rfl) kin_M_readLine 1 rfl (sc_382 hS) kse_M_readLine rfl) kl_M_291 md_M_readLine rfl rfl (fun q hq => c_M_readLine hS s12 q hq) (fun q14 => ?_)
        refine s_goto (tgt := 74) (dt_M_town 50 _ _ _ rfl) rfl ?_
        exact s_mask [true, false] (s_ret0 rfl)
  intro e15
  refine s_aload_n (dt_M_town 51 _ _ _ rfl) rfl ?_
  refine s_callO (y := y_M_isGood) (Y' := Y_M_isGood) (as := [VR (some 382)]) (r := fun q => some (VI q)) (M' := fun q => e15) (kInvV (dt_M_town 52 _ _ _ rfl) kin_M_isGood 1 rfl (sc_382 hS) kse_M_isGood rfl) kl_M_258 md_M_isGood rfl rfl (fun q hq => c_M_isGood hS e15 q hq) (fun q16 => ?_)
  refine s_if_ne (tgt := 104) (dt_M_town 53 _ _ _ rfl) rfl ?_ ?_
  · refine s_iconst (dt_M_town 54 _ _ _ rfl) rfl ?_
    exact s_iret (dt_M_town 55 _ _ _ rfl) rfl rfl
  · refine s_aload_n (dt_M_town 56 _ _ _ rfl) rfl ?_
    refine s_aload_n (dt_M_town 57 _ _ _ rfl) rfl ?_
    refine s_getI (c := 1) (j := 38) (dt_M_town 58 _ _ _ rfl) (kf_M_279) (sc_382 hS) rfl ?_
    refine s_putI (c := 1) (j := 37) (dt_M_town 59 _ _ _ rfl) kp_M_288 (sc_382 hS) ⟨rfl, rfl⟩ ?_
    refine s_letM (fun M17 => ?_)
    refine s_aload_n (dt_M_town 60 _ _ _ rfl) rfl ?_
    refine s_callO (y := y_M_startAnew) (Y' := Y_M_startAnew) (as := [VR (some 382)]) (r := fun q => none) (M' := fun q => q) (kInvV (dt_M_town 61 _ _ _ rfl) kin_M_startAnew 1 rfl (sc_382 hS) kse_M_startAnew rfl) kl_M_179 md_M_startAnew rfl rfl (fun q hq => c_M_startAnew hS M17 q hq) (fun q18 => ?_)
    refine s_aload_n (dt_M_town 62 _ _ _ rfl) rfl ?_
    refine s_getR (c := 1) (j := 11) (o := (some 385)) (dt_M_town 63 _ _ _ rfl) (kf_M_20) (sc_382 hS) rfl rfl ?_
    refine s_aload_n (dt_M_town 64 _ _ _ rfl) rfl ?_
    refine s_getI (c := 1) (j := 37) (dt_M_town 65 _ _ _ rfl) (kf_M_288) (sc_382 hS) rfl ?_
    refine s_iald (N := 2) (dt_M_town 66 _ _ _ rfl) (sc_385 hS) rfl ?_
    exact s_iret (dt_M_town 67 _ _ _ rfl) rfl rfl
theorem c_M_town {S : KS} (hS : KExt 435 S)   (M : KM) : ∀ q, f_M_town  M = some q → Ctr y_M_town Y_M_town [VR (some 382)] S M (some (VI q.1)) S (q.2) := fun q hq =>
  ctr_of md_M_town (Nat.le_of_ble_eq_true rfl) ⟨Nat.le_refl _, Nat.le_refl _⟩ 1 hq rfl (fun _ G => sim_M_town hS   M)
set_option maxRecDepth 100000 in
theorem sim_M_fault {G : Gam} {S : KS} (hS : KExt 435 S)  (a0 : Int) (M : KM) : Sim G Y_M_fault (f_M_fault a0 M) (kC 0 [some (VR (some 382)), some (VI a0)] [] S M) (fun (q : Int) => Sum.inr (some (VI q), S, M)) := by
  unfold f_M_fault
  refine s_iload_n (dt_M_fault 0 _ _ _ rfl) rfl ?_
  refine s_bd (κ := fun t1 => kC 24 [none, none] [VI t1] S M) ?_ (fun t1 => ?_)
  · refine s_if_ne (tgt := 11) (dt_M_fault 1 _ _ _ rfl) rfl ?_ ?_
    · refine s_aload_n (dt_M_fault 2 _ _ _ rfl) rfl ?_
      refine s_getI (c := 1) (j := 4) (dt_M_fault 3 _ _ _ rfl) (kf_M_185) (sc_382 hS) rfl ?_
      refine s_goto (tgt := 24) (dt_M_fault 4 _ _ _ rfl) rfl ?_
      exact s_mask [false, false] (s_ret0 rfl)
    · refine s_iload_n (dt_M_fault 5 _ _ _ rfl) rfl ?_
      refine s_iconst (dt_M_fault 6 _ _ _ rfl) rfl ?_
      refine s_if_icmp_ne (tgt := 23) (dt_M_fault 7 _ _ _ rfl) rfl ?_ ?_
      · refine s_aload_n (dt_M_fault 8 _ _ _ rfl) rfl ?_
        refine s_getI (c := 1) (j := 5) (dt_M_fault 9 _ _ _ rfl) (kf_M_16) (sc_382 hS) rfl ?_
        refine s_goto (tgt := 24) (dt_M_fault 10 _ _ _ rfl) rfl ?_
        exact s_mask [false, false] (s_ret0 rfl)
      · refine s_iconst (dt_M_fault 11 _ _ _ rfl) rfl ?_
        exact s_mask [false, false] (s_ret0 rfl)
  exact s_iret (dt_M_fault 12 _ _ _ rfl) rfl rfl
theorem c_M_fault {S : KS} (hS : KExt 435 S)  (a0 : Int) (M : KM) : ∀ q, f_M_fault a0 M = some q → Ctr y_M_fault Y_M_fault [VR (some 382), VI a0] S M (some (VI q)) S (M) := fun q hq =>
  ctr_of md_M_fault (Nat.le_of_ble_eq_true rfl) ⟨Nat.le_refl _, Nat.le_refl _⟩ 0 hq rfl (fun _ G => sim_M_fault hS  a0 M)
set_option maxRecDepth 100000 in
theorem sim_M_isAlive {G : Gam} {S : KS} (hS : KExt 435 S)  (a0 : Int) (M : KM) : Sim G Y_M_isAlive (f_M_isAlive a0 M) (kC 0 [some (VR (some 382)), some (VI a0)] [] S M) (fun (q : Int) => Sum.inr (some (VI q), S, M)) := by
  unfold f_M_isAlive
  refine s_aload_n (dt_M_isAlive 0 _ _ _ rfl) rfl ?_
  refine s_getR (c := 1) (j := 46) (o := (some 411)) (dt_M_isAlive 1 _ _ _ rfl) (kf_M_101) (sc_382 hS) rfl rfl ?_
  refine s_bipush (dt_M_isAlive 2 _ _ _ rfl) rfl ?_
  refine s_iald (N := 171) (dt_M_isAlive 3 _ _ _ rfl) (sc_411 hS) rfl ?_
  refine s_iload_n (dt_M_isAlive 4 _ _ _ rfl) rfl ?_
  refine s_ishr (dt_M_isAlive 5 _ _ _ rfl) ?_
  refine s_iconst (dt_M_isAlive 6 _ _ _ rfl) rfl ?_
  refine s_iand (dt_M_isAlive 7 _ _ _ rfl) ?_
  refine s_iconst (dt_M_isAlive 8 _ _ _ rfl) rfl ?_
  refine s_bd (κ := fun t1 => kC 20 [none, none] [VI t1] S M) ?_ (fun t1 => ?_)
  · refine s_if_icmp_ne (tgt := 19) (dt_M_isAlive 9 _ _ _ rfl) rfl ?_ ?_
    · refine s_iconst (dt_M_isAlive 10 _ _ _ rfl) rfl ?_
      refine s_goto (tgt := 20) (dt_M_isAlive 11 _ _ _ rfl) rfl ?_
      exact s_mask [false, false] (s_ret0 rfl)
    · refine s_iconst (dt_M_isAlive 12 _ _ _ rfl) rfl ?_
      exact s_mask [false, false] (s_ret0 rfl)
  exact s_zret (dt_M_isAlive 13 _ _ _ rfl) rfl rfl
theorem c_M_isAlive {S : KS} (hS : KExt 435 S)  (a0 : Int) (M : KM) : ∀ q, f_M_isAlive a0 M = some q → Ctr y_M_isAlive Y_M_isAlive [VR (some 382), VI a0] S M (some (VI q)) S (M) := fun q hq =>
  ctr_of md_M_isAlive (Nat.le_of_ble_eq_true rfl) ⟨Nat.le_refl _, Nat.le_refl _⟩ 0 hq rfl (fun _ G => sim_M_isAlive hS  a0 M)
set_option maxRecDepth 100000 in
theorem sim_M_isIn {G : Gam} {S : KS} (hS : KExt 435 S)  (a0 : Int) (a1 : Int) (a2 : Int) (M : KM) : Sim G Y_M_isIn (f_M_isIn a0 a1 a2 M) (kC 0 [some (VI a0), some (VI a1), some (VI a2)] [] S M) (fun (q : Int) => Sum.inr (some (VI q), S, M)) := by
  unfold f_M_isIn
  refine s_iload_n (dt_M_isIn 0 _ _ _ rfl) rfl ?_
  refine s_iload_n (dt_M_isIn 1 _ _ _ rfl) rfl ?_
  refine s_bd (κ := fun t1 => kC 15 [none, none, none] [VI t1] S M) ?_ (fun t1 => ?_)
  · refine s_if_icmp_lt (tgt := 14) (dt_M_isIn 2 _ _ _ rfl) rfl ?_ ?_
    · refine s_iconst (dt_M_isIn 8 _ _ _ rfl) rfl ?_
      exact s_mask [false, false, false] (s_ret0 rfl)
    · refine s_iload_n (dt_M_isIn 3 _ _ _ rfl) rfl ?_
      refine s_iload_n (dt_M_isIn 4 _ _ _ rfl) rfl ?_
      refine s_if_icmp_gt (tgt := 14) (dt_M_isIn 5 _ _ _ rfl) rfl ?_ ?_
      · refine s_iconst (dt_M_isIn 6 _ _ _ rfl) rfl ?_
        refine s_goto (tgt := 15) (dt_M_isIn 7 _ _ _ rfl) rfl ?_
        exact s_mask [false, false, false] (s_ret0 rfl)
      · refine s_iconst (dt_M_isIn 8 _ _ _ rfl) rfl ?_
        exact s_mask [false, false, false] (s_ret0 rfl)
  exact s_zret (dt_M_isIn 9 _ _ _ rfl) rfl rfl
theorem c_M_isIn {S : KS} (hS : KExt 435 S)  (a0 : Int) (a1 : Int) (a2 : Int) (M : KM) : ∀ q, f_M_isIn a0 a1 a2 M = some q → Ctr y_M_isIn Y_M_isIn [VI a0, VI a1, VI a2] S M (some (VI q)) S (M) := fun q hq =>
  ctr_of md_M_isIn (Nat.le_of_ble_eq_true rfl) ⟨Nat.le_refl _, Nat.le_refl _⟩ 0 hq rfl (fun _ G => sim_M_isIn hS  a0 a1 a2 M)
set_option maxRecDepth 100000 in
theorem sim_M_isPerson {G : Gam} {S : KS} (hS : KExt 435 S)  (a0 : Int) (M : KM) : Sim G Y_M_isPerson (f_M_isPerson a0 M) (kC 0 [some (VR (some 382)), some (VI a0)] [] S M) (fun (q : Int) => Sum.inr (some (VI q), S, M)) := by
  unfold f_M_isPerson
  refine s_iload_n (dt_M_isPerson 0 _ _ _ rfl) rfl ?_
  refine s_iconst (dt_M_isPerson 1 _ _ _ rfl) rfl ?_
  refine s_aload_n (dt_M_isPerson 2 _ _ _ rfl) rfl ?_
  refine s_callO (y := y_M_many) (Y' := Y_M_many) (as := [VR (some 382)]) (r := fun q => some (VI q)) (M' := fun q => M) (kInvV (dt_M_isPerson 3 _ _ _ rfl) kin_M_many 1 rfl (sc_382 hS) kse_M_many rfl) kl_M_385 md_M_many rfl rfl (fun q hq => c_M_many hS M q hq) (fun q1 => ?_)
  refine s_iconst (dt_M_isPerson 4 _ _ _ rfl) rfl ?_
  refine s_isub (dt_M_isPerson 5 _ _ _ rfl) ?_
  refine s_callO (y := y_M_isIn) (Y' := Y_M_isIn) (as := [VI a0, VI (0 : Int), VI (w32 (q1 - (1 : Int)))]) (r := fun q => some (VI q)) (M' := fun q => M) (kInvS (dt_M_isPerson 6 _ _ _ rfl) kst_M_isIn rfl) kl_M_388 md_M_isIn rfl rfl (fun q hq => c_M_isIn hS a0 (0 : Int) (w32 (q1 - (1 : Int))) M q hq) (fun q2 => ?_)
  exact s_zret (dt_M_isPerson 7 _ _ _ rfl) rfl rfl
theorem c_M_isPerson {S : KS} (hS : KExt 435 S)  (a0 : Int) (M : KM) : ∀ q, f_M_isPerson a0 M = some q → Ctr y_M_isPerson Y_M_isPerson [VR (some 382), VI a0] S M (some (VI q)) S (M) := fun q hq =>
  ctr_of md_M_isPerson (Nat.le_of_ble_eq_true rfl) ⟨Nat.le_refl _, Nat.le_refl _⟩ 0 hq rfl (fun _ G => sim_M_isPerson hS  a0 M)
set_option maxRecDepth 100000 in
theorem sim_M_person {G : Gam} {S : KS} (hS : KExt 435 S)  (a0 : Int) (a1 : Int) (M : KM) : Sim G Y_M_person (f_M_person a0 a1 M) (kC 0 [some (VR (some 382)), some (VI a0), some (VI a1)] [] S M) (fun (q : Int) => Sum.inr (some (VI q), S, M)) := by
  unfold f_M_person
  refine s_aload_n (dt_M_person 0 _ _ _ rfl) rfl ?_
  refine s_iload_n (dt_M_person 1 _ _ _ rfl) rfl ?_
  refine s_callO (y := y_M_isPerson) (Y' := Y_M_isPerson) (as := [VR (some 382), VI a0]) (r := fun q => some (VI q)) (M' := fun q => M) (kInvV (dt_M_person 2 _ _ _ rfl) kin_M_isPerson 1 rfl (sc_382 hS) kse_M_isPerson rfl) kl_M_413 md_M_isPerson rfl rfl (fun q hq => c_M_isPerson hS a0 M q hq) (fun q1 => ?_)
  refine s_if_ne (tgt := 10) (dt_M_person 3 _ _ _ rfl) rfl ?_ ?_
  · refine s_iconst (dt_M_person 4 _ _ _ rfl) rfl ?_
    exact s_iret (dt_M_person 5 _ _ _ rfl) rfl rfl
  · refine s_iload_n (dt_M_person 6 _ _ _ rfl) rfl ?_
    refine s_tcase (tgt := 44) (dt_M_person 7 _ _ _ rfl) rfl rfl rfl ?_ (fun h4 => ?_)
    · refine s_aload_n (dt_M_person 8 _ _ _ rfl) rfl ?_
      refine s_getR (c := 1) (j := 46) (o := (some 411)) (dt_M_person 9 _ _ _ rfl) (kf_M_101) (sc_382 hS) rfl rfl ?_
      refine s_iconst (dt_M_person 10 _ _ _ rfl) rfl ?_
      refine s_iload_n (dt_M_person 11 _ _ _ rfl) rfl ?_
      refine s_iadd (dt_M_person 12 _ _ _ rfl) ?_
      refine s_iald (N := 171) (dt_M_person 13 _ _ _ rfl) (sc_411 hS) rfl ?_
      exact s_iret (dt_M_person 14 _ _ _ rfl) rfl rfl
    refine s_tcase (tgt := 53) (dt_M_person 7 _ _ _ rfl) rfl rfl rfl ?_ (fun h5 => ?_)
    · refine s_aload_n (dt_M_person 15 _ _ _ rfl) rfl ?_
      refine s_getR (c := 1) (j := 46) (o := (some 411)) (dt_M_person 16 _ _ _ rfl) (kf_M_101) (sc_382 hS) rfl rfl ?_
      refine s_bipush (dt_M_person 17 _ _ _ rfl) rfl ?_
      refine s_iload_n (dt_M_person 18 _ _ _ rfl) rfl ?_
      refine s_iadd (dt_M_person 19 _ _ _ rfl) ?_
      refine s_iald (N := 171) (dt_M_person 20 _ _ _ rfl) (sc_411 hS) rfl ?_
      exact s_iret (dt_M_person 21 _ _ _ rfl) rfl rfl
    refine s_tcase (tgt := 63) (dt_M_person 7 _ _ _ rfl) rfl rfl rfl ?_ (fun h6 => ?_)
    · refine s_aload_n (dt_M_person 22 _ _ _ rfl) rfl ?_
      refine s_iload_n (dt_M_person 23 _ _ _ rfl) rfl ?_
      refine s_callO (y := y_M_isAlive) (Y' := Y_M_isAlive) (as := [VR (some 382), VI a0]) (r := fun q => some (VI q)) (M' := fun q => M) (kInvV (dt_M_person 24 _ _ _ rfl) kin_M_isAlive 1 rfl (sc_382 hS) kse_M_isAlive rfl) kl_M_404 md_M_isAlive rfl rfl (fun q hq => c_M_isAlive hS a0 M q hq) (fun q2 => ?_)
      refine s_bd (κ := fun t3 => kC 76 [none, none, none] [VI t3] S M) ?_ (fun t3 => ?_)
      · refine s_if_eq (tgt := 75) (dt_M_person 25 _ _ _ rfl) rfl ?_ ?_
        · refine s_iconst (dt_M_person 28 _ _ _ rfl) rfl ?_
          exact s_mask [false, false, false] (s_ret0 rfl)
        · refine s_iconst (dt_M_person 26 _ _ _ rfl) rfl ?_
          refine s_goto (tgt := 76) (dt_M_person 27 _ _ _ rfl) rfl ?_
          exact s_mask [false, false, false] (s_ret0 rfl)
      exact s_iret (dt_M_person 29 _ _ _ rfl) rfl rfl
    refine s_tcase (tgt := 77) (dt_M_person 7 _ _ _ rfl) rfl rfl rfl ?_ (fun h7 => ?_)
    · refine s_aload_n (dt_M_person 30 _ _ _ rfl) rfl ?_
      refine s_getR (c := 1) (j := 21) (o := (some 395)) (dt_M_person 31 _ _ _ rfl) (kf_M_51) (sc_382 hS) rfl rfl ?_
      refine s_bipush (dt_M_person 32 _ _ _ rfl) rfl ?_
      refine s_aload_n (dt_M_person 33 _ _ _ rfl) rfl ?_
      refine s_getI (c := 1) (j := 37) (dt_M_person 34 _ _ _ rfl) (kf_M_288) (sc_382 hS) rfl ?_
      refine s_imul (dt_M_person 35 _ _ _ rfl) ?_
      refine s_iload_n (dt_M_person 36 _ _ _ rfl) rfl ?_
      refine s_iadd (dt_M_person 37 _ _ _ rfl) ?_
      refine s_iald (N := 16) (dt_M_person 38 _ _ _ rfl) (sc_395 hS) rfl ?_
      exact s_iret (dt_M_person 39 _ _ _ rfl) rfl rfl
    refine s_tcase (tgt := 92) (dt_M_person 7 _ _ _ rfl) rfl rfl rfl ?_ (fun h8 => ?_)
    · refine s_aload_n (dt_M_person 40 _ _ _ rfl) rfl ?_
      refine s_getR (c := 1) (j := 22) (o := (some 396)) (dt_M_person 41 _ _ _ rfl) (kf_M_54) (sc_382 hS) rfl rfl ?_
      refine s_bipush (dt_M_person 42 _ _ _ rfl) rfl ?_
      refine s_aload_n (dt_M_person 43 _ _ _ rfl) rfl ?_
      refine s_getI (c := 1) (j := 37) (dt_M_person 44 _ _ _ rfl) (kf_M_288) (sc_382 hS) rfl ?_
      refine s_imul (dt_M_person 45 _ _ _ rfl) ?_
      refine s_iload_n (dt_M_person 46 _ _ _ rfl) rfl ?_
      refine s_iadd (dt_M_person 47 _ _ _ rfl) ?_
      refine s_iald (N := 16) (dt_M_person 48 _ _ _ rfl) (sc_396 hS) rfl ?_
      exact s_iret (dt_M_person 49 _ _ _ rfl) rfl rfl
    refine s_tdef (tgt := 107) (dt_M_person 7 _ _ _ rfl) (by omega) rfl ?_
    refine s_iconst (dt_M_person 50 _ _ _ rfl) rfl ?_
    exact s_iret (dt_M_person 51 _ _ _ rfl) rfl rfl
theorem c_M_person {S : KS} (hS : KExt 435 S)  (a0 : Int) (a1 : Int) (M : KM) : ∀ q, f_M_person a0 a1 M = some q → Ctr y_M_person Y_M_person [VR (some 382), VI a0, VI a1] S M (some (VI q)) S (M) := fun q hq =>
  ctr_of md_M_person (Nat.le_of_ble_eq_true rfl) ⟨Nat.le_refl _, Nat.le_refl _⟩ 0 hq rfl (fun _ G => sim_M_person hS  a0 a1 M)
set_option maxRecDepth 100000 in
theorem sim_M_asked {G : Gam} {S : KS} (hS : KExt 435 S)  (a0 : Int) (a1 : Int) (M : KM) : Sim G Y_M_asked (f_M_asked a0 a1 M) (kC 0 [some (VR (some 382)), some (VI a0), some (VI a1)] [] S M) (fun (q : Int) => Sum.inr (some (VI q), S, M)) := by
  unfold f_M_asked
  refine s_iload_n (dt_M_asked 0 _ _ _ rfl) rfl ?_
  refine s_lcase (tgt := 44) (dt_M_asked 1 _ _ _ rfl) rfl rfl rfl ?_ (fun h1 => ?_)
  · refine s_aload_n (dt_M_asked 2 _ _ _ rfl) rfl ?_
    refine s_getI (c := 1) (j := 43) (dt_M_asked 3 _ _ _ rfl) (kf_M_369) (sc_382 hS) rfl ?_
    exact s_iret (dt_M_asked 4 _ _ _ rfl) rfl rfl
  refine s_lcase (tgt := 49) (dt_M_asked 1 _ _ _ rfl) rfl rfl rfl ?_ (fun h2 => ?_)
  · refine s_aload_n (dt_M_asked 5 _ _ _ rfl) rfl ?_
    refine s_getI (c := 1) (j := 44) (dt_M_asked 6 _ _ _ rfl) (kf_M_372) (sc_382 hS) rfl ?_
    exact s_iret (dt_M_asked 7 _ _ _ rfl) rfl rfl
  refine s_lcase (tgt := 62) (dt_M_asked 1 _ _ _ rfl) rfl rfl rfl ?_ (fun h3 => ?_)
  · refine s_aload_n (dt_M_asked 13 _ _ _ rfl) rfl ?_
    refine s_getI (c := 1) (j := 45) (dt_M_asked 14 _ _ _ rfl) (kf_M_375) (sc_382 hS) rfl ?_
    exact s_iret (dt_M_asked 15 _ _ _ rfl) rfl rfl
  refine s_lcase (tgt := 54) (dt_M_asked 1 _ _ _ rfl) rfl rfl rfl ?_ (fun h4 => ?_)
  · refine s_aload_n (dt_M_asked 8 _ _ _ rfl) rfl ?_
    refine s_getR (c := 1) (j := 46) (o := (some 411)) (dt_M_asked 9 _ _ _ rfl) (kf_M_101) (sc_382 hS) rfl rfl ?_
    refine s_bipush (dt_M_asked 10 _ _ _ rfl) rfl ?_
    refine s_iald (N := 171) (dt_M_asked 11 _ _ _ rfl) (sc_411 hS) rfl ?_
    exact s_iret (dt_M_asked 12 _ _ _ rfl) rfl rfl
  refine s_ldef (tgt := 67) (off := 66) (dt_M_asked 1 _ _ _ rfl) rfl (by show Op.lookupswitch.offset [(97, 43), (99, 48), (102, 61), (121, 53)] _ _ = _; rw [kos_ne h1, kos_ne h2, kos_ne h3, kos_ne h4]; rfl) rfl ?_
  refine s_iload_n (dt_M_asked 16 _ _ _ rfl) rfl ?_
  exact s_iret (dt_M_asked 17 _ _ _ rfl) rfl rfl
theorem c_M_asked {S : KS} (hS : KExt 435 S)  (a0 : Int) (a1 : Int) (M : KM) : ∀ q, f_M_asked a0 a1 M = some q → Ctr y_M_asked Y_M_asked [VR (some 382), VI a0, VI a1] S M (some (VI q)) S (M) := fun q hq =>
  ctr_of md_M_asked (Nat.le_of_ble_eq_true rfl) ⟨Nat.le_refl _, Nat.le_refl _⟩ 0 hq rfl (fun _ G => sim_M_asked hS  a0 a1 M)
