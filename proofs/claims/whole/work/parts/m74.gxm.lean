set_option maxRecDepth 100000 in
theorem sim_M_areSo {G : Gam} {S : KS} (hS : KExt 435 S)  (a0 : Int) (M : KM) : Sim G Y_M_areSo (f_M_areSo a0 M) (kC 0 [some (VR (some 382)), some (VI a0), none] [] S M) (fun (q : Int) => Sum.inr (some (VI q), S, M)) := by
  unfold f_M_areSo
  refine s_iconst (dt_M_areSo 0 _ _ _ rfl) rfl ?_
  refine s_istore_n (dt_M_areSo 1 _ _ _ rfl) rfl ?_
  refine s_bd (κ := (Sum.elim (fun (e3 : Unit) => kC 39 [none, none, none] [] S M) (fun (e4 : Unit) => kC 47 [none, none, none] [] S M))) (s_mask [true, true, true] (s_while (c := fun s1 => kC 2 [some (VR (some 382)), some (VI a0), some (VI s1)] [] S M) (fun s1 => ?_) (0 : Int))) ?_
  · refine s_iload_n (dt_M_areSo 2 _ _ _ rfl) rfl ?_
    refine s_aload_n (dt_M_areSo 3 _ _ _ rfl) rfl ?_
    refine s_getI (c := 1) (j := 71) (dt_M_areSo 4 _ _ _ rfl) (kf_M_398) (sc_382 hS) rfl ?_
    refine s_if_icmp_ge (tgt := 47) (dt_M_areSo 5 _ _ _ rfl) rfl ?_ ?_
    · refine s_aload_n (dt_M_areSo 6 _ _ _ rfl) rfl ?_
      refine s_iload_n (dt_M_areSo 7 _ _ _ rfl) rfl ?_
      refine s_iload_n (dt_M_areSo 8 _ _ _ rfl) rfl ?_
      refine s_callO (y := y_M_counts) (Y' := Y_M_counts) (as := [VR (some 382), VI s1, VI a0]) (r := fun q => some (VI q)) (M' := fun q => M) (kInvV (dt_M_areSo 9 _ _ _ rfl) kin_M_counts 1 rfl (sc_382 hS) kse_M_counts rfl) kl_M_516 md_M_counts rfl rfl (fun q hq => c_M_counts hS s1 a0 M q hq) (fun q2 => ?_)
      refine s_if_eq (tgt := 41) (dt_M_areSo 10 _ _ _ rfl) rfl ?_ ?_
      · refine s_iinc (dt_M_areSo 25 _ _ _ rfl) rfl rfl ?_
        refine s_goto (tgt := 2) (dt_M_areSo 26 _ _ _ rfl) rfl ?_
        exact s_mask [true, true, true] (s_ret0 rfl)
      · refine s_aload_n (dt_M_areSo 11 _ _ _ rfl) rfl ?_
        refine s_getR (c := 1) (j := 69) (o := (some 430)) (dt_M_areSo 12 _ _ _ rfl) (kf_M_161) (sc_382 hS) rfl rfl ?_
        refine s_aload_n (dt_M_areSo 13 _ _ _ rfl) rfl ?_
        refine s_getR (c := 1) (j := 65) (o := (some 426)) (dt_M_areSo 14 _ _ _ rfl) (kf_M_149) (sc_382 hS) rfl rfl ?_
        refine s_iload_n (dt_M_areSo 15 _ _ _ rfl) rfl ?_
        refine s_iald (N := 30) (dt_M_areSo 16 _ _ _ rfl) (sc_426 hS) rfl ?_
        refine s_iald (N := 8) (dt_M_areSo 17 _ _ _ rfl) (sc_430 hS) rfl ?_
        refine s_aload_n (dt_M_areSo 18 _ _ _ rfl) rfl ?_
        refine s_getR (c := 1) (j := 66) (o := (some 427)) (dt_M_areSo 19 _ _ _ rfl) (kf_M_152) (sc_382 hS) rfl rfl ?_
        refine s_iload_n (dt_M_areSo 20 _ _ _ rfl) rfl ?_
        refine s_iald (N := 30) (dt_M_areSo 21 _ _ _ rfl) (sc_427 hS) rfl ?_
        refine s_if_icmp_eq (tgt := 41) (dt_M_areSo 22 _ _ _ rfl) rfl ?_ ?_
        · refine s_iinc (dt_M_areSo 25 _ _ _ rfl) rfl rfl ?_
          refine s_goto (tgt := 2) (dt_M_areSo 26 _ _ _ rfl) rfl ?_
          exact s_mask [true, true, true] (s_ret0 rfl)
        · exact s_mask [false, false, false] (s_ret0 rfl)
    · exact s_mask [false, false, false] (s_ret0 rfl)
  refine s_elim (fun e3 => ?_) ?_
  · refine s_iconst (dt_M_areSo 23 _ _ _ rfl) rfl ?_
    exact s_zret01 (dt_M_areSo 24 _ _ _ rfl) rfl rfl rfl
  intro e4
  refine s_iconst (dt_M_areSo 27 _ _ _ rfl) rfl ?_
  exact s_zret01 (dt_M_areSo 28 _ _ _ rfl) rfl rfl rfl
theorem c_M_areSo {S : KS} (hS : KExt 435 S)  (a0 : Int) (M : KM) : ∀ q, f_M_areSo a0 M = some q → Ctr y_M_areSo Y_M_areSo [VR (some 382), VI a0] S M (some (VI q)) S (M) := fun q hq =>
  ctr_of md_M_areSo (Nat.le_of_ble_eq_true rfl) ⟨Nat.le_refl _, Nat.le_refl _⟩ 1 hq rfl (fun _ G => sim_M_areSo hS  a0 M)
set_option maxRecDepth 100000 in
theorem sim_M_takes {G : Gam} {S : KS} (hS : KExt 435 S)  (a0 : Int) (a1 : Int) (a2 : Int) (a3 : Int) (a4 : Int) (a5 : Int) (a6 : Int) (M : KM) : Sim G Y_M_takes (f_M_takes a0 a1 a2 a3 a4 a5 a6 M) (kC 0 [some (VR (some 382)), some (VI a0), some (VI a1), some (VI a2), some (VI a3), some (VI a4), some (VI a5), some (VI a6)] [] S M) (fun (q : KM) => Sum.inr (none, S, q)) := by
  unfold f_M_takes
  refine s_aload_n (dt_M_takes 0 _ _ _ rfl) rfl ?_
  refine s_iload (dt_M_takes 1 _ _ _ rfl) rfl ?_
  refine s_callO (y := y_M_areSo) (Y' := Y_M_areSo) (as := [VR (some 382), VI a6]) (r := fun q => some (VI q)) (M' := fun q => M) (kInvV (dt_M_takes 2 _ _ _ rfl) kin_M_areSo 1 rfl (sc_382 hS) kse_M_areSo rfl) kl_M_519 md_M_areSo rfl rfl (fun q hq => c_M_areSo hS a6 M q hq) (fun q1 => ?_)
  refine s_if_ne (tgt := 10) (dt_M_takes 3 _ _ _ rfl) rfl ?_ ?_
  · exact s_vret (dt_M_takes 4 _ _ _ rfl) rfl rfl
  · refine s_aload_n (dt_M_takes 5 _ _ _ rfl) rfl ?_
    refine s_getI (c := 1) (j := 73) (dt_M_takes 6 _ _ _ rfl) (kf_M_522) (sc_382 hS) rfl ?_
    refine s_bd (κ := fun t8 => kC 67 [some (VR (some 382)), none, none, none, none, none, some (VI a5), none] [] S t8) ?_ (fun t8 => ?_)
    · refine s_if_ne (tgt := 67) (dt_M_takes 7 _ _ _ rfl) rfl ?_ ?_
      · refine s_aload_n (dt_M_takes 8 _ _ _ rfl) rfl ?_
        refine s_getR (c := 1) (j := 62) (o := (some 424)) (dt_M_takes 9 _ _ _ rfl) (kf_M_143) (sc_382 hS) rfl rfl ?_
        refine s_iconst (dt_M_takes 10 _ _ _ rfl) rfl ?_
        refine s_iload_n (dt_M_takes 11 _ _ _ rfl) rfl ?_
        refine s_iast (N := 8) (dt_M_takes 12 _ _ _ rfl) (sc_424 hS) rfl ?_
        refine s_letM (fun M2 => ?_)
        refine s_aload_n (dt_M_takes 13 _ _ _ rfl) rfl ?_
        refine s_getR (c := 1) (j := 62) (o := (some 424)) (dt_M_takes 14 _ _ _ rfl) (kf_M_143) (sc_382 hS) rfl rfl ?_
        refine s_iconst (dt_M_takes 15 _ _ _ rfl) rfl ?_
        refine s_iload_n (dt_M_takes 16 _ _ _ rfl) rfl ?_
        refine s_iast (N := 8) (dt_M_takes 17 _ _ _ rfl) (sc_424 hS) rfl ?_
        refine s_letM (fun M3 => ?_)
        refine s_aload_n (dt_M_takes 18 _ _ _ rfl) rfl ?_
        refine s_getR (c := 1) (j := 62) (o := (some 424)) (dt_M_takes 19 _ _ _ rfl) (kf_M_143) (sc_382 hS) rfl rfl ?_
        refine s_iconst (dt_M_takes 20 _ _ _ rfl) rfl ?_
        refine s_iload (dt_M_takes 21 _ _ _ rfl) rfl ?_
        refine s_iast (N := 8) (dt_M_takes 22 _ _ _ rfl) (sc_424 hS) rfl ?_
        refine s_letM (fun M4 => ?_)
        refine s_aload_n (dt_M_takes 23 _ _ _ rfl) rfl ?_
        refine s_getR (c := 1) (j := 62) (o := (some 424)) (dt_M_takes 24 _ _ _ rfl) (kf_M_143) (sc_382 hS) rfl rfl ?_
        refine s_iconst (dt_M_takes 25 _ _ _ rfl) rfl ?_
        refine s_iload (dt_M_takes 26 _ _ _ rfl) rfl ?_
        refine s_iast (N := 8) (dt_M_takes 27 _ _ _ rfl) (sc_424 hS) rfl ?_
        refine s_letM (fun M5 => ?_)
        refine s_aload_n (dt_M_takes 28 _ _ _ rfl) rfl ?_
        refine s_iconst (dt_M_takes 29 _ _ _ rfl) rfl ?_
        refine s_iload_n (dt_M_takes 30 _ _ _ rfl) rfl ?_
        refine s_imul (dt_M_takes 31 _ _ _ rfl) ?_
        refine s_putI (c := 1) (j := 63) (dt_M_takes 32 _ _ _ rfl) kp_M_401 (sc_382 hS) ⟨rfl, rfl⟩ ?_
        refine s_letM (fun M6 => ?_)
        refine s_aload_n (dt_M_takes 33 _ _ _ rfl) rfl ?_
        refine s_getR (c := 1) (j := 70) (o := (some 431)) (dt_M_takes 34 _ _ _ rfl) (kf_M_164) (sc_382 hS) rfl rfl ?_
        refine s_iconst (dt_M_takes 35 _ _ _ rfl) rfl ?_
        refine s_aload_n (dt_M_takes 36 _ _ _ rfl) rfl ?_
        refine s_getR (c := 1) (j := 69) (o := (some 430)) (dt_M_takes 37 _ _ _ rfl) (kf_M_161) (sc_382 hS) rfl rfl ?_
        refine s_iload (dt_M_takes 38 _ _ _ rfl) rfl ?_
        refine s_iald (N := 8) (dt_M_takes 39 _ _ _ rfl) (sc_430 hS) rfl ?_
        refine s_iast (N := 8) (dt_M_takes 40 _ _ _ rfl) (sc_431 hS) rfl ?_
        refine s_letM (fun M7 => ?_)
        exact s_mask [true, false, false, false, false, false, true, false] (s_ret0 rfl)
      · exact s_mask [true, false, false, false, false, false, true, false] (s_ret0 rfl)
    refine s_aload_n (dt_M_takes 41 _ _ _ rfl) rfl ?_
    refine s_aload_n (dt_M_takes 42 _ _ _ rfl) rfl ?_
    refine s_getI (c := 1) (j := 74) (dt_M_takes 43 _ _ _ rfl) (kf_M_525) (sc_382 hS) rfl ?_
    refine s_bd (κ := fun t9 => kC 96 [some (VR (some 382)), none, none, none, none, none, none, none] [VI t9, VR (some 382)] S t8) ?_ (fun t9 => ?_)
    · refine s_if_ne (tgt := 91) (dt_M_takes 44 _ _ _ rfl) rfl ?_ ?_
      · refine s_aload_n (dt_M_takes 45 _ _ _ rfl) rfl ?_
        refine s_getR (c := 1) (j := 70) (o := (some 431)) (dt_M_takes 46 _ _ _ rfl) (kf_M_164) (sc_382 hS) rfl rfl ?_
        refine s_iconst (dt_M_takes 47 _ _ _ rfl) rfl ?_
        refine s_iald (N := 8) (dt_M_takes 48 _ _ _ rfl) (sc_431 hS) rfl ?_
        refine s_aload_n (dt_M_takes 49 _ _ _ rfl) rfl ?_
        refine s_getR (c := 1) (j := 69) (o := (some 430)) (dt_M_takes 50 _ _ _ rfl) (kf_M_161) (sc_382 hS) rfl rfl ?_
        refine s_iload (dt_M_takes 51 _ _ _ rfl) rfl ?_
        refine s_iald (N := 8) (dt_M_takes 52 _ _ _ rfl) (sc_430 hS) rfl ?_
        refine s_if_icmp_eq (tgt := 95) (dt_M_takes 53 _ _ _ rfl) rfl ?_ ?_
        · refine s_iconst (dt_M_takes 56 _ _ _ rfl) rfl ?_
          exact s_mask [true, false, false, false, false, false, false, false] (s_ret0 rfl)
        · refine s_iconst (dt_M_takes 54 _ _ _ rfl) rfl ?_
          refine s_goto (tgt := 96) (dt_M_takes 55 _ _ _ rfl) rfl ?_
          exact s_mask [true, false, false, false, false, false, false, false] (s_ret0 rfl)
      · refine s_iconst (dt_M_takes 54 _ _ _ rfl) rfl ?_
        refine s_goto (tgt := 96) (dt_M_takes 55 _ _ _ rfl) rfl ?_
        exact s_mask [true, false, false, false, false, false, false, false] (s_ret0 rfl)
    refine s_putZ (c := 1) (j := 74) (dt_M_takes 57 _ _ _ rfl) kp_M_525 (sc_382 hS) ⟨rfl, rfl⟩ ?_
    refine s_letM (fun M10 => ?_)
    refine s_aload_n (dt_M_takes 58 _ _ _ rfl) rfl ?_
    refine s_dup (dt_M_takes 59 _ _ _ rfl) rfl ?_
    refine s_getI (c := 1) (j := 73) (dt_M_takes 60 _ _ _ rfl) (kf_M_522) (sc_382 hS) rfl ?_
    refine s_iconst (dt_M_takes 61 _ _ _ rfl) rfl ?_
    refine s_iadd (dt_M_takes 62 _ _ _ rfl) ?_
    refine s_putI (c := 1) (j := 73) (dt_M_takes 63 _ _ _ rfl) kp_M_522 (sc_382 hS) ⟨rfl, rfl⟩ ?_
    refine s_letM (fun M11 => ?_)
    exact s_vret (dt_M_takes 64 _ _ _ rfl) rfl rfl
theorem c_M_takes {S : KS} (hS : KExt 435 S)  (a0 : Int) (a1 : Int) (a2 : Int) (a3 : Int) (a4 : Int) (a5 : Int) (a6 : Int) (M : KM) : ∀ q, f_M_takes a0 a1 a2 a3 a4 a5 a6 M = some q → Ctr y_M_takes Y_M_takes [VR (some 382), VI a0, VI a1, VI a2, VI a3, VI a4, VI a5, VI a6] S M (none) S (q) := fun q hq =>
  ctr_of md_M_takes (Nat.le_of_ble_eq_true rfl) ⟨Nat.le_refl _, Nat.le_refl _⟩ 0 hq rfl (fun _ G => sim_M_takes hS  a0 a1 a2 a3 a4 a5 a6 M)
set_option maxRecDepth 100000 in
theorem sim_M_explainTwo {G : Gam} {S : KS} (hS : KExt 435 S)  (a0 : Int) (a1 : Int) (a2 : Int) (a3 : Int) (M : KM) : Sim G Y_M_explainTwo (f_M_explainTwo a0 a1 a2 a3 M) (kC 0 [some (VR (some 382)), some (VI a0), some (VI a1), some (VI a2), some (VI a3), none, none] [] S M) (fun (q : KM) => Sum.inr (none, S, q)) := by
  unfold f_M_explainTwo
  refine s_aload_n (dt_M_explainTwo 0 _ _ _ rfl) rfl ?_
  refine s_iload_n (dt_M_explainTwo 1 _ _ _ rfl) rfl ?_
  refine s_iload_n (dt_M_explainTwo 2 _ _ _ rfl) rfl ?_
  refine s_callO (y := y_M_guessGift) (Y' := Y_M_guessGift) (as := [VR (some 382), VI a0, VI a1]) (r := fun q => none) (M' := fun q => q) (kInvV (dt_M_explainTwo 3 _ _ _ rfl) kin_M_guessGift 1 rfl (sc_382 hS) kse_M_guessGift rfl) kl_M_536 md_M_guessGift rfl rfl (fun q hq => c_M_guessGift hS a0 a1 M q hq) (fun q1 => ?_)
  refine s_iload_n (dt_M_explainTwo 4 _ _ _ rfl) rfl ?_
  refine s_iconst (dt_M_explainTwo 5 _ _ _ rfl) rfl ?_
  refine s_iadd (dt_M_explainTwo 6 _ _ _ rfl) ?_
  refine s_letI (fun v2 => ?_)
  refine s_istore (dt_M_explainTwo 7 _ _ _ rfl) rfl ?_
  refine s_bd (κ := (fun (e9 : KM) => kC 78 [some (VR (some 382)), some (VI a0), some (VI a1), none, none, none, none] [] S e9)) (s_mask [true, true, true, true, true, true, false] (s_while (c := fun s3 => kC 11 [some (VR (some 382)), some (VI a0), some (VI a1), some (VI a2), some (VI a3), some (VI s3.1), none] [] S s3.2) (fun s3 => ?_) (v2, q1))) ?_
  · refine s_iload (dt_M_explainTwo 8 _ _ _ rfl) rfl ?_
    refine s_aload_n (dt_M_explainTwo 9 _ _ _ rfl) rfl ?_
    refine s_getR (c := 1) (j := 12) (o := (some 386)) (dt_M_explainTwo 10 _ _ _ rfl) (kf_M_24) (sc_382 hS) rfl rfl ?_
    refine s_aload_n (dt_M_explainTwo 11 _ _ _ rfl) rfl ?_
    refine s_getI (c := 1) (j := 37) (dt_M_explainTwo 12 _ _ _ rfl) (kf_M_288) (sc_382 hS) rfl ?_
    refine s_iald (N := 2) (dt_M_explainTwo 13 _ _ _ rfl) (sc_386 hS) rfl ?_
    refine s_if_icmp_ge (tgt := 78) (dt_M_explainTwo 14 _ _ _ rfl) rfl ?_ ?_
    · refine s_iconst (dt_M_explainTwo 15 _ _ _ rfl) rfl ?_
      refine s_istore (dt_M_explainTwo 16 _ _ _ rfl) rfl ?_
      refine s_bd (κ := (fun (e8 : KM) => kC 72 [some (VR (some 382)), some (VI a0), some (VI a1), some (VI a2), some (VI a3), some (VI s3.1), none] [] S e8)) (s_mask [true, true, true, true, true, true, true] (s_while (c := fun s4 => kC 28 [some (VR (some 382)), some (VI a0), some (VI a1), some (VI a2), some (VI a3), some (VI s3.1), some (VI s4.1)] [] S s4.2) (fun s4 => ?_) ((1 : Int), s3.2))) ?_
      · refine s_iload (dt_M_explainTwo 17 _ _ _ rfl) rfl ?_
        refine s_bipush (dt_M_explainTwo 18 _ _ _ rfl) rfl ?_
        refine s_if_icmp_gt (tgt := 72) (dt_M_explainTwo 19 _ _ _ rfl) rfl ?_ ?_
        · refine s_aload_n (dt_M_explainTwo 20 _ _ _ rfl) rfl ?_
          refine s_iload (dt_M_explainTwo 21 _ _ _ rfl) rfl ?_
          refine s_iload (dt_M_explainTwo 22 _ _ _ rfl) rfl ?_
          refine s_callO (y := y_M_guessGift) (Y' := Y_M_guessGift) (as := [VR (some 382), VI s3.1, VI s4.1]) (r := fun q => none) (M' := fun q => q) (kInvV (dt_M_explainTwo 23 _ _ _ rfl) kin_M_guessGift 1 rfl (sc_382 hS) kse_M_guessGift rfl) kl_M_536 md_M_guessGift rfl rfl (fun q hq => c_M_guessGift hS s3.1 s4.1 s4.2 q hq) (fun q5 => ?_)
          refine s_aload_n (dt_M_explainTwo 24 _ _ _ rfl) rfl ?_
          refine s_iconst (dt_M_explainTwo 25 _ _ _ rfl) rfl ?_
          refine s_iload_n (dt_M_explainTwo 26 _ _ _ rfl) rfl ?_
          refine s_iload_n (dt_M_explainTwo 27 _ _ _ rfl) rfl ?_
          refine s_iload (dt_M_explainTwo 28 _ _ _ rfl) rfl ?_
          refine s_iload (dt_M_explainTwo 29 _ _ _ rfl) rfl ?_
          refine s_iload_n (dt_M_explainTwo 30 _ _ _ rfl) rfl ?_
          refine s_iload (dt_M_explainTwo 31 _ _ _ rfl) rfl ?_
          refine s_callO (y := y_M_takes) (Y' := Y_M_takes) (as := [VR (some 382), VI (2 : Int), VI a0, VI a1, VI s3.1, VI s4.1, VI a2, VI a3]) (r := fun q => none) (M' := fun q => q) (kInvV (dt_M_explainTwo 32 _ _ _ rfl) kin_M_takes 1 rfl (sc_382 hS) kse_M_takes rfl) kl_M_532 md_M_takes rfl rfl (fun q hq => c_M_takes hS (2 : Int) a0 a1 s3.1 s4.1 a2 a3 q5 q hq) (fun q6 => ?_)
          refine s_aload_n (dt_M_explainTwo 33 _ _ _ rfl) rfl ?_
          refine s_iload (dt_M_explainTwo 34 _ _ _ rfl) rfl ?_
          refine s_iload (dt_M_explainTwo 35 _ _ _ rfl) rfl ?_
          refine s_ineg (dt_M_explainTwo 36 _ _ _ rfl) ?_
          refine s_callO (y := y_M_guessGift) (Y' := Y_M_guessGift) (as := [VR (some 382), VI s3.1, VI (w32 (-s4.1))]) (r := fun q => none) (M' := fun q => q) (kInvV (dt_M_explainTwo 37 _ _ _ rfl) kin_M_guessGift 1 rfl (sc_382 hS) kse_M_guessGift rfl) kl_M_536 md_M_guessGift rfl rfl (fun q hq => c_M_guessGift hS s3.1 (w32 (-s4.1)) q6 q hq) (fun q7 => ?_)
          refine s_iinc (dt_M_explainTwo 38 _ _ _ rfl) rfl rfl ?_
          refine s_goto (tgt := 28) (dt_M_explainTwo 39 _ _ _ rfl) rfl ?_
          exact s_mask [true, true, true, true, true, true, true] (s_ret0 rfl)
        · exact s_mask [true, true, true, true, true, true, false] (s_ret0 rfl)
      intro e8
      refine s_iinc (dt_M_explainTwo 40 _ _ _ rfl) rfl rfl ?_
      refine s_goto (tgt := 11) (dt_M_explainTwo 41 _ _ _ rfl) rfl ?_
      exact s_mask [true, true, true, true, true, true, false] (s_ret0 rfl)
    · exact s_mask [true, true, true, false, false, false, false] (s_ret0 rfl)
  intro e9
  refine s_aload_n (dt_M_explainTwo 42 _ _ _ rfl) rfl ?_
  refine s_iload_n (dt_M_explainTwo 43 _ _ _ rfl) rfl ?_
  refine s_iload_n (dt_M_explainTwo 44 _ _ _ rfl) rfl ?_
  refine s_ineg (dt_M_explainTwo 45 _ _ _ rfl) ?_
  refine s_callO (y := y_M_guessGift) (Y' := Y_M_guessGift) (as := [VR (some 382), VI a0, VI (w32 (-a1))]) (r := fun q => none) (M' := fun q => q) (kInvV (dt_M_explainTwo 46 _ _ _ rfl) kin_M_guessGift 1 rfl (sc_382 hS) kse_M_guessGift rfl) kl_M_536 md_M_guessGift rfl rfl (fun q hq => c_M_guessGift hS a0 (w32 (-a1)) e9 q hq) (fun q10 => ?_)
  exact s_vret (dt_M_explainTwo 47 _ _ _ rfl) rfl rfl
theorem c_M_explainTwo {S : KS} (hS : KExt 435 S)  (a0 : Int) (a1 : Int) (a2 : Int) (a3 : Int) (M : KM) : ∀ q, f_M_explainTwo a0 a1 a2 a3 M = some q → Ctr y_M_explainTwo Y_M_explainTwo [VR (some 382), VI a0, VI a1, VI a2, VI a3] S M (none) S (q) := fun q hq =>
  ctr_of md_M_explainTwo (Nat.le_of_ble_eq_true rfl) ⟨Nat.le_refl _, Nat.le_refl _⟩ 2 hq rfl (fun _ G => sim_M_explainTwo hS  a0 a1 a2 a3 M)
set_option maxRecDepth 100000 in
theorem sim_M_guessAsTold {G : Gam} {S : KS} (hS : KExt 435 S)   (M : KM) : Sim G Y_M_guessAsTold (f_M_guessAsTold  M) (kC 0 [some (VR (some 382)), none] [] S M) (fun (q : KM) => Sum.inr (none, S, q)) := by
  unfold f_M_guessAsTold
  refine s_iconst (dt_M_guessAsTold 0 _ _ _ rfl) rfl ?_
  refine s_istore_n (dt_M_guessAsTold 1 _ _ _ rfl) rfl ?_
  refine s_bd (κ := (fun (e3 : KM) => kC 34 [none, none] [] S e3)) (s_mask [true, true] (s_while (c := fun s1 => kC 2 [some (VR (some 382)), some (VI s1.1)] [] S s1.2) (fun s1 => ?_) ((0 : Int), M))) ?_
  · refine s_iload_n (dt_M_guessAsTold 2 _ _ _ rfl) rfl ?_
    refine s_bipush (dt_M_guessAsTold 3 _ _ _ rfl) rfl ?_
    refine s_if_icmp_ge (tgt := 34) (dt_M_guessAsTold 4 _ _ _ rfl) rfl ?_ ?_
    · refine s_aload_n (dt_M_guessAsTold 5 _ _ _ rfl) rfl ?_
      refine s_getR (c := 1) (j := 69) (o := (some 430)) (dt_M_guessAsTold 6 _ _ _ rfl) (kf_M_161) (sc_382 hS) rfl rfl ?_
      refine s_iload_n (dt_M_guessAsTold 7 _ _ _ rfl) rfl ?_
      refine s_aload_n (dt_M_guessAsTold 8 _ _ _ rfl) rfl ?_
      refine s_getR (c := 1) (j := 19) (o := (some 393)) (dt_M_guessAsTold 9 _ _ _ rfl) (kf_M_45) (sc_382 hS) rfl rfl ?_
      refine s_bipush (dt_M_guessAsTold 10 _ _ _ rfl) rfl ?_
      refine s_aload_n (dt_M_guessAsTold 11 _ _ _ rfl) rfl ?_
      refine s_getI (c := 1) (j := 37) (dt_M_guessAsTold 12 _ _ _ rfl) (kf_M_288) (sc_382 hS) rfl ?_
      refine s_imul (dt_M_guessAsTold 13 _ _ _ rfl) ?_
      refine s_iload_n (dt_M_guessAsTold 14 _ _ _ rfl) rfl ?_
      refine s_iadd (dt_M_guessAsTold 15 _ _ _ rfl) ?_
      refine s_iald (N := 16) (dt_M_guessAsTold 16 _ _ _ rfl) (sc_393 hS) rfl ?_
      refine s_iast (N := 8) (dt_M_guessAsTold 17 _ _ _ rfl) (sc_430 hS) rfl ?_
      refine s_letM (fun M2 => ?_)
      refine s_iinc (dt_M_guessAsTold 18 _ _ _ rfl) rfl rfl ?_
      refine s_goto (tgt := 2) (dt_M_guessAsTold 19 _ _ _ rfl) rfl ?_
      exact s_mask [true, true] (s_ret0 rfl)
    · exact s_mask [false, false] (s_ret0 rfl)
  intro e3
  exact s_vret (dt_M_guessAsTold 20 _ _ _ rfl) rfl rfl
theorem c_M_guessAsTold {S : KS} (hS : KExt 435 S)   (M : KM) : ∀ q, f_M_guessAsTold  M = some q → Ctr y_M_guessAsTold Y_M_guessAsTold [VR (some 382)] S M (none) S (q) := fun q hq =>
  ctr_of md_M_guessAsTold (Nat.le_of_ble_eq_true rfl) ⟨Nat.le_refl _, Nat.le_refl _⟩ 1 hq rfl (fun _ G => sim_M_guessAsTold hS   M)
set_option maxRecDepth 100000 in
theorem sim_M_explain {G : Gam} {S : KS} (hS : KExt 435 S)  (a0 : Int) (a1 : Int) (M : KM) : Sim G Y_M_explain (f_M_explain a0 a1 M) (kC 0 [some (VR (some 382)), some (VI a0), some (VI a1), none, none] [] S M) (fun (q : KM) => Sum.inr (none, S, q)) := by
  unfold f_M_explain
  refine s_aload_n (dt_M_explain 0 _ _ _ rfl) rfl ?_
  refine s_iconst (dt_M_explain 1 _ _ _ rfl) rfl ?_
  refine s_putI (c := 1) (j := 73) (dt_M_explain 2 _ _ _ rfl) kp_M_522 (sc_382 hS) ⟨rfl, rfl⟩ ?_
  refine s_letM (fun M1 => ?_)
  refine s_aload_n (dt_M_explain 3 _ _ _ rfl) rfl ?_
  refine s_iconst (dt_M_explain 4 _ _ _ rfl) rfl ?_
  refine s_putZ (c := 1) (j := 74) (dt_M_explain 5 _ _ _ rfl) kp_M_525 (sc_382 hS) ⟨rfl, rfl⟩ ?_
  refine s_letM (fun M2 => ?_)
  refine s_aload_n (dt_M_explain 6 _ _ _ rfl) rfl ?_
  refine s_callO (y := y_M_guessAsTold) (Y' := Y_M_guessAsTold) (as := [VR (some 382)]) (r := fun q => none) (M' := fun q => q) (kInvV (dt_M_explain 7 _ _ _ rfl) kin_M_guessAsTold 1 rfl (sc_382 hS) kse_M_guessAsTold rfl) kl_M_529 md_M_guessAsTold rfl rfl (fun q hq => c_M_guessAsTold hS M2 q hq) (fun q3 => ?_)
  refine s_aload_n (dt_M_explain 8 _ _ _ rfl) rfl ?_
  refine s_iconst (dt_M_explain 9 _ _ _ rfl) rfl ?_
  refine s_iconst (dt_M_explain 10 _ _ _ rfl) rfl ?_
  refine s_iconst (dt_M_explain 11 _ _ _ rfl) rfl ?_
  refine s_iconst (dt_M_explain 12 _ _ _ rfl) rfl ?_
  refine s_iconst (dt_M_explain 13 _ _ _ rfl) rfl ?_
  refine s_iload_n (dt_M_explain 14 _ _ _ rfl) rfl ?_
  refine s_iload_n (dt_M_explain 15 _ _ _ rfl) rfl ?_
  refine s_callO (y := y_M_takes) (Y' := Y_M_takes) (as := [VR (some 382), VI (0 : Int), VI (0 : Int), VI (0 : Int), VI (0 : Int), VI (0 : Int), VI a0, VI a1]) (r := fun q => none) (M' := fun q => q) (kInvV (dt_M_explain 16 _ _ _ rfl) kin_M_takes 1 rfl (sc_382 hS) kse_M_takes rfl) kl_M_532 md_M_takes rfl rfl (fun q hq => c_M_takes hS (0 : Int) (0 : Int) (0 : Int) (0 : Int) (0 : Int) a0 a1 q3 q hq) (fun q4 => ?_)
  refine s_iconst (dt_M_explain 17 _ _ _ rfl) rfl ?_
  refine s_istore_n (dt_M_explain 18 _ _ _ rfl) rfl ?_
  refine s_bd (κ := (fun (e11 : KM) => kC 89 [some (VR (some 382)), some (VI a0), some (VI a1), none, none] [] S e11)) (s_mask [true, true, true, true, false] (s_while (c := fun s5 => kC 27 [some (VR (some 382)), some (VI a0), some (VI a1), some (VI s5.1), none] [] S s5.2) (fun s5 => ?_) ((0 : Int), q4))) ?_
  · refine s_iload_n (dt_M_explain 19 _ _ _ rfl) rfl ?_
    refine s_aload_n (dt_M_explain 20 _ _ _ rfl) rfl ?_
    refine s_getR (c := 1) (j := 12) (o := (some 386)) (dt_M_explain 21 _ _ _ rfl) (kf_M_24) (sc_382 hS) rfl rfl ?_
    refine s_aload_n (dt_M_explain 22 _ _ _ rfl) rfl ?_
    refine s_getI (c := 1) (j := 37) (dt_M_explain 23 _ _ _ rfl) (kf_M_288) (sc_382 hS) rfl ?_
    refine s_iald (N := 2) (dt_M_explain 24 _ _ _ rfl) (sc_386 hS) rfl ?_
    refine s_if_icmp_ge (tgt := 89) (dt_M_explain 25 _ _ _ rfl) rfl ?_ ?_
    · refine s_iconst (dt_M_explain 26 _ _ _ rfl) rfl ?_
      refine s_istore (dt_M_explain 27 _ _ _ rfl) rfl ?_
      refine s_bd (κ := (fun (e10 : KM) => kC 83 [some (VR (some 382)), some (VI a0), some (VI a1), some (VI s5.1), none] [] S e10)) (s_mask [true, true, true, true, true] (s_while (c := fun s6 => kC 43 [some (VR (some 382)), some (VI a0), some (VI a1), some (VI s5.1), some (VI s6.1)] [] S s6.2) (fun s6 => ?_) ((1 : Int), s5.2))) ?_
      · refine s_iload (dt_M_explain 28 _ _ _ rfl) rfl ?_
        refine s_bipush (dt_M_explain 29 _ _ _ rfl) rfl ?_
        refine s_if_icmp_gt (tgt := 83) (dt_M_explain 30 _ _ _ rfl) rfl ?_ ?_
        · refine s_aload_n (dt_M_explain 31 _ _ _ rfl) rfl ?_
          refine s_iload_n (dt_M_explain 32 _ _ _ rfl) rfl ?_
          refine s_iload (dt_M_explain 33 _ _ _ rfl) rfl ?_
          refine s_callO (y := y_M_guessGift) (Y' := Y_M_guessGift) (as := [VR (some 382), VI s5.1, VI s6.1]) (r := fun q => none) (M' := fun q => q) (kInvV (dt_M_explain 34 _ _ _ rfl) kin_M_guessGift 1 rfl (sc_382 hS) kse_M_guessGift rfl) kl_M_536 md_M_guessGift rfl rfl (fun q hq => c_M_guessGift hS s5.1 s6.1 s6.2 q hq) (fun q7 => ?_)
          refine s_aload_n (dt_M_explain 35 _ _ _ rfl) rfl ?_
          refine s_iconst (dt_M_explain 36 _ _ _ rfl) rfl ?_
          refine s_iload_n (dt_M_explain 37 _ _ _ rfl) rfl ?_
          refine s_iload (dt_M_explain 38 _ _ _ rfl) rfl ?_
          refine s_iconst (dt_M_explain 39 _ _ _ rfl) rfl ?_
          refine s_iconst (dt_M_explain 40 _ _ _ rfl) rfl ?_
          refine s_iload_n (dt_M_explain 41 _ _ _ rfl) rfl ?_
          refine s_iload_n (dt_M_explain 42 _ _ _ rfl) rfl ?_
          refine s_callO (y := y_M_takes) (Y' := Y_M_takes) (as := [VR (some 382), VI (1 : Int), VI s5.1, VI s6.1, VI (0 : Int), VI (0 : Int), VI a0, VI a1]) (r := fun q => none) (M' := fun q => q) (kInvV (dt_M_explain 43 _ _ _ rfl) kin_M_takes 1 rfl (sc_382 hS) kse_M_takes rfl) kl_M_532 md_M_takes rfl rfl (fun q hq => c_M_takes hS (1 : Int) s5.1 s6.1 (0 : Int) (0 : Int) a0 a1 q7 q hq) (fun q8 => ?_)
          refine s_aload_n (dt_M_explain 44 _ _ _ rfl) rfl ?_
          refine s_iload_n (dt_M_explain 45 _ _ _ rfl) rfl ?_
          refine s_iload (dt_M_explain 46 _ _ _ rfl) rfl ?_
          refine s_ineg (dt_M_explain 47 _ _ _ rfl) ?_
          refine s_callO (y := y_M_guessGift) (Y' := Y_M_guessGift) (as := [VR (some 382), VI s5.1, VI (w32 (-s6.1))]) (r := fun q => none) (M' := fun q => q) (kInvV (dt_M_explain 48 _ _ _ rfl) kin_M_guessGift 1 rfl (sc_382 hS) kse_M_guessGift rfl) kl_M_536 md_M_guessGift rfl rfl (fun q hq => c_M_guessGift hS s5.1 (w32 (-s6.1)) q8 q hq) (fun q9 => ?_)
          refine s_iinc (dt_M_explain 49 _ _ _ rfl) rfl rfl ?_
          refine s_goto (tgt := 43) (dt_M_explain 50 _ _ _ rfl) rfl ?_
          exact s_mask [true, true, true, true, true] (s_ret0 rfl)
        · exact s_mask [true, true, true, true, false] (s_ret0 rfl)
      intro e10
      refine s_iinc (dt_M_explain 51 _ _ _ rfl) rfl rfl ?_
      refine s_goto (tgt := 27) (dt_M_explain 52 _ _ _ rfl) rfl ?_
      exact s_mask [true, true, true, true, false] (s_ret0 rfl)
    · exact s_mask [true, true, true, false, false] (s_ret0 rfl)
  intro e11
  refine s_iconst (dt_M_explain 53 _ _ _ rfl) rfl ?_
  refine s_istore_n (dt_M_explain 54 _ _ _ rfl) rfl ?_
  refine s_bd (κ := (fun (e16 : KM) => kC 135 [none, none, none, none, none] [] S e16)) (s_mask [true, true, true, true, false] (s_while (c := fun s12 => kC 91 [some (VR (some 382)), some (VI a0), some (VI a1), some (VI s12.1), none] [] S s12.2) (fun s12 => ?_) ((0 : Int), e11))) ?_
  · refine s_iload_n (dt_M_explain 55 _ _ _ rfl) rfl ?_
    refine s_aload_n (dt_M_explain 56 _ _ _ rfl) rfl ?_
    refine s_getR (c := 1) (j := 12) (o := (some 386)) (dt_M_explain 57 _ _ _ rfl) (kf_M_24) (sc_382 hS) rfl rfl ?_
    refine s_aload_n (dt_M_explain 58 _ _ _ rfl) rfl ?_
    refine s_getI (c := 1) (j := 37) (dt_M_explain 59 _ _ _ rfl) (kf_M_288) (sc_382 hS) rfl ?_
    refine s_iald (N := 2) (dt_M_explain 60 _ _ _ rfl) (sc_386 hS) rfl ?_
    refine s_if_icmp_ge (tgt := 135) (dt_M_explain 61 _ _ _ rfl) rfl ?_ ?_
    · refine s_iconst (dt_M_explain 62 _ _ _ rfl) rfl ?_
      refine s_istore (dt_M_explain 63 _ _ _ rfl) rfl ?_
      refine s_bd (κ := (fun (e15 : KM) => kC 129 [some (VR (some 382)), some (VI a0), some (VI a1), some (VI s12.1), none] [] S e15)) (s_mask [true, true, true, true, true] (s_while (c := fun s13 => kC 107 [some (VR (some 382)), some (VI a0), some (VI a1), some (VI s12.1), some (VI s13.1)] [] S s13.2) (fun s13 => ?_) ((1 : Int), s12.2))) ?_
      · refine s_iload (dt_M_explain 64 _ _ _ rfl) rfl ?_
        refine s_bipush (dt_M_explain 65 _ _ _ rfl) rfl ?_
        refine s_if_icmp_gt (tgt := 129) (dt_M_explain 66 _ _ _ rfl) rfl ?_ ?_
        · refine s_aload_n (dt_M_explain 67 _ _ _ rfl) rfl ?_
          refine s_iload_n (dt_M_explain 68 _ _ _ rfl) rfl ?_
          refine s_iload (dt_M_explain 69 _ _ _ rfl) rfl ?_
          refine s_iload_n (dt_M_explain 70 _ _ _ rfl) rfl ?_
          refine s_iload_n (dt_M_explain 71 _ _ _ rfl) rfl ?_
          refine s_callO (y := y_M_explainTwo) (Y' := Y_M_explainTwo) (as := [VR (some 382), VI s12.1, VI s13.1, VI a0, VI a1]) (r := fun q => none) (M' := fun q => q) (kInvV (dt_M_explain 72 _ _ _ rfl) kin_M_explainTwo 1 rfl (sc_382 hS) kse_M_explainTwo rfl) kl_M_539 md_M_explainTwo rfl rfl (fun q hq => c_M_explainTwo hS s12.1 s13.1 a0 a1 s13.2 q hq) (fun q14 => ?_)
          refine s_iinc (dt_M_explain 73 _ _ _ rfl) rfl rfl ?_
          refine s_goto (tgt := 107) (dt_M_explain 74 _ _ _ rfl) rfl ?_
          exact s_mask [true, true, true, true, true] (s_ret0 rfl)
        · exact s_mask [true, true, true, true, false] (s_ret0 rfl)
      intro e15
      refine s_iinc (dt_M_explain 75 _ _ _ rfl) rfl rfl ?_
      refine s_goto (tgt := 91) (dt_M_explain 76 _ _ _ rfl) rfl ?_
      exact s_mask [true, true, true, true, false] (s_ret0 rfl)
    · exact s_mask [false, false, false, false, false] (s_ret0 rfl)
  intro e16
  exact s_vret (dt_M_explain 77 _ _ _ rfl) rfl rfl
theorem c_M_explain {S : KS} (hS : KExt 435 S)  (a0 : Int) (a1 : Int) (M : KM) : ∀ q, f_M_explain a0 a1 M = some q → Ctr y_M_explain Y_M_explain [VR (some 382), VI a0, VI a1] S M (none) S (q) := fun q hq =>
  ctr_of md_M_explain (Nat.le_of_ble_eq_true rfl) ⟨Nat.le_refl _, Nat.le_refl _⟩ 2 hq rfl (fun _ G => sim_M_explain hS  a0 a1 M)
set_option maxRecDepth 100000 in
theorem sim_M_explained {G : Gam} {S : KS} (hS : KExt 435 S)  (a0 : Int) (M : KM) : Sim G Y_M_explained (f_M_explained a0 M) (kC 0 [some (VR (some 382)), some (VI a0)] [] S M) (fun (q : Int × KM) => Sum.inr (some (VI q.1), S, q.2)) := by
  unfold f_M_explained
  refine s_aload_n (dt_M_explained 0 _ _ _ rfl) rfl ?_
  refine s_iconst (dt_M_explained 1 _ _ _ rfl) rfl ?_
  refine s_putI (c := 1) (j := 63) (dt_M_explained 2 _ _ _ rfl) kp_M_401 (sc_382 hS) ⟨rfl, rfl⟩ ?_
  refine s_letM (fun M1 => ?_)
  refine s_aload_n (dt_M_explained 3 _ _ _ rfl) rfl ?_
  refine s_iconst (dt_M_explained 4 _ _ _ rfl) rfl ?_
  refine s_iload_n (dt_M_explained 5 _ _ _ rfl) rfl ?_
  refine s_callO (y := y_M_explain) (Y' := Y_M_explain) (as := [VR (some 382), VI (0 : Int), VI a0]) (r := fun q => none) (M' := fun q => q) (kInvV (dt_M_explained 6 _ _ _ rfl) kin_M_explain 1 rfl (sc_382 hS) kse_M_explain rfl) kl_M_543 md_M_explain rfl rfl (fun q hq => c_M_explain hS (0 : Int) a0 M1 q hq) (fun q2 => ?_)
  refine s_aload_n (dt_M_explained 7 _ _ _ rfl) rfl ?_
  refine s_getI (c := 1) (j := 73) (dt_M_explained 8 _ _ _ rfl) (kf_M_522) (sc_382 hS) rfl ?_
  exact s_iret (dt_M_explained 9 _ _ _ rfl) rfl rfl
theorem c_M_explained {S : KS} (hS : KExt 435 S)  (a0 : Int) (M : KM) : ∀ q, f_M_explained a0 M = some q → Ctr y_M_explained Y_M_explained [VR (some 382), VI a0] S M (some (VI q.1)) S (q.2) := fun q hq =>
  ctr_of md_M_explained (Nat.le_of_ble_eq_true rfl) ⟨Nat.le_refl _, Nat.le_refl _⟩ 0 hq rfl (fun _ G => sim_M_explained hS  a0 M)
set_option maxRecDepth 100000 in
theorem sim_M_sure {G : Gam} {S : KS} (hS : KExt 435 S)  (a0 : Int) (a1 : Int) (M : KM) : Sim G Y_M_sure (f_M_sure a0 a1 M) (kC 0 [some (VR (some 382)), some (VI a0), some (VI a1), none, none] [] S M) (fun (q : Int × KM) => Sum.inr (some (VI q.1), S, q.2)) := by
  unfold f_M_sure
  refine s_aload_n (dt_M_sure 0 _ _ _ rfl) rfl ?_
  refine s_iload_n (dt_M_sure 1 _ _ _ rfl) rfl ?_
  refine s_callO (y := y_M_isPerson) (Y' := Y_M_isPerson) (as := [VR (some 382), VI a0]) (r := fun q => some (VI q)) (M' := fun q => M) (kInvV (dt_M_sure 2 _ _ _ rfl) kin_M_isPerson 1 rfl (sc_382 hS) kse_M_isPerson rfl) kl_M_413 md_M_isPerson rfl rfl (fun q hq => c_M_isPerson hS a0 M q hq) (fun q1 => ?_)
  refine s_if_ne (tgt := 10) (dt_M_sure 3 _ _ _ rfl) rfl ?_ ?_
  · refine s_iconst (dt_M_sure 4 _ _ _ rfl) rfl ?_
    exact s_iret (dt_M_sure 5 _ _ _ rfl) rfl rfl
  · refine s_aload_n (dt_M_sure 6 _ _ _ rfl) rfl ?_
    refine s_getI (c := 1) (j := 63) (dt_M_sure 7 _ _ _ rfl) (kf_M_401) (sc_382 hS) rfl ?_
    refine s_letI (fun v2 => ?_)
    refine s_istore_n (dt_M_sure 8 _ _ _ rfl) rfl ?_
    refine s_iconst (dt_M_sure 9 _ _ _ rfl) rfl ?_
    refine s_istore (dt_M_sure 10 _ _ _ rfl) rfl ?_
    refine s_bd (κ := (fun (e5 : KM) => kC 45 [some (VR (some 382)), some (VI a0), some (VI a1), some (VI v2), none] [] S e5)) (s_mask [true, true, true, true, true] (s_while (c := fun s3 => kC 18 [some (VR (some 382)), some (VI a0), some (VI a1), some (VI v2), some (VI s3.1)] [] S s3.2) (fun s3 => ?_) ((0 : Int), M))) ?_
    · refine s_iload (dt_M_sure 11 _ _ _ rfl) rfl ?_
      refine s_bipush (dt_M_sure 12 _ _ _ rfl) rfl ?_
      refine s_if_icmp_ge (tgt := 45) (dt_M_sure 13 _ _ _ rfl) rfl ?_ ?_
      · refine s_aload_n (dt_M_sure 14 _ _ _ rfl) rfl ?_
        refine s_getR (c := 1) (j := 75) (o := (some 432)) (dt_M_sure 15 _ _ _ rfl) (kf_M_167) (sc_382 hS) rfl rfl ?_
        refine s_iload (dt_M_sure 16 _ _ _ rfl) rfl ?_
        refine s_aload_n (dt_M_sure 17 _ _ _ rfl) rfl ?_
        refine s_getR (c := 1) (j := 62) (o := (some 424)) (dt_M_sure 18 _ _ _ rfl) (kf_M_143) (sc_382 hS) rfl rfl ?_
        refine s_iload (dt_M_sure 19 _ _ _ rfl) rfl ?_
        refine s_iald (N := 8) (dt_M_sure 20 _ _ _ rfl) (sc_424 hS) rfl ?_
        refine s_iast (N := 8) (dt_M_sure 21 _ _ _ rfl) (sc_432 hS) rfl ?_
        refine s_letM (fun M4 => ?_)
        refine s_iinc (dt_M_sure 22 _ _ _ rfl) rfl rfl ?_
        refine s_goto (tgt := 18) (dt_M_sure 23 _ _ _ rfl) rfl ?_
        exact s_mask [true, true, true, true, true] (s_ret0 rfl)
      · exact s_mask [true, true, true, true, false] (s_ret0 rfl)
    intro e5
    refine s_aload_n (dt_M_sure 24 _ _ _ rfl) rfl ?_
    refine s_iload_n (dt_M_sure 25 _ _ _ rfl) rfl ?_
    refine s_iload_n (dt_M_sure 26 _ _ _ rfl) rfl ?_
    refine s_callO (y := y_M_explain) (Y' := Y_M_explain) (as := [VR (some 382), VI a0, VI a1]) (r := fun q => none) (M' := fun q => q) (kInvV (dt_M_sure 27 _ _ _ rfl) kin_M_explain 1 rfl (sc_382 hS) kse_M_explain rfl) kl_M_543 md_M_explain rfl rfl (fun q hq => c_M_explain hS a0 a1 e5 q hq) (fun q6 => ?_)
    refine s_aload_n (dt_M_sure 28 _ _ _ rfl) rfl ?_
    refine s_iload_n (dt_M_sure 29 _ _ _ rfl) rfl ?_
    refine s_putI (c := 1) (j := 63) (dt_M_sure 30 _ _ _ rfl) kp_M_401 (sc_382 hS) ⟨rfl, rfl⟩ ?_
    refine s_letM (fun M7 => ?_)
    refine s_iconst (dt_M_sure 31 _ _ _ rfl) rfl ?_
    refine s_istore (dt_M_sure 32 _ _ _ rfl) rfl ?_
    refine s_bd (κ := (fun (e10 : KM) => kC 86 [some (VR (some 382)), none, none, none, none] [] S e10)) (s_mask [true, false, false, false, true] (s_while (c := fun s8 => kC 59 [some (VR (some 382)), none, none, none, some (VI s8.1)] [] S s8.2) (fun s8 => ?_) ((0 : Int), M7))) ?_
    · refine s_iload (dt_M_sure 33 _ _ _ rfl) rfl ?_
      refine s_bipush (dt_M_sure 34 _ _ _ rfl) rfl ?_
      refine s_if_icmp_ge (tgt := 86) (dt_M_sure 35 _ _ _ rfl) rfl ?_ ?_
      · refine s_aload_n (dt_M_sure 36 _ _ _ rfl) rfl ?_
        refine s_getR (c := 1) (j := 62) (o := (some 424)) (dt_M_sure 37 _ _ _ rfl) (kf_M_143) (sc_382 hS) rfl rfl ?_
        refine s_iload (dt_M_sure 38 _ _ _ rfl) rfl ?_
        refine s_aload_n (dt_M_sure 39 _ _ _ rfl) rfl ?_
        refine s_getR (c := 1) (j := 75) (o := (some 432)) (dt_M_sure 40 _ _ _ rfl) (kf_M_167) (sc_382 hS) rfl rfl ?_
        refine s_iload (dt_M_sure 41 _ _ _ rfl) rfl ?_
        refine s_iald (N := 8) (dt_M_sure 42 _ _ _ rfl) (sc_432 hS) rfl ?_
        refine s_iast (N := 8) (dt_M_sure 43 _ _ _ rfl) (sc_424 hS) rfl ?_
        refine s_letM (fun M9 => ?_)
        refine s_iinc (dt_M_sure 44 _ _ _ rfl) rfl rfl ?_
        refine s_goto (tgt := 59) (dt_M_sure 45 _ _ _ rfl) rfl ?_
        exact s_mask [true, false, false, false, true] (s_ret0 rfl)
      · exact s_mask [true, false, false, false, false] (s_ret0 rfl)
    intro e10
    refine s_aload_n (dt_M_sure 46 _ _ _ rfl) rfl ?_
    refine s_getI (c := 1) (j := 73) (dt_M_sure 47 _ _ _ rfl) (kf_M_522) (sc_382 hS) rfl ?_
    refine s_bd (κ := fun t11 => kC 115 [none, none, none, none, none] [VI t11] S e10) ?_ (fun t11 => ?_)
    · refine s_if_ne (tgt := 97) (dt_M_sure 48 _ _ _ rfl) rfl ?_ ?_
      · refine s_iconst (dt_M_sure 49 _ _ _ rfl) rfl ?_
        refine s_goto (tgt := 115) (dt_M_sure 50 _ _ _ rfl) rfl ?_
        exact s_mask [false, false, false, false, false] (s_ret0 rfl)
      · refine s_aload_n (dt_M_sure 51 _ _ _ rfl) rfl ?_
        refine s_getI (c := 1) (j := 74) (dt_M_sure 52 _ _ _ rfl) (kf_M_525) (sc_382 hS) rfl ?_
        refine s_if_eq (tgt := 109) (dt_M_sure 53 _ _ _ rfl) rfl ?_ ?_
        · refine s_aload_n (dt_M_sure 56 _ _ _ rfl) rfl ?_
          refine s_getR (c := 1) (j := 70) (o := (some 431)) (dt_M_sure 57 _ _ _ rfl) (kf_M_164) (sc_382 hS) rfl rfl ?_
          refine s_iconst (dt_M_sure 58 _ _ _ rfl) rfl ?_
          refine s_iald (N := 8) (dt_M_sure 59 _ _ _ rfl) (sc_431 hS) rfl ?_
          exact s_mask [false, false, false, false, false] (s_ret0 rfl)
        · refine s_bipush (dt_M_sure 54 _ _ _ rfl) rfl ?_
          refine s_goto (tgt := 115) (dt_M_sure 55 _ _ _ rfl) rfl ?_
          exact s_mask [false, false, false, false, false] (s_ret0 rfl)
    exact s_iret (dt_M_sure 60 _ _ _ rfl) rfl rfl
theorem c_M_sure {S : KS} (hS : KExt 435 S)  (a0 : Int) (a1 : Int) (M : KM) : ∀ q, f_M_sure a0 a1 M = some q → Ctr y_M_sure Y_M_sure [VR (some 382), VI a0, VI a1] S M (some (VI q.1)) S (q.2) := fun q hq =>
  ctr_of md_M_sure (Nat.le_of_ble_eq_true rfl) ⟨Nat.le_refl _, Nat.le_refl _⟩ 2 hq rfl (fun _ G => sim_M_sure hS  a0 a1 M)
set_option maxRecDepth 100000 in
theorem sim_M_forged {G : Gam} {S : KS} (hS : KExt 435 S)  (a0 : Int) (M : KM) : Sim G Y_M_forged (f_M_forged a0 M) (kC 0 [some (VR (some 382)), some (VI a0), none, none, none] [] S M) (fun (q : Int × KM) => Sum.inr (some (VI q.1), S, q.2)) := by
  unfold f_M_forged
  refine s_aload_n (dt_M_forged 0 _ _ _ rfl) rfl ?_
  refine s_callO (y := y_M_guessAsTold) (Y' := Y_M_guessAsTold) (as := [VR (some 382)]) (r := fun q => none) (M' := fun q => q) (kInvV (dt_M_forged 1 _ _ _ rfl) kin_M_guessAsTold 1 rfl (sc_382 hS) kse_M_guessAsTold rfl) kl_M_529 md_M_guessAsTold rfl rfl (fun q hq => c_M_guessAsTold hS M q hq) (fun q1 => ?_)
  refine s_aload_n (dt_M_forged 2 _ _ _ rfl) rfl ?_
  refine s_iload_n (dt_M_forged 3 _ _ _ rfl) rfl ?_
  refine s_callO (y := y_M_areSo) (Y' := Y_M_areSo) (as := [VR (some 382), VI a0]) (r := fun q => some (VI q)) (M' := fun q => q1) (kInvV (dt_M_forged 4 _ _ _ rfl) kin_M_areSo 1 rfl (sc_382 hS) kse_M_areSo rfl) kl_M_519 md_M_areSo rfl rfl (fun q hq => c_M_areSo hS a0 q1 q hq) (fun q2 => ?_)
  refine s_if_eq (tgt := 14) (dt_M_forged 5 _ _ _ rfl) rfl ?_ ?_
  · refine s_iconst (dt_M_forged 8 _ _ _ rfl) rfl ?_
    refine s_istore_n (dt_M_forged 9 _ _ _ rfl) rfl ?_
    refine s_iconst (dt_M_forged 10 _ _ _ rfl) rfl ?_
    refine s_istore_n (dt_M_forged 11 _ _ _ rfl) rfl ?_
    refine s_bd (κ := (fun (e14 : Int × KM) => kC 102 [none, none, some (VI e14.1), none, none] [] S e14.2)) (s_mask [true, true, true, true, false] (s_while (c := fun s3 => kC 18 [some (VR (some 382)), some (VI a0), some (VI s3.1), some (VI s3.2.1), none] [] S s3.2.2) (fun s3 => ?_) ((0 : Int), (0 : Int), q1))) ?_
    · refine s_iload_n (dt_M_forged 12 _ _ _ rfl) rfl ?_
      refine s_aload_n (dt_M_forged 13 _ _ _ rfl) rfl ?_
      refine s_callO (y := y_M_many) (Y' := Y_M_many) (as := [VR (some 382)]) (r := fun q => some (VI q)) (M' := fun q => s3.2.2) (kInvV (dt_M_forged 14 _ _ _ rfl) kin_M_many 1 rfl (sc_382 hS) kse_M_many rfl) kl_M_385 md_M_many rfl rfl (fun q hq => c_M_many hS s3.2.2 q hq) (fun q4 => ?_)
      refine s_if_icmp_ge (tgt := 102) (dt_M_forged 15 _ _ _ rfl) rfl ?_ ?_
      · refine s_aload_n (dt_M_forged 16 _ _ _ rfl) rfl ?_
        refine s_callO (y := y_M_guessAsTold) (Y' := Y_M_guessAsTold) (as := [VR (some 382)]) (r := fun q => none) (M' := fun q => q) (kInvV (dt_M_forged 17 _ _ _ rfl) kin_M_guessAsTold 1 rfl (sc_382 hS) kse_M_guessAsTold rfl) kl_M_529 md_M_guessAsTold rfl rfl (fun q hq => c_M_guessAsTold hS s3.2.2 q hq) (fun q5 => ?_)
        refine s_iconst (dt_M_forged 18 _ _ _ rfl) rfl ?_
        refine s_istore (dt_M_forged 19 _ _ _ rfl) rfl ?_
        refine s_bd (κ := (fun (e10 : KM) => kC 82 [some (VR (some 382)), some (VI a0), some (VI s3.1), some (VI s3.2.1), none] [] S e10)) (s_mask [true, true, true, true, true] (s_while (c := fun s6 => kC 33 [some (VR (some 382)), some (VI a0), some (VI s3.1), some (VI s3.2.1), some (VI s6.1)] [] S s6.2) (fun s6 => ?_) ((0 : Int), q5))) ?_
        · refine s_iload (dt_M_forged 20 _ _ _ rfl) rfl ?_
          refine s_aload_n (dt_M_forged 21 _ _ _ rfl) rfl ?_
          refine s_getI (c := 1) (j := 71) (dt_M_forged 22 _ _ _ rfl) (kf_M_398) (sc_382 hS) rfl ?_
          refine s_if_icmp_ge (tgt := 82) (dt_M_forged 23 _ _ _ rfl) rfl ?_ ?_
          · refine s_aload_n (dt_M_forged 24 _ _ _ rfl) rfl ?_
            refine s_iload (dt_M_forged 25 _ _ _ rfl) rfl ?_
            refine s_iload_n (dt_M_forged 26 _ _ _ rfl) rfl ?_
            refine s_callO (y := y_M_counts) (Y' := Y_M_counts) (as := [VR (some 382), VI s6.1, VI a0]) (r := fun q => some (VI q)) (M' := fun q => s6.2) (kInvV (dt_M_forged 27 _ _ _ rfl) kin_M_counts 1 rfl (sc_382 hS) kse_M_counts rfl) kl_M_516 md_M_counts rfl rfl (fun q hq => c_M_counts hS s6.1 a0 s6.2 q hq) (fun q7 => ?_)
            refine s_bd (κ := fun t9 => kC 76 [some (VR (some 382)), some (VI a0), some (VI s3.1), some (VI s3.2.1), some (VI s6.1)] [] S t9) ?_ (fun t9 => ?_)
            · refine s_if_eq (tgt := 76) (dt_M_forged 28 _ _ _ rfl) rfl ?_ ?_
              · exact s_mask [true, true, true, true, true] (s_ret0 rfl)
              · refine s_aload_n (dt_M_forged 29 _ _ _ rfl) rfl ?_
                refine s_getR (c := 1) (j := 65) (o := (some 426)) (dt_M_forged 30 _ _ _ rfl) (kf_M_149) (sc_382 hS) rfl rfl ?_
                refine s_iload (dt_M_forged 31 _ _ _ rfl) rfl ?_
                refine s_iald (N := 30) (dt_M_forged 32 _ _ _ rfl) (sc_426 hS) rfl ?_
                refine s_iload_n (dt_M_forged 33 _ _ _ rfl) rfl ?_
                refine s_if_icmp_ne (tgt := 76) (dt_M_forged 34 _ _ _ rfl) rfl ?_ ?_
                · refine s_aload_n (dt_M_forged 35 _ _ _ rfl) rfl ?_
                  refine s_getR (c := 1) (j := 69) (o := (some 430)) (dt_M_forged 36 _ _ _ rfl) (kf_M_161) (sc_382 hS) rfl rfl ?_
                  refine s_iload_n (dt_M_forged 37 _ _ _ rfl) rfl ?_
                  refine s_aload_n (dt_M_forged 38 _ _ _ rfl) rfl ?_
                  refine s_getR (c := 1) (j := 66) (o := (some 427)) (dt_M_forged 39 _ _ _ rfl) (kf_M_152) (sc_382 hS) rfl rfl ?_
                  refine s_iload (dt_M_forged 40 _ _ _ rfl) rfl ?_
                  refine s_iald (N := 30) (dt_M_forged 41 _ _ _ rfl) (sc_427 hS) rfl ?_
                  refine s_iast (N := 8) (dt_M_forged 42 _ _ _ rfl) (sc_430 hS) rfl ?_
                  refine s_letM (fun M8 => ?_)
                  exact s_mask [true, true, true, true, true] (s_ret0 rfl)
                · exact s_mask [true, true, true, true, true] (s_ret0 rfl)
            refine s_iinc (dt_M_forged 43 _ _ _ rfl) rfl rfl ?_
            refine s_goto (tgt := 33) (dt_M_forged 44 _ _ _ rfl) rfl ?_
            exact s_mask [true, true, true, true, true] (s_ret0 rfl)
          · exact s_mask [true, true, true, true, false] (s_ret0 rfl)
        intro e10
        refine s_aload_n (dt_M_forged 45 _ _ _ rfl) rfl ?_
        refine s_iload_n (dt_M_forged 46 _ _ _ rfl) rfl ?_
        refine s_callO (y := y_M_areSo) (Y' := Y_M_areSo) (as := [VR (some 382), VI a0]) (r := fun q => some (VI q)) (M' := fun q => e10) (kInvV (dt_M_forged 47 _ _ _ rfl) kin_M_areSo 1 rfl (sc_382 hS) kse_M_areSo rfl) kl_M_519 md_M_areSo rfl rfl (fun q hq => c_M_areSo hS a0 e10 q hq) (fun q11 => ?_)
        refine s_bd (κ := fun t13 => kC 96 [some (VR (some 382)), some (VI a0), some (VI t13), some (VI s3.2.1), none] [] S e10) ?_ (fun t13 => ?_)
        · refine s_if_eq (tgt := 96) (dt_M_forged 48 _ _ _ rfl) rfl ?_ ?_
          · exact s_mask [true, true, true, true, false] (s_ret0 rfl)
          · refine s_iload_n (dt_M_forged 49 _ _ _ rfl) rfl ?_
            refine s_iconst (dt_M_forged 50 _ _ _ rfl) rfl ?_
            refine s_iload_n (dt_M_forged 51 _ _ _ rfl) rfl ?_
            refine s_ishl (dt_M_forged 52 _ _ _ rfl) ?_
            refine s_ior (dt_M_forged 53 _ _ _ rfl) ?_
            refine s_letI (fun v12 => ?_)
            refine s_istore_n (dt_M_forged 54 _ _ _ rfl) rfl ?_
            exact s_mask [true, true, true, true, false] (s_ret0 rfl)
        refine s_iinc (dt_M_forged 55 _ _ _ rfl) rfl rfl ?_
        refine s_goto (tgt := 18) (dt_M_forged 56 _ _ _ rfl) rfl ?_
        exact s_mask [true, true, true, true, false] (s_ret0 rfl)
      · exact s_mask [false, false, true, false, false] (s_ret0 rfl)
    intro e14
    refine s_iload_n (dt_M_forged 57 _ _ _ rfl) rfl ?_
    exact s_iret (dt_M_forged 58 _ _ _ rfl) rfl rfl
  · refine s_iconst (dt_M_forged 6 _ _ _ rfl) rfl ?_
    exact s_iret (dt_M_forged 7 _ _ _ rfl) rfl rfl
theorem c_M_forged {S : KS} (hS : KExt 435 S)  (a0 : Int) (M : KM) : ∀ q, f_M_forged a0 M = some q → Ctr y_M_forged Y_M_forged [VR (some 382), VI a0] S M (some (VI q.1)) S (q.2) := fun q hq =>
  ctr_of md_M_forged (Nat.le_of_ble_eq_true rfl) ⟨Nat.le_refl _, Nat.le_refl _⟩ 3 hq rfl (fun _ G => sim_M_forged hS  a0 M)
set_option maxRecDepth 100000 in
theorem sim_M_image {G : Gam} {S : KS} (hS : KExt 435 S)  (a0 : Int) (M : KM) : Sim G Y_M_image (f_M_image a0 M) (kC 0 [some (VR (some 382)), some (VI a0), none] [] S M) (fun (q : Int × KM) => Sum.inr (some (VI q.1), S, q.2)) := by
  unfold f_M_image
  refine s_iload_n (dt_M_image 0 _ _ _ rfl) rfl ?_
  refine s_iconst (dt_M_image 1 _ _ _ rfl) rfl ?_
  refine s_iconst (dt_M_image 2 _ _ _ rfl) rfl ?_
  refine s_callO (y := y_M_isIn) (Y' := Y_M_isIn) (as := [VI a0, VI (0 : Int), VI (2 : Int)]) (r := fun q => some (VI q)) (M' := fun q => M) (kInvS (dt_M_image 3 _ _ _ rfl) kst_M_isIn rfl) kl_M_388 md_M_isIn rfl rfl (fun q hq => c_M_isIn hS a0 (0 : Int) (2 : Int) M q hq) (fun q1 => ?_)
  refine s_if_ne (tgt := 11) (dt_M_image 4 _ _ _ rfl) rfl ?_ ?_
  · refine s_iconst (dt_M_image 5 _ _ _ rfl) rfl ?_
    exact s_iret (dt_M_image 6 _ _ _ rfl) rfl rfl
  · refine s_iconst (dt_M_image 7 _ _ _ rfl) rfl ?_
    refine s_istore_n (dt_M_image 8 _ _ _ rfl) rfl ?_
    refine s_bd (κ := (fun (e4 : KM) => kC 44 [some (VR (some 382)), some (VI a0), none] [] S e4)) (s_mask [true, true, true] (s_while (c := fun s2 => kC 13 [some (VR (some 382)), some (VI a0), some (VI s2.1)] [] S s2.2) (fun s2 => ?_) ((0 : Int), M))) ?_
    · refine s_iload_n (dt_M_image 9 _ _ _ rfl) rfl ?_
      refine s_sipush (dt_M_image 10 _ _ _ rfl) rfl ?_
      refine s_if_icmp_ge (tgt := 44) (dt_M_image 11 _ _ _ rfl) rfl ?_ ?_
      · refine s_aload_n (dt_M_image 12 _ _ _ rfl) rfl ?_
        refine s_getR (c := 1) (j := 76) (o := (some 433)) (dt_M_image 13 _ _ _ rfl) (kf_M_170) (sc_382 hS) rfl rfl ?_
        refine s_sipush (dt_M_image 14 _ _ _ rfl) rfl ?_
        refine s_iload_n (dt_M_image 15 _ _ _ rfl) rfl ?_
        refine s_imul (dt_M_image 16 _ _ _ rfl) ?_
        refine s_iload_n (dt_M_image 17 _ _ _ rfl) rfl ?_
        refine s_iadd (dt_M_image 18 _ _ _ rfl) ?_
        refine s_aload_n (dt_M_image 19 _ _ _ rfl) rfl ?_
        refine s_getR (c := 1) (j := 46) (o := (some 411)) (dt_M_image 20 _ _ _ rfl) (kf_M_101) (sc_382 hS) rfl rfl ?_
        refine s_iload_n (dt_M_image 21 _ _ _ rfl) rfl ?_
        refine s_iald (N := 171) (dt_M_image 22 _ _ _ rfl) (sc_411 hS) rfl ?_
        refine s_iast (N := 513) (dt_M_image 23 _ _ _ rfl) (sc_433 hS) rfl ?_
        refine s_letM (fun M3 => ?_)
        refine s_iinc (dt_M_image 24 _ _ _ rfl) rfl rfl ?_
        refine s_goto (tgt := 13) (dt_M_image 25 _ _ _ rfl) rfl ?_
        exact s_mask [true, true, true] (s_ret0 rfl)
      · exact s_mask [true, true, false] (s_ret0 rfl)
    intro e4
    refine s_aload_n (dt_M_image 26 _ _ _ rfl) rfl ?_
    refine s_getR (c := 1) (j := 77) (o := (some 434)) (dt_M_image 27 _ _ _ rfl) (kf_M_173) (sc_382 hS) rfl rfl ?_
    refine s_iload_n (dt_M_image 28 _ _ _ rfl) rfl ?_
    refine s_iconst (dt_M_image 29 _ _ _ rfl) rfl ?_
    refine s_zast (N := 3) (dt_M_image 30 _ _ _ rfl) (sc_434 hS) rfl ?_
    refine s_letM (fun M5 => ?_)
    refine s_aload_n (dt_M_image 31 _ _ _ rfl) rfl ?_
    refine s_getR (c := 1) (j := 46) (o := (some 411)) (dt_M_image 32 _ _ _ rfl) (kf_M_101) (sc_382 hS) rfl rfl ?_
    refine s_bipush (dt_M_image 33 _ _ _ rfl) rfl ?_
    refine s_iald (N := 171) (dt_M_image 34 _ _ _ rfl) (sc_411 hS) rfl ?_
    exact s_iret (dt_M_image 35 _ _ _ rfl) rfl rfl
theorem c_M_image {S : KS} (hS : KExt 435 S)  (a0 : Int) (M : KM) : ∀ q, f_M_image a0 M = some q → Ctr y_M_image Y_M_image [VR (some 382), VI a0] S M (some (VI q.1)) S (q.2) := fun q hq =>
  ctr_of md_M_image (Nat.le_of_ble_eq_true rfl) ⟨Nat.le_refl _, Nat.le_refl _⟩ 1 hq rfl (fun _ G => sim_M_image hS  a0 M)
