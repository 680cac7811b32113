noncomputable def f_M_clearBank  (M : KM) : Option (KM) := (if 0 ≤ M 382 38 ∧ M 382 38 < 2 then letM_ (mupd M 385 (M 382 38).toNat 0) (fun M1 => (if 0 ≤ M1 382 38 ∧ M1 382 38 < 2 then letM_ (mupd M1 386 (M1 382 38).toNat 0) (fun M2 => (if 0 ≤ M2 382 38 ∧ M2 382 38 < 2 then letM_ (mupd M2 387 (M2 382 38).toNat 0) (fun M3 => (if 0 ≤ M3 382 38 ∧ M3 382 38 < 2 then letM_ (mupd M3 388 (M3 382 38).toNat 0) (fun M4 => (if 0 ≤ M4 382 38 ∧ M4 382 38 < 2 then letM_ (mupd M4 389 (M4 382 38).toNat 0) (fun M5 => (if 0 ≤ M5 382 38 ∧ M5 382 38 < 2 then letM_ (mupd M5 390 (M5 382 38).toNat 0) (fun M6 => (if 0 ≤ M6 382 38 ∧ M6 382 38 < 2 then letM_ (mupd M6 391 (M6 382 38).toNat 120) (fun M7 => (if 0 ≤ M7 382 38 ∧ M7 382 38 < 2 then letM_ (mupd M7 392 (M7 382 38).toNat 0) (fun M8 => (if (0 ≤ M8 382 38 ∧ M8 382 38 < 2) ∧ (0 ≤ 0 ∧ 0 ≤ 1) then letM_ (mupd M8 402 (M8 382 38).toNat 0) (fun M9 => (if (0 ≤ w32 ((w32 (7 * (M9 382 38))) + 6) ∧ w32 ((w32 (7 * (M9 382 38))) + 6) < 14) ∧ (0 ≤ 0 ∧ 0 ≤ 1) then letM_ (mupd M9 403 (w32 ((w32 (7 * (M9 382 38))) + 6)).toNat 0) (fun M10 => letM_ (mupd M10 382 39 (w32 (560 * (M10 382 38)))) (fun M11 => some M11)) else none)) else none)) else none)) else none)) else none)) else none)) else none)) else none)) else none)) else none)
set_option maxRecDepth 100000 in
theorem sim_M_clearBank {G : Gam} {S : KS} (hS : KExt 435 S)   (M : KM) : Sim G Y_M_clearBank (f_M_clearBank  M) (kC 0 [some (VR (some 382))] [] S M) (fun (q : KM) => Sum.inr (none, S, q)) := by
  unfold f_M_clearBank
  refine s_aload_n (dt_M_clearBank 0 _ _ _ rfl) rfl ?_
  refine s_getR (o := (some 385)) (dt_M_clearBank 1 _ _ _ rfl) (kf_M_20) (sc_382 hS) rfl rfl ?_
  refine s_aload_n (dt_M_clearBank 2 _ _ _ rfl) rfl ?_
  refine s_getI (dt_M_clearBank 3 _ _ _ rfl) (kf_M_279) (sc_382 hS) rfl ?_
  refine s_iconst (dt_M_clearBank 4 _ _ _ rfl) rfl ?_
  refine s_iast (N := 2) (dt_M_clearBank 5 _ _ _ rfl) (sc_385 hS) rfl ?_
  refine s_letM (fun M1 => ?_)
  refine s_aload_n (dt_M_clearBank 6 _ _ _ rfl) rfl ?_
  refine s_getR (o := (some 386)) (dt_M_clearBank 7 _ _ _ rfl) (kf_M_24) (sc_382 hS) rfl rfl ?_
  refine s_aload_n (dt_M_clearBank 8 _ _ _ rfl) rfl ?_
  refine s_getI (dt_M_clearBank 9 _ _ _ rfl) (kf_M_279) (sc_382 hS) rfl ?_
  refine s_iconst (dt_M_clearBank 10 _ _ _ rfl) rfl ?_
  refine s_iast (N := 2) (dt_M_clearBank 11 _ _ _ rfl) (sc_386 hS) rfl ?_
  refine s_letM (fun M2 => ?_)
  refine s_aload_n (dt_M_clearBank 12 _ _ _ rfl) rfl ?_
  refine s_getR (o := (some 387)) (dt_M_clearBank 13 _ _ _ rfl) (kf_M_27) (sc_382 hS) rfl rfl ?_
  refine s_aload_n (dt_M_clearBank 14 _ _ _ rfl) rfl ?_
  refine s_getI (dt_M_clearBank 15 _ _ _ rfl) (kf_M_279) (sc_382 hS) rfl ?_
  refine s_iconst (dt_M_clearBank 16 _ _ _ rfl) rfl ?_
  refine s_iast (N := 2) (dt_M_clearBank 17 _ _ _ rfl) (sc_387 hS) rfl ?_
  refine s_letM (fun M3 => ?_)
  refine s_aload_n (dt_M_clearBank 18 _ _ _ rfl) rfl ?_
  refine s_getR (o := (some 388)) (dt_M_clearBank 19 _ _ _ rfl) (kf_M_30) (sc_382 hS) rfl rfl ?_
  refine s_aload_n (dt_M_clearBank 20 _ _ _ rfl) rfl ?_
  refine s_getI (dt_M_clearBank 21 _ _ _ rfl) (kf_M_279) (sc_382 hS) rfl ?_
  refine s_iconst (dt_M_clearBank 22 _ _ _ rfl) rfl ?_
  refine s_iast (N := 2) (dt_M_clearBank 23 _ _ _ rfl) (sc_388 hS) rfl ?_
  refine s_letM (fun M4 => ?_)
  refine s_aload_n (dt_M_clearBank 24 _ _ _ rfl) rfl ?_
  refine s_getR (o := (some 389)) (dt_M_clearBank 25 _ _ _ rfl) (kf_M_33) (sc_382 hS) rfl rfl ?_
  refine s_aload_n (dt_M_clearBank 26 _ _ _ rfl) rfl ?_
  refine s_getI (dt_M_clearBank 27 _ _ _ rfl) (kf_M_279) (sc_382 hS) rfl ?_
  refine s_iconst (dt_M_clearBank 28 _ _ _ rfl) rfl ?_
  refine s_iast (N := 2) (dt_M_clearBank 29 _ _ _ rfl) (sc_389 hS) rfl ?_
  refine s_letM (fun M5 => ?_)
  refine s_aload_n (dt_M_clearBank 30 _ _ _ rfl) rfl ?_
  refine s_getR (o := (some 390)) (dt_M_clearBank 31 _ _ _ rfl) (kf_M_36) (sc_382 hS) rfl rfl ?_
  refine s_aload_n (dt_M_clearBank 32 _ _ _ rfl) rfl ?_
  refine s_getI (dt_M_clearBank 33 _ _ _ rfl) (kf_M_279) (sc_382 hS) rfl ?_
  refine s_iconst (dt_M_clearBank 34 _ _ _ rfl) rfl ?_
  refine s_iast (N := 2) (dt_M_clearBank 35 _ _ _ rfl) (sc_390 hS) rfl ?_
  refine s_letM (fun M6 => ?_)
  refine s_aload_n (dt_M_clearBank 36 _ _ _ rfl) rfl ?_
  refine s_getR (o := (some 391)) (dt_M_clearBank 37 _ _ _ rfl) (kf_M_39) (sc_382 hS) rfl rfl ?_
  refine s_aload_n (dt_M_clearBank 38 _ _ _ rfl) rfl ?_
  refine s_getI (dt_M_clearBank 39 _ _ _ rfl) (kf_M_279) (sc_382 hS) rfl ?_
  refine s_bipush (dt_M_clearBank 40 _ _ _ rfl) rfl ?_
  refine s_iast (N := 2) (dt_M_clearBank 41 _ _ _ rfl) (sc_391 hS) rfl ?_
  refine s_letM (fun M7 => ?_)
  refine s_aload_n (dt_M_clearBank 42 _ _ _ rfl) rfl ?_
  refine s_getR (o := (some 392)) (dt_M_clearBank 43 _ _ _ rfl) (kf_M_42) (sc_382 hS) rfl rfl ?_
  refine s_aload_n (dt_M_clearBank 44 _ _ _ rfl) rfl ?_
  refine s_getI (dt_M_clearBank 45 _ _ _ rfl) (kf_M_279) (sc_382 hS) rfl ?_
  refine s_iconst (dt_M_clearBank 46 _ _ _ rfl) rfl ?_
  refine s_iast (N := 2) (dt_M_clearBank 47 _ _ _ rfl) (sc_392 hS) rfl ?_
  refine s_letM (fun M8 => ?_)
  refine s_aload_n (dt_M_clearBank 48 _ _ _ rfl) rfl ?_
  refine s_getR (o := (some 402)) (dt_M_clearBank 49 _ _ _ rfl) (kf_M_72) (sc_382 hS) rfl rfl ?_
  refine s_aload_n (dt_M_clearBank 50 _ _ _ rfl) rfl ?_
  refine s_getI (dt_M_clearBank 51 _ _ _ rfl) (kf_M_279) (sc_382 hS) rfl ?_
  refine s_iconst (dt_M_clearBank 52 _ _ _ rfl) rfl ?_
  refine s_zast (N := 2) (dt_M_clearBank 53 _ _ _ rfl) (sc_402 hS) rfl ?_
  refine s_letM (fun M9 => ?_)
  refine s_aload_n (dt_M_clearBank 54 _ _ _ rfl) rfl ?_
  refine s_getR (o := (some 403)) (dt_M_clearBank 55 _ _ _ rfl) (kf_M_76) (sc_382 hS) rfl rfl ?_
  refine s_bipush (dt_M_clearBank 56 _ _ _ rfl) rfl ?_
  refine s_aload_n (dt_M_clearBank 57 _ _ _ rfl) rfl ?_
  refine s_getI (dt_M_clearBank 58 _ _ _ rfl) (kf_M_279) (sc_382 hS) rfl ?_
  refine s_imul (dt_M_clearBank 59 _ _ _ rfl) ?_
  refine s_bipush (dt_M_clearBank 60 _ _ _ rfl) rfl ?_
  refine s_iadd (dt_M_clearBank 61 _ _ _ rfl) ?_
  refine s_iconst (dt_M_clearBank 62 _ _ _ rfl) rfl ?_
  refine s_zast (N := 14) (dt_M_clearBank 63 _ _ _ rfl) (sc_403 hS) rfl ?_
  refine s_letM (fun M10 => ?_)
  refine s_aload_n (dt_M_clearBank 64 _ _ _ rfl) rfl ?_
  refine s_sipush (dt_M_clearBank 65 _ _ _ rfl) rfl ?_
  refine s_aload_n (dt_M_clearBank 66 _ _ _ rfl) rfl ?_
  refine s_getI (dt_M_clearBank 67 _ _ _ rfl) (kf_M_279) (sc_382 hS) rfl ?_
  refine s_imul (dt_M_clearBank 68 _ _ _ rfl) ?_
  refine s_putI (dt_M_clearBank 69 _ _ _ rfl) kp_M_282 (sc_382 hS) ⟨rfl, rfl⟩ ?_
  refine s_letM (fun M11 => ?_)
  exact s_vret (dt_M_clearBank 70 _ _ _ rfl) rfl rfl
theorem c_M_clearBank {S : KS} (hS : KExt 435 S)   (M : KM) : ∀ q, f_M_clearBank  M = some q → Ctr y_M_clearBank Y_M_clearBank [VR (some 382)] S M (none) S (q) := fun q hq =>
  ctr_of md_M_clearBank (Nat.le_of_ble_eq_true rfl) ⟨Nat.le_refl _, Nat.le_refl _⟩ 0 hq rfl (fun _ G => sim_M_clearBank hS   M)
noncomputable def f_M_isDigit (a0 : Int) (M : KM) : Option (Int) := Option.bind ((if a0 < 48 then some 0 else (if a0 ≤ 57 then some 1 else some 0)) : Option (Int)) (fun t1 => (if 0 ≤ t1 ∧ t1 ≤ 1 then some t1 else none))
set_option maxRecDepth 100000 in
theorem sim_M_isDigit {G : Gam} {S : KS} (hS : KExt 435 S)  (a0 : Int) (M : KM) : Sim G Y_M_isDigit (f_M_isDigit a0 M) (kC 0 [some (VI a0)] [] S M) (fun (q : Int) => Sum.inr (some (VI q), S, M)) := by
  unfold f_M_isDigit
  refine s_iload_n (dt_M_isDigit 0 _ _ _ rfl) rfl ?_
  refine s_bipush (dt_M_isDigit 1 _ _ _ rfl) rfl ?_
  refine s_bd (κ := fun t1 => kC 17 [none] [VI t1] S M) ?_ (fun t1 => ?_)
  · refine s_if_icmp_lt (tgt := 16) (dt_M_isDigit 2 _ _ _ rfl) rfl ?_ ?_
    · refine s_iconst (dt_M_isDigit 8 _ _ _ rfl) rfl ?_
      exact s_mask [false] (s_ret0 rfl)
    · refine s_iload_n (dt_M_isDigit 3 _ _ _ rfl) rfl ?_
      refine s_bipush (dt_M_isDigit 4 _ _ _ rfl) rfl ?_
      refine s_if_icmp_gt (tgt := 16) (dt_M_isDigit 5 _ _ _ rfl) rfl ?_ ?_
      · refine s_iconst (dt_M_isDigit 6 _ _ _ rfl) rfl ?_
        refine s_goto (tgt := 17) (dt_M_isDigit 7 _ _ _ rfl) rfl ?_
        exact s_mask [false] (s_ret0 rfl)
      · refine s_iconst (dt_M_isDigit 8 _ _ _ rfl) rfl ?_
        exact s_mask [false] (s_ret0 rfl)
  exact s_zret (dt_M_isDigit 9 _ _ _ rfl) rfl rfl
theorem c_M_isDigit {S : KS} (hS : KExt 435 S)  (a0 : Int) (M : KM) : ∀ q, f_M_isDigit a0 M = some q → Ctr y_M_isDigit Y_M_isDigit [VI a0] S M (some (VI q)) S (M) := fun q hq =>
  ctr_of md_M_isDigit (Nat.le_of_ble_eq_true rfl) ⟨Nat.le_refl _, Nat.le_refl _⟩ 0 hq rfl (fun _ G => sim_M_isDigit hS  a0 M)
noncomputable def f_M_isKept (a0 : Int) (M : KM) : Option (Int) := Option.bind ((if klcmp a0 123581014175598 = 0 then some 1 else (if klcmp a0 6383461 = 0 then some 1 else (if klcmp a0 1668245870 = 0 then some 1 else (if klcmp a0 1852138852 = 0 then some 1 else (if klcmp a0 112568633486457 = 0 then some 1 else (if klcmp a0 112641580559972 = 0 then some 1 else (if klcmp a0 29807 = 0 then some 1 else (if klcmp a0 482955846501 = 0 then some 1 else some 0)))))))) : Option (Int)) (fun t1 => Option.bind ((if t1 = 0 then (if klcmp a0 491394656372 = 0 then some 1 else (if klcmp a0 1868850291 = 0 then some 1 else (if klcmp a0 1634166131 = 0 then some 1 else (if klcmp a0 1685217655 = 0 then some 1 else (if klcmp a0 2036687218 = 0 then some 1 else (if klcmp a0 28530 = 0 then some 1 else (if klcmp a0 6385252 = 0 then some 1 else (if klcmp a0 7237492 = 0 then some 1 else some 0)))))))) else some 1) : Option (Int)) (fun t2 => (if 0 ≤ t2 ∧ t2 ≤ 1 then some t2 else none)))
set_option maxRecDepth 100000 in
theorem sim_M_isKept {G : Gam} {S : KS} (hS : KExt 435 S)  (a0 : Int) (M : KM) : Sim G Y_M_isKept (f_M_isKept a0 M) (kC 0 [some (VJ a0), none, none] [] S M) (fun (q : Int) => Sum.inr (some (VI q), S, M)) := by
  unfold f_M_isKept
  refine s_lload_n (dt_M_isKept 0 _ _ _ rfl) rfl ?_
  refine s_ldc2 (n := 123581014175598) (kc_M_188) (dt_M_isKept 1 _ _ _ rfl) rfl ?_
  refine s_lcmp (dt_M_isKept 2 _ _ _ rfl) ?_
  refine s_bd (κ := fun t1 => kC 69 [some (VJ a0), none, none] [VI t1] S M) ?_ (fun t1 => ?_)
  · refine s_if_eq (tgt := 64) (dt_M_isKept 3 _ _ _ rfl) rfl ?_ ?_
    · refine s_iconst (dt_M_isKept 32 _ _ _ rfl) rfl ?_
      refine s_goto (tgt := 69) (dt_M_isKept 33 _ _ _ rfl) rfl ?_
      exact s_mask [true, false, false] (s_ret0 rfl)
    · refine s_lload_n (dt_M_isKept 4 _ _ _ rfl) rfl ?_
      refine s_ldc2 (n := 6383461) (kc_M_190) (dt_M_isKept 5 _ _ _ rfl) rfl ?_
      refine s_lcmp (dt_M_isKept 6 _ _ _ rfl) ?_
      refine s_if_eq (tgt := 64) (dt_M_isKept 7 _ _ _ rfl) rfl ?_ ?_
      · refine s_iconst (dt_M_isKept 32 _ _ _ rfl) rfl ?_
        refine s_goto (tgt := 69) (dt_M_isKept 33 _ _ _ rfl) rfl ?_
        exact s_mask [true, false, false] (s_ret0 rfl)
      · refine s_lload_n (dt_M_isKept 8 _ _ _ rfl) rfl ?_
        refine s_ldc2 (n := 1668245870) (kc_M_192) (dt_M_isKept 9 _ _ _ rfl) rfl ?_
        refine s_lcmp (dt_M_isKept 10 _ _ _ rfl) ?_
        refine s_if_eq (tgt := 64) (dt_M_isKept 11 _ _ _ rfl) rfl ?_ ?_
        · refine s_iconst (dt_M_isKept 32 _ _ _ rfl) rfl ?_
          refine s_goto (tgt := 69) (dt_M_isKept 33 _ _ _ rfl) rfl ?_
          exact s_mask [true, false, false] (s_ret0 rfl)
        · refine s_lload_n (dt_M_isKept 12 _ _ _ rfl) rfl ?_
          refine s_ldc2 (n := 1852138852) (kc_M_194) (dt_M_isKept 13 _ _ _ rfl) rfl ?_
          refine s_lcmp (dt_M_isKept 14 _ _ _ rfl) ?_
          refine s_if_eq (tgt := 64) (dt_M_isKept 15 _ _ _ rfl) rfl ?_ ?_
          · refine s_iconst (dt_M_isKept 32 _ _ _ rfl) rfl ?_
            refine s_goto (tgt := 69) (dt_M_isKept 33 _ _ _ rfl) rfl ?_
            exact s_mask [true, false, false] (s_ret0 rfl)
          · refine s_lload_n (dt_M_isKept 16 _ _ _ rfl) rfl ?_
            refine s_ldc2 (n := 112568633486457) (kc_M_196) (dt_M_isKept 17 _ _ _ rfl) rfl ?_
            refine s_lcmp (dt_M_isKept 18 _ _ _ rfl) ?_
            refine s_if_eq (tgt := 64) (dt_M_isKept 19 _ _ _ rfl) rfl ?_ ?_
            · refine s_iconst (dt_M_isKept 32 _ _ _ rfl) rfl ?_
              refine s_goto (tgt := 69) (dt_M_isKept 33 _ _ _ rfl) rfl ?_
              exact s_mask [true, false, false] (s_ret0 rfl)
            · refine s_lload_n (dt_M_isKept 20 _ _ _ rfl) rfl ?_
              refine s_ldc2 (n := 112641580559972) (kc_M_198) (dt_M_isKept 21 _ _ _ rfl) rfl ?_
              refine s_lcmp (dt_M_isKept 22 _ _ _ rfl) ?_
              refine s_if_eq (tgt := 64) (dt_M_isKept 23 _ _ _ rfl) rfl ?_ ?_
              · refine s_iconst (dt_M_isKept 32 _ _ _ rfl) rfl ?_
                refine s_goto (tgt := 69) (dt_M_isKept 33 _ _ _ rfl) rfl ?_
                exact s_mask [true, false, false] (s_ret0 rfl)
              · refine s_lload_n (dt_M_isKept 24 _ _ _ rfl) rfl ?_
                refine s_ldc2 (n := 29807) (kc_M_200) (dt_M_isKept 25 _ _ _ rfl) rfl ?_
                refine s_lcmp (dt_M_isKept 26 _ _ _ rfl) ?_
                refine s_if_eq (tgt := 64) (dt_M_isKept 27 _ _ _ rfl) rfl ?_ ?_
                · refine s_iconst (dt_M_isKept 32 _ _ _ rfl) rfl ?_
                  refine s_goto (tgt := 69) (dt_M_isKept 33 _ _ _ rfl) rfl ?_
                  exact s_mask [true, false, false] (s_ret0 rfl)
                · refine s_lload_n (dt_M_isKept 28 _ _ _ rfl) rfl ?_
                  refine s_ldc2 (n := 482955846501) (kc_M_202) (dt_M_isKept 29 _ _ _ rfl) rfl ?_
                  refine s_lcmp (dt_M_isKept 30 _ _ _ rfl) ?_
                  refine s_if_ne (tgt := 68) (dt_M_isKept 31 _ _ _ rfl) rfl ?_ ?_
                  · refine s_iconst (dt_M_isKept 32 _ _ _ rfl) rfl ?_
                    refine s_goto (tgt := 69) (dt_M_isKept 33 _ _ _ rfl) rfl ?_
                    exact s_mask [true, false, false] (s_ret0 rfl)
                  · refine s_iconst (dt_M_isKept 34 _ _ _ rfl) rfl ?_
                    exact s_mask [true, false, false] (s_ret0 rfl)
  refine s_istore_n (dt_M_isKept 35 _ _ _ rfl) rfl ?_
  refine s_iload_n (dt_M_isKept 36 _ _ _ rfl) rfl ?_
  refine s_bd (κ := fun t2 => kC 143 [none, none, none] [VI t2] S M) ?_ (fun t2 => ?_)
  · refine s_if_ne (tgt := 138) (dt_M_isKept 37 _ _ _ rfl) rfl ?_ ?_
    · refine s_lload_n (dt_M_isKept 38 _ _ _ rfl) rfl ?_
      refine s_ldc2 (n := 491394656372) (kc_M_204) (dt_M_isKept 39 _ _ _ rfl) rfl ?_
      refine s_lcmp (dt_M_isKept 40 _ _ _ rfl) ?_
      refine s_if_eq (tgt := 138) (dt_M_isKept 41 _ _ _ rfl) rfl ?_ ?_
      · refine s_iconst (dt_M_isKept 70 _ _ _ rfl) rfl ?_
        refine s_goto (tgt := 143) (dt_M_isKept 71 _ _ _ rfl) rfl ?_
        exact s_mask [false, false, false] (s_ret0 rfl)
      · refine s_lload_n (dt_M_isKept 42 _ _ _ rfl) rfl ?_
        refine s_ldc2 (n := 1868850291) (kc_M_206) (dt_M_isKept 43 _ _ _ rfl) rfl ?_
        refine s_lcmp (dt_M_isKept 44 _ _ _ rfl) ?_
        refine s_if_eq (tgt := 138) (dt_M_isKept 45 _ _ _ rfl) rfl ?_ ?_
        · refine s_iconst (dt_M_isKept 70 _ _ _ rfl) rfl ?_
          refine s_goto (tgt := 143) (dt_M_isKept 71 _ _ _ rfl) rfl ?_
          exact s_mask [false, false, false] (s_ret0 rfl)
        · refine s_lload_n (dt_M_isKept 46 _ _ _ rfl) rfl ?_
          refine s_ldc2 (n := 1634166131) (kc_M_208) (dt_M_isKept 47 _ _ _ rfl) rfl ?_
          refine s_lcmp (dt_M_isKept 48 _ _ _ rfl) ?_
          refine s_if_eq (tgt := 138) (dt_M_isKept 49 _ _ _ rfl) rfl ?_ ?_
          · refine s_iconst (dt_M_isKept 70 _ _ _ rfl) rfl ?_
            refine s_goto (tgt := 143) (dt_M_isKept 71 _ _ _ rfl) rfl ?_
            exact s_mask [false, false, false] (s_ret0 rfl)
          · refine s_lload_n (dt_M_isKept 50 _ _ _ rfl) rfl ?_
            refine s_ldc2 (n := 1685217655) (kc_M_210) (dt_M_isKept 51 _ _ _ rfl) rfl ?_
            refine s_lcmp (dt_M_isKept 52 _ _ _ rfl) ?_
            refine s_if_eq (tgt := 138) (dt_M_isKept 53 _ _ _ rfl) rfl ?_ ?_
            · refine s_iconst (dt_M_isKept 70 _ _ _ rfl) rfl ?_
              refine s_goto (tgt := 143) (dt_M_isKept 71 _ _ _ rfl) rfl ?_
              exact s_mask [false, false, false] (s_ret0 rfl)
            · refine s_lload_n (dt_M_isKept 54 _ _ _ rfl) rfl ?_
              refine s_ldc2 (n := 2036687218) (kc_M_212) (dt_M_isKept 55 _ _ _ rfl) rfl ?_
              refine s_lcmp (dt_M_isKept 56 _ _ _ rfl) ?_
              refine s_if_eq (tgt := 138) (dt_M_isKept 57 _ _ _ rfl) rfl ?_ ?_
              · refine s_iconst (dt_M_isKept 70 _ _ _ rfl) rfl ?_
                refine s_goto (tgt := 143) (dt_M_isKept 71 _ _ _ rfl) rfl ?_
                exact s_mask [false, false, false] (s_ret0 rfl)
              · refine s_lload_n (dt_M_isKept 58 _ _ _ rfl) rfl ?_
                refine s_ldc2 (n := 28530) (kc_M_214) (dt_M_isKept 59 _ _ _ rfl) rfl ?_
                refine s_lcmp (dt_M_isKept 60 _ _ _ rfl) ?_
                refine s_if_eq (tgt := 138) (dt_M_isKept 61 _ _ _ rfl) rfl ?_ ?_
                · refine s_iconst (dt_M_isKept 70 _ _ _ rfl) rfl ?_
                  refine s_goto (tgt := 143) (dt_M_isKept 71 _ _ _ rfl) rfl ?_
                  exact s_mask [false, false, false] (s_ret0 rfl)
                · refine s_lload_n (dt_M_isKept 62 _ _ _ rfl) rfl ?_
                  refine s_ldc2 (n := 6385252) (kc_M_216) (dt_M_isKept 63 _ _ _ rfl) rfl ?_
                  refine s_lcmp (dt_M_isKept 64 _ _ _ rfl) ?_
                  refine s_if_eq (tgt := 138) (dt_M_isKept 65 _ _ _ rfl) rfl ?_ ?_
                  · refine s_iconst (dt_M_isKept 70 _ _ _ rfl) rfl ?_
                    refine s_goto (tgt := 143) (dt_M_isKept 71 _ _ _ rfl) rfl ?_
                    exact s_mask [false, false, false] (s_ret0 rfl)
                  · refine s_lload_n (dt_M_isKept 66 _ _ _ rfl) rfl ?_
                    refine s_ldc2 (n := 7237492) (kc_M_218) (dt_M_isKept 67 _ _ _ rfl) rfl ?_
                    refine s_lcmp (dt_M_isKept 68 _ _ _ rfl) ?_
                    refine s_if_ne (tgt := 142) (dt_M_isKept 69 _ _ _ rfl) rfl ?_ ?_
                    · refine s_iconst (dt_M_isKept 70 _ _ _ rfl) rfl ?_
                      refine s_goto (tgt := 143) (dt_M_isKept 71 _ _ _ rfl) rfl ?_
                      exact s_mask [false, false, false] (s_ret0 rfl)
                    · refine s_iconst (dt_M_isKept 72 _ _ _ rfl) rfl ?_
                      exact s_mask [false, false, false] (s_ret0 rfl)
    · refine s_iconst (dt_M_isKept 70 _ _ _ rfl) rfl ?_
      refine s_goto (tgt := 143) (dt_M_isKept 71 _ _ _ rfl) rfl ?_
      exact s_mask [false, false, false] (s_ret0 rfl)
  exact s_zret (dt_M_isKept 73 _ _ _ rfl) rfl rfl
theorem c_M_isKept {S : KS} (hS : KExt 435 S)  (a0 : Int) (M : KM) : ∀ q, f_M_isKept a0 M = some q → Ctr y_M_isKept Y_M_isKept [VJ a0] S M (some (VI q)) S (M) := fun q hq =>
  ctr_of md_M_isKept (Nat.le_of_ble_eq_true rfl) ⟨Nat.le_refl _, Nat.le_refl _⟩ 1 hq rfl (fun _ G => sim_M_isKept hS  a0 M)
noncomputable def f_M_isLetter (a0 : Int) (M : KM) : Option (Int) := Option.bind ((if a0 < 97 then some 0 else (if a0 ≤ 122 then some 1 else some 0)) : Option (Int)) (fun t1 => (if 0 ≤ t1 ∧ t1 ≤ 1 then some t1 else none))
set_option maxRecDepth 100000 in
theorem sim_M_isLetter {G : Gam} {S : KS} (hS : KExt 435 S)  (a0 : Int) (M : KM) : Sim G Y_M_isLetter (f_M_isLetter a0 M) (kC 0 [some (VI a0)] [] S M) (fun (q : Int) => Sum.inr (some (VI q), S, M)) := by
  unfold f_M_isLetter
  refine s_iload_n (dt_M_isLetter 0 _ _ _ rfl) rfl ?_
  refine s_bipush (dt_M_isLetter 1 _ _ _ rfl) rfl ?_
  refine s_bd (κ := fun t1 => kC 17 [none] [VI t1] S M) ?_ (fun t1 => ?_)
  · refine s_if_icmp_lt (tgt := 16) (dt_M_isLetter 2 _ _ _ rfl) rfl ?_ ?_
    · refine s_iconst (dt_M_isLetter 8 _ _ _ rfl) rfl ?_
      exact s_mask [false] (s_ret0 rfl)
    · refine s_iload_n (dt_M_isLetter 3 _ _ _ rfl) rfl ?_
      refine s_bipush (dt_M_isLetter 4 _ _ _ rfl) rfl ?_
      refine s_if_icmp_gt (tgt := 16) (dt_M_isLetter 5 _ _ _ rfl) rfl ?_ ?_
      · refine s_iconst (dt_M_isLetter 6 _ _ _ rfl) rfl ?_
        refine s_goto (tgt := 17) (dt_M_isLetter 7 _ _ _ rfl) rfl ?_
        exact s_mask [false] (s_ret0 rfl)
      · refine s_iconst (dt_M_isLetter 8 _ _ _ rfl) rfl ?_
        exact s_mask [false] (s_ret0 rfl)
  exact s_zret (dt_M_isLetter 9 _ _ _ rfl) rfl rfl
theorem c_M_isLetter {S : KS} (hS : KExt 435 S)  (a0 : Int) (M : KM) : ∀ q, f_M_isLetter a0 M = some q → Ctr y_M_isLetter Y_M_isLetter [VI a0] S M (some (VI q)) S (M) := fun q hq =>
  ctr_of md_M_isLetter (Nat.le_of_ble_eq_true rfl) ⟨Nat.le_refl _, Nat.le_refl _⟩ 0 hq rfl (fun _ G => sim_M_isLetter hS  a0 M)
noncomputable def f_M_isSign (a0 : Int) (M : KM) : Option (Int) := Option.bind ((if a0 = 59 then some 1 else (if a0 = 40 then some 1 else (if a0 = 41 then some 1 else (if a0 = 60 then some 1 else (if a0 = 62 then some 1 else (if a0 = 61 then some 1 else (if a0 = 43 then some 1 else (if a0 = 45 then some 1 else (if a0 = 42 then some 1 else (if a0 = 47 then some 1 else (if a0 = 37 then some 1 else some 0))))))))))) : Option (Int)) (fun t1 => (if 0 ≤ t1 ∧ t1 ≤ 1 then some t1 else none))
set_option maxRecDepth 100000 in
theorem sim_M_isSign {G : Gam} {S : KS} (hS : KExt 435 S)  (a0 : Int) (M : KM) : Sim G Y_M_isSign (f_M_isSign a0 M) (kC 0 [some (VI a0)] [] S M) (fun (q : Int) => Sum.inr (some (VI q), S, M)) := by
  unfold f_M_isSign
  refine s_iload_n (dt_M_isSign 0 _ _ _ rfl) rfl ?_
  refine s_bipush (dt_M_isSign 1 _ _ _ rfl) rfl ?_
  refine s_bd (κ := fun t1 => kC 71 [none] [VI t1] S M) ?_ (fun t1 => ?_)
  · refine s_if_icmp_eq (tgt := 66) (dt_M_isSign 2 _ _ _ rfl) rfl ?_ ?_
    · refine s_iconst (dt_M_isSign 33 _ _ _ rfl) rfl ?_
      refine s_goto (tgt := 71) (dt_M_isSign 34 _ _ _ rfl) rfl ?_
      exact s_mask [false] (s_ret0 rfl)
    · refine s_iload_n (dt_M_isSign 3 _ _ _ rfl) rfl ?_
      refine s_bipush (dt_M_isSign 4 _ _ _ rfl) rfl ?_
      refine s_if_icmp_eq (tgt := 66) (dt_M_isSign 5 _ _ _ rfl) rfl ?_ ?_
      · refine s_iconst (dt_M_isSign 33 _ _ _ rfl) rfl ?_
        refine s_goto (tgt := 71) (dt_M_isSign 34 _ _ _ rfl) rfl ?_
        exact s_mask [false] (s_ret0 rfl)
      · refine s_iload_n (dt_M_isSign 6 _ _ _ rfl) rfl ?_
        refine s_bipush (dt_M_isSign 7 _ _ _ rfl) rfl ?_
        refine s_if_icmp_eq (tgt := 66) (dt_M_isSign 8 _ _ _ rfl) rfl ?_ ?_
        · refine s_iconst (dt_M_isSign 33 _ _ _ rfl) rfl ?_
          refine s_goto (tgt := 71) (dt_M_isSign 34 _ _ _ rfl) rfl ?_
          exact s_mask [false] (s_ret0 rfl)
        · refine s_iload_n (dt_M_isSign 9 _ _ _ rfl) rfl ?_
          refine s_bipush (dt_M_isSign 10 _ _ _ rfl) rfl ?_
          refine s_if_icmp_eq (tgt := 66) (dt_M_isSign 11 _ _ _ rfl) rfl ?_ ?_
          · refine s_iconst (dt_M_isSign 33 _ _ _ rfl) rfl ?_
            refine s_goto (tgt := 71) (dt_M_isSign 34 _ _ _ rfl) rfl ?_
            exact s_mask [false] (s_ret0 rfl)
          · refine s_iload_n (dt_M_isSign 12 _ _ _ rfl) rfl ?_
            refine s_bipush (dt_M_isSign 13 _ _ _ rfl) rfl ?_
            refine s_if_icmp_eq (tgt := 66) (dt_M_isSign 14 _ _ _ rfl) rfl ?_ ?_
            · refine s_iconst (dt_M_isSign 33 _ _ _ rfl) rfl ?_
              refine s_goto (tgt := 71) (dt_M_isSign 34 _ _ _ rfl) rfl ?_
              exact s_mask [false] (s_ret0 rfl)
            · refine s_iload_n (dt_M_isSign 15 _ _ _ rfl) rfl ?_
              refine s_bipush (dt_M_isSign 16 _ _ _ rfl) rfl ?_
              refine s_if_icmp_eq (tgt := 66) (dt_M_isSign 17 _ _ _ rfl) rfl ?_ ?_
              · refine s_iconst (dt_M_isSign 33 _ _ _ rfl) rfl ?_
                refine s_goto (tgt := 71) (dt_M_isSign 34 _ _ _ rfl) rfl ?_
                exact s_mask [false] (s_ret0 rfl)
              · refine s_iload_n (dt_M_isSign 18 _ _ _ rfl) rfl ?_
                refine s_bipush (dt_M_isSign 19 _ _ _ rfl) rfl ?_
                refine s_if_icmp_eq (tgt := 66) (dt_M_isSign 20 _ _ _ rfl) rfl ?_ ?_
                · refine s_iconst (dt_M_isSign 33 _ _ _ rfl) rfl ?_
                  refine s_goto (tgt := 71) (dt_M_isSign 34 _ _ _ rfl) rfl ?_
                  exact s_mask [false] (s_ret0 rfl)
                · refine s_iload_n (dt_M_isSign 21 _ _ _ rfl) rfl ?_
                  refine s_bipush (dt_M_isSign 22 _ _ _ rfl) rfl ?_
                  refine s_if_icmp_eq (tgt := 66) (dt_M_isSign 23 _ _ _ rfl) rfl ?_ ?_
                  · refine s_iconst (dt_M_isSign 33 _ _ _ rfl) rfl ?_
                    refine s_goto (tgt := 71) (dt_M_isSign 34 _ _ _ rfl) rfl ?_
                    exact s_mask [false] (s_ret0 rfl)
                  · refine s_iload_n (dt_M_isSign 24 _ _ _ rfl) rfl ?_
                    refine s_bipush (dt_M_isSign 25 _ _ _ rfl) rfl ?_
                    refine s_if_icmp_eq (tgt := 66) (dt_M_isSign 26 _ _ _ rfl) rfl ?_ ?_
                    · refine s_iconst (dt_M_isSign 33 _ _ _ rfl) rfl ?_
                      refine s_goto (tgt := 71) (dt_M_isSign 34 _ _ _ rfl) rfl ?_
                      exact s_mask [false] (s_ret0 rfl)
                    · refine s_iload_n (dt_M_isSign 27 _ _ _ rfl) rfl ?_
                      refine s_bipush (dt_M_isSign 28 _ _ _ rfl) rfl ?_
                      refine s_if_icmp_eq (tgt := 66) (dt_M_isSign 29 _ _ _ rfl) rfl ?_ ?_
                      · refine s_iconst (dt_M_isSign 33 _ _ _ rfl) rfl ?_
                        refine s_goto (tgt := 71) (dt_M_isSign 34 _ _ _ rfl) rfl ?_
                        exact s_mask [false] (s_ret0 rfl)
                      · refine s_iload_n (dt_M_isSign 30 _ _ _ rfl) rfl ?_
                        refine s_bipush (dt_M_isSign 31 _ _ _ rfl) rfl ?_
                        refine s_if_icmp_ne (tgt := 70) (dt_M_isSign 32 _ _ _ rfl) rfl ?_ ?_
                        · refine s_iconst (dt_M_isSign 33 _ _ _ rfl) rfl ?_
                          refine s_goto (tgt := 71) (dt_M_isSign 34 _ _ _ rfl) rfl ?_
                          exact s_mask [false] (s_ret0 rfl)
                        · refine s_iconst (dt_M_isSign 35 _ _ _ rfl) rfl ?_
                          exact s_mask [false] (s_ret0 rfl)
  exact s_zret (dt_M_isSign 36 _ _ _ rfl) rfl rfl
theorem c_M_isSign {S : KS} (hS : KExt 435 S)  (a0 : Int) (M : KM) : ∀ q, f_M_isSign a0 M = some q → Ctr y_M_isSign Y_M_isSign [VI a0] S M (some (VI q)) S (M) := fun q hq =>
  ctr_of md_M_isSign (Nat.le_of_ble_eq_true rfl) ⟨Nat.le_refl _, Nat.le_refl _⟩ 0 hq rfl (fun _ G => sim_M_isSign hS  a0 M)
noncomputable def f_M_sign (a0 : Int) (M : KM) : Option (Int) := Option.bind ((if a0 < M 382 3 then (if 0 ≤ a0 ∧ a0 < 1600 then some (kiand (M 384 (a0).toNat) 255) else none) else some 0) : Option (Int)) (fun t1 => some t1)
set_option maxRecDepth 100000 in
theorem sim_M_sign {G : Gam} {S : KS} (hS : KExt 435 S)  (a0 : Int) (M : KM) : Sim G Y_M_sign (f_M_sign a0 M) (kC 0 [some (VR (some 382)), some (VI a0)] [] S M) (fun (q : Int) => Sum.inr (some (VI q), S, M)) := by
  unfold f_M_sign
  refine s_iload_n (dt_M_sign 0 _ _ _ rfl) rfl ?_
  refine s_aload_n (dt_M_sign 1 _ _ _ rfl) rfl ?_
  refine s_getI (dt_M_sign 2 _ _ _ rfl) (kf_M_182) (sc_382 hS) rfl ?_
  refine s_bd (κ := fun t1 => kC 22 [none, none] [VI t1] S M) ?_ (fun t1 => ?_)
  · refine s_if_icmp_ge (tgt := 21) (dt_M_sign 3 _ _ _ rfl) rfl ?_ ?_
    · refine s_aload_n (dt_M_sign 4 _ _ _ rfl) rfl ?_
      refine s_getR (o := (some 384)) (dt_M_sign 5 _ _ _ rfl) (kf_M_13) (sc_382 hS) rfl rfl ?_
      refine s_iload_n (dt_M_sign 6 _ _ _ rfl) rfl ?_
      refine s_bald (N := 1600) (dt_M_sign 7 _ _ _ rfl) (sc_384 hS) rfl ?_
      refine s_sipush (dt_M_sign 8 _ _ _ rfl) rfl ?_
      refine s_iand (dt_M_sign 9 _ _ _ rfl) ?_
      refine s_goto (tgt := 22) (dt_M_sign 10 _ _ _ rfl) rfl ?_
      exact s_mask [false, false] (s_ret0 rfl)
    · refine s_iconst (dt_M_sign 11 _ _ _ rfl) rfl ?_
      exact s_mask [false, false] (s_ret0 rfl)
  exact s_iret (dt_M_sign 12 _ _ _ rfl) rfl rfl
theorem c_M_sign {S : KS} (hS : KExt 435 S)  (a0 : Int) (M : KM) : ∀ q, f_M_sign a0 M = some q → Ctr y_M_sign Y_M_sign [VR (some 382), VI a0] S M (some (VI q)) S (M) := fun q hq =>
  ctr_of md_M_sign (Nat.le_of_ble_eq_true rfl) ⟨Nat.le_refl _, Nat.le_refl _⟩ 0 hq rfl (fun _ G => sim_M_sign hS  a0 M)
noncomputable def f_M_goOn  (M : KM) : Option (KM) := letM_ (mupd M 382 6 (M 382 7)) (fun M1 => Option.bind (whileO (σ := KM) (ε := KM) (fun s2 => (if s2 382 6 < s2 382 3 then Option.bind (f_M_sign (s2 382 6) s2) (fun q3 => (if q3 = 32 then letM_ (mupd s2 382 6 (w32 ((s2 382 6) + 1))) (fun M4 => some (Sum.inl M4)) else Option.bind (f_M_sign (s2 382 6) s2) (fun q5 => (if q5 = 10 then letM_ (mupd s2 382 6 (w32 ((s2 382 6) + 1))) (fun M6 => some (Sum.inl M6)) else some (Sum.inr s2))))) else some (Sum.inr s2))) M1) (fun e7 => Option.bind (f_M_sign (e7 382 6) e7) (fun q8 => letM_ (mupd e7 382 7 (w32 ((e7 382 6) + 1))) (fun M9 => Option.bind ((if M9 382 6 < M9 382 3 then Option.bind (f_M_isLetter q8 M9) (fun q10 => (if q10 = 0 then Option.bind (f_M_isDigit q8 M9) (fun q11 => (if q11 = 0 then Option.bind (f_M_isSign q8 M9) (fun q12 => Option.bind ((if q12 = 0 then some 1 else some 5) : Option (Int)) (fun t13 => letM_ (mupd M9 382 8 t13) (fun M14 => some M14))) else letM_ (mupd M9 382 9 0) (fun M15 => letM_ (mupd M15 382 7 (M15 382 6)) (fun M16 => Option.bind (whileO (σ := KM) (ε := KM) (fun s17 => Option.bind (f_M_sign (s17 382 7) s17) (fun q18 => Option.bind (f_M_isDigit q18 s17) (fun q19 => (if q19 = 0 then some (Sum.inr s17) else Option.bind ((if w32 ((s17 382 7) - (s17 382 6)) < 4 then Option.bind (f_M_sign (s17 382 7) s17) (fun q20 => letM_ (mupd s17 382 9 (w32 ((w32 ((w32 (10 * (s17 382 9))) + q20)) - 48))) (fun M21 => some M21)) else some s17) : Option (KM)) (fun t22 => letM_ (mupd t22 382 7 (w32 ((t22 382 7) + 1))) (fun M23 => some (Sum.inl M23))))))) M16) (fun e24 => Option.bind ((if w32 ((e24 382 7) - (e24 382 6)) ≤ 4 then Option.bind (f_M_sign (e24 382 7) e24) (fun q25 => Option.bind (f_M_isLetter q25 e24) (fun q26 => (if q26 = 0 then some 4 else some 1))) else some 1) : Option (Int)) (fun t27 => letM_ (mupd e24 382 8 t27) (fun M28 => some M28))))))) else Option.bind (whileO (σ := KM) (ε := KM) (fun s29 => Option.bind (f_M_sign (s29 382 7) s29) (fun q30 => Option.bind (f_M_isLetter q30 s29) (fun q31 => (if q31 = 0 then some (Sum.inr s29) else letM_ (mupd s29 382 7 (w32 ((s29 382 7) + 1))) (fun M32 => some (Sum.inl M32)))))) M9) (fun e33 => letM_ (mupd e33 382 10 0) (fun M34 => letI_ (M34 382 6) (fun v35 => Option.bind (whileO (σ := Int × KM) (ε := KM) (fun s36 => (if s36.1 < s36.2 382 7 then (if s36.1 < w32 ((s36.2 382 6) + 8) then Option.bind (f_M_sign s36.1 s36.2) (fun q37 => letM_ (mupd s36.2 382 10 (klor (klshl (s36.2 382 10) 8) q37)) (fun M38 => some (Sum.inl (w32 (s36.1 + 1), M38)))) else some (Sum.inr s36.2)) else some (Sum.inr s36.2))) (v35, M34)) (fun e39 => Option.bind ((if w32 ((e39 382 7) - (e39 382 6)) ≤ 8 then Option.bind (f_M_isKept (e39 382 10) e39) (fun q40 => (if q40 = 0 then some 2 else some 3)) else some 1) : Option (Int)) (fun t41 => letM_ (mupd e39 382 8 t41) (fun M42 => some M42)))))))) else letM_ (mupd M9 382 8 0) (fun M43 => letM_ (mupd M43 382 6 (M43 382 3)) (fun M44 => letM_ (mupd M44 382 7 (M44 382 3)) (fun M45 => some M45)))) : Option (KM)) (fun t46 => some t46)))))
set_option maxRecDepth 100000 in
theorem sim_M_goOn {G : Gam} {S : KS} (hS : KExt 435 S)   (M : KM) : Sim G Y_M_goOn (f_M_goOn  M) (kC 0 [some (VR (some 382)), none, none] [] S M) (fun (q : KM) => Sum.inr (none, S, q)) := by
  unfold f_M_goOn
  refine s_aload_n (dt_M_goOn 0 _ _ _ rfl) rfl ?_
  refine s_aload_n (dt_M_goOn 1 _ _ _ rfl) rfl ?_
  refine s_getI (dt_M_goOn 2 _ _ _ rfl) (kf_M_220) (sc_382 hS) rfl ?_
  refine s_putI (dt_M_goOn 3 _ _ _ rfl) kp_M_223 (sc_382 hS) ⟨rfl, rfl⟩ ?_
  refine s_letM (fun M1 => ?_)
  refine s_bd (κ := (fun (e7 : KM) => kC 58 [some (VR (some 382)), none, none] [] S e7)) (s_mask [true, false, false] (s_while (c := fun s2 => kC 8 [some (VR (some 382)), none, none] [] S s2) (fun s2 => ?_) M1)) ?_
  · refine s_aload_n (dt_M_goOn 4 _ _ _ rfl) rfl ?_
    refine s_getI (dt_M_goOn 5 _ _ _ rfl) (kf_M_223) (sc_382 hS) rfl ?_
    refine s_aload_n (dt_M_goOn 6 _ _ _ rfl) rfl ?_
    refine s_getI (dt_M_goOn 7 _ _ _ rfl) (kf_M_182) (sc_382 hS) rfl ?_
    refine s_if_icmp_ge (tgt := 58) (dt_M_goOn 8 _ _ _ rfl) rfl ?_ ?_
    · refine s_aload_n (dt_M_goOn 9 _ _ _ rfl) rfl ?_
      refine s_aload_n (dt_M_goOn 10 _ _ _ rfl) rfl ?_
      refine s_getI (dt_M_goOn 11 _ _ _ rfl) (kf_M_223) (sc_382 hS) rfl ?_
      refine s_callO (y := y_M_sign) (Y' := Y_M_sign) (as := [VR (some 382), VI (s2 382 6)]) (r := fun q => some (VI q)) (M' := fun q => s2) (kInvV (dt_M_goOn 12 _ _ _ rfl) kin_M_sign 1 rfl (sc_382 hS) kse_M_sign rfl) kl_M_226 md_M_sign rfl rfl (fun q hq => c_M_sign hS (s2 382 6) s2 q hq) (fun q3 => ?_)
      refine s_bipush (dt_M_goOn 13 _ _ _ rfl) rfl ?_
      refine s_if_icmp_eq (tgt := 45) (dt_M_goOn 14 _ _ _ rfl) rfl ?_ ?_
      · refine s_aload_n (dt_M_goOn 21 _ _ _ rfl) rfl ?_
        refine s_dup (dt_M_goOn 22 _ _ _ rfl) rfl ?_
        refine s_getI (dt_M_goOn 23 _ _ _ rfl) (kf_M_223) (sc_382 hS) rfl ?_
        refine s_iconst (dt_M_goOn 24 _ _ _ rfl) rfl ?_
        refine s_iadd (dt_M_goOn 25 _ _ _ rfl) ?_
        refine s_putI (dt_M_goOn 26 _ _ _ rfl) kp_M_223 (sc_382 hS) ⟨rfl, rfl⟩ ?_
        refine s_letM (fun M4 => ?_)
        refine s_goto (tgt := 8) (dt_M_goOn 27 _ _ _ rfl) rfl ?_
        exact s_mask [true, false, false] (s_ret0 rfl)
      · refine s_aload_n (dt_M_goOn 15 _ _ _ rfl) rfl ?_
        refine s_aload_n (dt_M_goOn 16 _ _ _ rfl) rfl ?_
        refine s_getI (dt_M_goOn 17 _ _ _ rfl) (kf_M_223) (sc_382 hS) rfl ?_
        refine s_callO (y := y_M_sign) (Y' := Y_M_sign) (as := [VR (some 382), VI (s2 382 6)]) (r := fun q => some (VI q)) (M' := fun q => s2) (kInvV (dt_M_goOn 18 _ _ _ rfl) kin_M_sign 1 rfl (sc_382 hS) kse_M_sign rfl) kl_M_226 md_M_sign rfl rfl (fun q hq => c_M_sign hS (s2 382 6) s2 q hq) (fun q5 => ?_)
        refine s_bipush (dt_M_goOn 19 _ _ _ rfl) rfl ?_
        refine s_if_icmp_ne (tgt := 58) (dt_M_goOn 20 _ _ _ rfl) rfl ?_ ?_
        · refine s_aload_n (dt_M_goOn 21 _ _ _ rfl) rfl ?_
          refine s_dup (dt_M_goOn 22 _ _ _ rfl) rfl ?_
          refine s_getI (dt_M_goOn 23 _ _ _ rfl) (kf_M_223) (sc_382 hS) rfl ?_
          refine s_iconst (dt_M_goOn 24 _ _ _ rfl) rfl ?_
          refine s_iadd (dt_M_goOn 25 _ _ _ rfl) ?_
          refine s_putI (dt_M_goOn 26 _ _ _ rfl) kp_M_223 (sc_382 hS) ⟨rfl, rfl⟩ ?_
          refine s_letM (fun M6 => ?_)
          refine s_goto (tgt := 8) (dt_M_goOn 27 _ _ _ rfl) rfl ?_
          exact s_mask [true, false, false] (s_ret0 rfl)
        · exact s_mask [true, false, false] (s_ret0 rfl)
    · exact s_mask [true, false, false] (s_ret0 rfl)
  intro e7
  refine s_aload_n (dt_M_goOn 28 _ _ _ rfl) rfl ?_
  refine s_aload_n (dt_M_goOn 29 _ _ _ rfl) rfl ?_
  refine s_getI (dt_M_goOn 30 _ _ _ rfl) (kf_M_223) (sc_382 hS) rfl ?_
  refine s_callO (y := y_M_sign) (Y' := Y_M_sign) (as := [VR (some 382), VI (e7 382 6)]) (r := fun q => some (VI q)) (M' := fun q => e7) (kInvV (dt_M_goOn 31 _ _ _ rfl) kin_M_sign 1 rfl (sc_382 hS) kse_M_sign rfl) kl_M_226 md_M_sign rfl rfl (fun q hq => c_M_sign hS (e7 382 6) e7 q hq) (fun q8 => ?_)
  refine s_istore_n (dt_M_goOn 32 _ _ _ rfl) rfl ?_
  refine s_aload_n (dt_M_goOn 33 _ _ _ rfl) rfl ?_
  refine s_aload_n (dt_M_goOn 34 _ _ _ rfl) rfl ?_
  refine s_getI (dt_M_goOn 35 _ _ _ rfl) (kf_M_223) (sc_382 hS) rfl ?_
  refine s_iconst (dt_M_goOn 36 _ _ _ rfl) rfl ?_
  refine s_iadd (dt_M_goOn 37 _ _ _ rfl) ?_
  refine s_putI (dt_M_goOn 38 _ _ _ rfl) kp_M_220 (sc_382 hS) ⟨rfl, rfl⟩ ?_
  refine s_letM (fun M9 => ?_)
  refine s_aload_n (dt_M_goOn 39 _ _ _ rfl) rfl ?_
  refine s_getI (dt_M_goOn 40 _ _ _ rfl) (kf_M_223) (sc_382 hS) rfl ?_
  refine s_aload_n (dt_M_goOn 41 _ _ _ rfl) rfl ?_
  refine s_getI (dt_M_goOn 42 _ _ _ rfl) (kf_M_182) (sc_382 hS) rfl ?_
  refine s_bd (κ := fun t46 => kC 377 [none, none, none] [] S t46) ?_ (fun t46 => ?_)
  · refine s_if_icmp_lt (tgt := 112) (dt_M_goOn 43 _ _ _ rfl) rfl ?_ ?_
    · refine s_iload_n (dt_M_goOn 56 _ _ _ rfl) rfl ?_
      refine s_callO (y := y_M_isLetter) (Y' := Y_M_isLetter) (as := [VI q8]) (r := fun q => some (VI q)) (M' := fun q => M9) (kInvS (dt_M_goOn 57 _ _ _ rfl) kst_M_isLetter rfl) kl_M_233 md_M_isLetter rfl rfl (fun q hq => c_M_isLetter hS q8 M9 q hq) (fun q10 => ?_)
      refine s_if_eq (tgt := 239) (dt_M_goOn 58 _ _ _ rfl) rfl ?_ ?_
      · refine s_iload_n (dt_M_goOn 120 _ _ _ rfl) rfl ?_
        refine s_callO (y := y_M_isDigit) (Y' := Y_M_isDigit) (as := [VI q8]) (r := fun q => some (VI q)) (M' := fun q => M9) (kInvS (dt_M_goOn 121 _ _ _ rfl) kst_M_isDigit rfl) kl_M_245 md_M_isDigit rfl rfl (fun q hq => c_M_isDigit hS q8 M9 q hq) (fun q11 => ?_)
        refine s_if_eq (tgt := 361) (dt_M_goOn 122 _ _ _ rfl) rfl ?_ ?_
        · refine s_aload_n (dt_M_goOn 182 _ _ _ rfl) rfl ?_
          refine s_iload_n (dt_M_goOn 183 _ _ _ rfl) rfl ?_
          refine s_callO (y := y_M_isSign) (Y' := Y_M_isSign) (as := [VI q8]) (r := fun q => some (VI q)) (M' := fun q => M9) (kInvS (dt_M_goOn 184 _ _ _ rfl) kst_M_isSign rfl) kl_M_251 md_M_isSign rfl rfl (fun q hq => c_M_isSign hS q8 M9 q hq) (fun q12 => ?_)
          refine s_bd (κ := fun t13 => kC 374 [none, none, none] [VI t13, VR (some 382)] S M9) ?_ (fun t13 => ?_)
          · refine s_if_eq (tgt := 373) (dt_M_goOn 185 _ _ _ rfl) rfl ?_ ?_
            · refine s_iconst (dt_M_goOn 188 _ _ _ rfl) rfl ?_
              exact s_mask [false, false, false] (s_ret0 rfl)
            · refine s_iconst (dt_M_goOn 186 _ _ _ rfl) rfl ?_
              refine s_goto (tgt := 374) (dt_M_goOn 187 _ _ _ rfl) rfl ?_
              exact s_mask [false, false, false] (s_ret0 rfl)
          refine s_putI (dt_M_goOn 189 _ _ _ rfl) kp_M_230 (sc_382 hS) ⟨rfl, rfl⟩ ?_
          refine s_letM (fun M14 => ?_)
          exact s_mask [false, false, false] (s_ret0 rfl)
        · refine s_aload_n (dt_M_goOn 123 _ _ _ rfl) rfl ?_
          refine s_iconst (dt_M_goOn 124 _ _ _ rfl) rfl ?_
          refine s_putI (dt_M_goOn 125 _ _ _ rfl) kp_M_248 (sc_382 hS) ⟨rfl, rfl⟩ ?_
          refine s_letM (fun M15 => ?_)
          refine s_aload_n (dt_M_goOn 126 _ _ _ rfl) rfl ?_
          refine s_aload_n (dt_M_goOn 127 _ _ _ rfl) rfl ?_
          refine s_getI (dt_M_goOn 128 _ _ _ rfl) (kf_M_223) (sc_382 hS) rfl ?_
          refine s_putI (dt_M_goOn 129 _ _ _ rfl) kp_M_220 (sc_382 hS) ⟨rfl, rfl⟩ ?_
          refine s_letM (fun M16 => ?_)
          refine s_bd (κ := (fun (e24 : KM) => kC 322 [some (VR (some 382)), none, none] [] S e24)) (s_mask [true, false, false] (s_while (c := fun s17 => kC 259 [some (VR (some 382)), none, none] [] S s17) (fun s17 => ?_) M16)) ?_
          · refine s_aload_n (dt_M_goOn 130 _ _ _ rfl) rfl ?_
            refine s_aload_n (dt_M_goOn 131 _ _ _ rfl) rfl ?_
            refine s_getI (dt_M_goOn 132 _ _ _ rfl) (kf_M_220) (sc_382 hS) rfl ?_
            refine s_callO (y := y_M_sign) (Y' := Y_M_sign) (as := [VR (some 382), VI (s17 382 7)]) (r := fun q => some (VI q)) (M' := fun q => s17) (kInvV (dt_M_goOn 133 _ _ _ rfl) kin_M_sign 1 rfl (sc_382 hS) kse_M_sign rfl) kl_M_226 md_M_sign rfl rfl (fun q hq => c_M_sign hS (s17 382 7) s17 q hq) (fun q18 => ?_)
            refine s_callO (y := y_M_isDigit) (Y' := Y_M_isDigit) (as := [VI q18]) (r := fun q => some (VI q)) (M' := fun q => s17) (kInvS (dt_M_goOn 134 _ _ _ rfl) kst_M_isDigit rfl) kl_M_245 md_M_isDigit rfl rfl (fun q hq => c_M_isDigit hS q18 s17 q hq) (fun q19 => ?_)
            refine s_if_eq (tgt := 322) (dt_M_goOn 135 _ _ _ rfl) rfl ?_ ?_
            · exact s_mask [true, false, false] (s_ret0 rfl)
            · refine s_aload_n (dt_M_goOn 136 _ _ _ rfl) rfl ?_
              refine s_getI (dt_M_goOn 137 _ _ _ rfl) (kf_M_220) (sc_382 hS) rfl ?_
              refine s_aload_n (dt_M_goOn 138 _ _ _ rfl) rfl ?_
              refine s_getI (dt_M_goOn 139 _ _ _ rfl) (kf_M_223) (sc_382 hS) rfl ?_
              refine s_isub (dt_M_goOn 140 _ _ _ rfl) ?_
              refine s_iconst (dt_M_goOn 141 _ _ _ rfl) rfl ?_
              refine s_bd (κ := fun t22 => kC 309 [some (VR (some 382)), none, none] [] S t22) ?_ (fun t22 => ?_)
              · refine s_if_icmp_ge (tgt := 309) (dt_M_goOn 142 _ _ _ rfl) rfl ?_ ?_
                · refine s_aload_n (dt_M_goOn 143 _ _ _ rfl) rfl ?_
                  refine s_bipush (dt_M_goOn 144 _ _ _ rfl) rfl ?_
                  refine s_aload_n (dt_M_goOn 145 _ _ _ rfl) rfl ?_
                  refine s_getI (dt_M_goOn 146 _ _ _ rfl) (kf_M_248) (sc_382 hS) rfl ?_
                  refine s_imul (dt_M_goOn 147 _ _ _ rfl) ?_
                  refine s_aload_n (dt_M_goOn 148 _ _ _ rfl) rfl ?_
                  refine s_aload_n (dt_M_goOn 149 _ _ _ rfl) rfl ?_
                  refine s_getI (dt_M_goOn 150 _ _ _ rfl) (kf_M_220) (sc_382 hS) rfl ?_
                  refine s_callO (y := y_M_sign) (Y' := Y_M_sign) (as := [VR (some 382), VI (s17 382 7)]) (r := fun q => some (VI q)) (M' := fun q => s17) (kInvV (dt_M_goOn 151 _ _ _ rfl) kin_M_sign 1 rfl (sc_382 hS) kse_M_sign rfl) kl_M_226 md_M_sign rfl rfl (fun q hq => c_M_sign hS (s17 382 7) s17 q hq) (fun q20 => ?_)
                  refine s_iadd (dt_M_goOn 152 _ _ _ rfl) ?_
                  refine s_bipush (dt_M_goOn 153 _ _ _ rfl) rfl ?_
                  refine s_isub (dt_M_goOn 154 _ _ _ rfl) ?_
                  refine s_putI (dt_M_goOn 155 _ _ _ rfl) kp_M_248 (sc_382 hS) ⟨rfl, rfl⟩ ?_
                  refine s_letM (fun M21 => ?_)
                  exact s_mask [true, false, false] (s_ret0 rfl)
                · exact s_mask [true, false, false] (s_ret0 rfl)
              refine s_aload_n (dt_M_goOn 156 _ _ _ rfl) rfl ?_
              refine s_dup (dt_M_goOn 157 _ _ _ rfl) rfl ?_
              refine s_getI (dt_M_goOn 158 _ _ _ rfl) (kf_M_220) (sc_382 hS) rfl ?_
              refine s_iconst (dt_M_goOn 159 _ _ _ rfl) rfl ?_
              refine s_iadd (dt_M_goOn 160 _ _ _ rfl) ?_
              refine s_putI (dt_M_goOn 161 _ _ _ rfl) kp_M_220 (sc_382 hS) ⟨rfl, rfl⟩ ?_
              refine s_letM (fun M23 => ?_)
              refine s_goto (tgt := 259) (dt_M_goOn 162 _ _ _ rfl) rfl ?_
              exact s_mask [true, false, false] (s_ret0 rfl)
          intro e24
          refine s_aload_n (dt_M_goOn 163 _ _ _ rfl) rfl ?_
          refine s_aload_n (dt_M_goOn 164 _ _ _ rfl) rfl ?_
          refine s_getI (dt_M_goOn 165 _ _ _ rfl) (kf_M_220) (sc_382 hS) rfl ?_
          refine s_aload_n (dt_M_goOn 166 _ _ _ rfl) rfl ?_
          refine s_getI (dt_M_goOn 167 _ _ _ rfl) (kf_M_223) (sc_382 hS) rfl ?_
          refine s_isub (dt_M_goOn 168 _ _ _ rfl) ?_
          refine s_iconst (dt_M_goOn 169 _ _ _ rfl) rfl ?_
          refine s_bd (κ := fun t27 => kC 355 [none, none, none] [VI t27, VR (some 382)] S e24) ?_ (fun t27 => ?_)
          · refine s_if_icmp_gt (tgt := 350) (dt_M_goOn 170 _ _ _ rfl) rfl ?_ ?_
            · refine s_aload_n (dt_M_goOn 171 _ _ _ rfl) rfl ?_
              refine s_aload_n (dt_M_goOn 172 _ _ _ rfl) rfl ?_
              refine s_getI (dt_M_goOn 173 _ _ _ rfl) (kf_M_220) (sc_382 hS) rfl ?_
              refine s_callO (y := y_M_sign) (Y' := Y_M_sign) (as := [VR (some 382), VI (e24 382 7)]) (r := fun q => some (VI q)) (M' := fun q => e24) (kInvV (dt_M_goOn 174 _ _ _ rfl) kin_M_sign 1 rfl (sc_382 hS) kse_M_sign rfl) kl_M_226 md_M_sign rfl rfl (fun q hq => c_M_sign hS (e24 382 7) e24 q hq) (fun q25 => ?_)
              refine s_callO (y := y_M_isLetter) (Y' := Y_M_isLetter) (as := [VI q25]) (r := fun q => some (VI q)) (M' := fun q => e24) (kInvS (dt_M_goOn 175 _ _ _ rfl) kst_M_isLetter rfl) kl_M_233 md_M_isLetter rfl rfl (fun q hq => c_M_isLetter hS q25 e24 q hq) (fun q26 => ?_)
              refine s_if_eq (tgt := 354) (dt_M_goOn 176 _ _ _ rfl) rfl ?_ ?_
              · refine s_iconst (dt_M_goOn 179 _ _ _ rfl) rfl ?_
                exact s_mask [false, false, false] (s_ret0 rfl)
              · refine s_iconst (dt_M_goOn 177 _ _ _ rfl) rfl ?_
                refine s_goto (tgt := 355) (dt_M_goOn 178 _ _ _ rfl) rfl ?_
                exact s_mask [false, false, false] (s_ret0 rfl)
            · refine s_iconst (dt_M_goOn 177 _ _ _ rfl) rfl ?_
              refine s_goto (tgt := 355) (dt_M_goOn 178 _ _ _ rfl) rfl ?_
              exact s_mask [false, false, false] (s_ret0 rfl)
          refine s_putI (dt_M_goOn 180 _ _ _ rfl) kp_M_230 (sc_382 hS) ⟨rfl, rfl⟩ ?_
          refine s_letM (fun M28 => ?_)
          refine s_goto (tgt := 377) (dt_M_goOn 181 _ _ _ rfl) rfl ?_
          exact s_mask [false, false, false] (s_ret0 rfl)
      · refine s_bd (κ := (fun (e33 : KM) => kC 146 [some (VR (some 382)), none, none] [] S e33)) (s_mask [true, false, false] (s_while (c := fun s29 => kC 119 [some (VR (some 382)), none, none] [] S s29) (fun s29 => ?_) M9)) ?_
        · refine s_aload_n (dt_M_goOn 59 _ _ _ rfl) rfl ?_
          refine s_aload_n (dt_M_goOn 60 _ _ _ rfl) rfl ?_
          refine s_getI (dt_M_goOn 61 _ _ _ rfl) (kf_M_220) (sc_382 hS) rfl ?_
          refine s_callO (y := y_M_sign) (Y' := Y_M_sign) (as := [VR (some 382), VI (s29 382 7)]) (r := fun q => some (VI q)) (M' := fun q => s29) (kInvV (dt_M_goOn 62 _ _ _ rfl) kin_M_sign 1 rfl (sc_382 hS) kse_M_sign rfl) kl_M_226 md_M_sign rfl rfl (fun q hq => c_M_sign hS (s29 382 7) s29 q hq) (fun q30 => ?_)
          refine s_callO (y := y_M_isLetter) (Y' := Y_M_isLetter) (as := [VI q30]) (r := fun q => some (VI q)) (M' := fun q => s29) (kInvS (dt_M_goOn 63 _ _ _ rfl) kst_M_isLetter rfl) kl_M_233 md_M_isLetter rfl rfl (fun q hq => c_M_isLetter hS q30 s29 q hq) (fun q31 => ?_)
          refine s_if_eq (tgt := 146) (dt_M_goOn 64 _ _ _ rfl) rfl ?_ ?_
          · exact s_mask [true, false, false] (s_ret0 rfl)
          · refine s_aload_n (dt_M_goOn 65 _ _ _ rfl) rfl ?_
            refine s_dup (dt_M_goOn 66 _ _ _ rfl) rfl ?_
            refine s_getI (dt_M_goOn 67 _ _ _ rfl) (kf_M_220) (sc_382 hS) rfl ?_
            refine s_iconst (dt_M_goOn 68 _ _ _ rfl) rfl ?_
            refine s_iadd (dt_M_goOn 69 _ _ _ rfl) ?_
            refine s_putI (dt_M_goOn 70 _ _ _ rfl) kp_M_220 (sc_382 hS) ⟨rfl, rfl⟩ ?_
            refine s_letM (fun M32 => ?_)
            refine s_goto (tgt := 119) (dt_M_goOn 71 _ _ _ rfl) rfl ?_
            exact s_mask [true, false, false] (s_ret0 rfl)
        intro e33
        refine s_aload_n (dt_M_goOn 72 _ _ _ rfl) rfl ?_
        refine s_lconst0 (dt_M_goOn 73 _ _ _ rfl) ?_
        refine s_putJ (dt_M_goOn 74 _ _ _ rfl) kp_M_237 (sc_382 hS) ⟨rfl, rfl⟩ ?_
        refine s_letM (fun M34 => ?_)
        refine s_aload_n (dt_M_goOn 75 _ _ _ rfl) rfl ?_
        refine s_getI (dt_M_goOn 76 _ _ _ rfl) (kf_M_223) (sc_382 hS) rfl ?_
        refine s_letI (fun v35 => ?_)
        refine s_istore_n (dt_M_goOn 77 _ _ _ rfl) rfl ?_
        refine s_bd (κ := (fun (e39 : KM) => kC 199 [some (VR (some 382)), none, none] [] S e39)) (s_mask [true, false, true] (s_while (c := fun s36 => kC 156 [some (VR (some 382)), none, some (VI s36.1)] [] S s36.2) (fun s36 => ?_) (v35, M34))) ?_
        · refine s_iload_n (dt_M_goOn 78 _ _ _ rfl) rfl ?_
          refine s_aload_n (dt_M_goOn 79 _ _ _ rfl) rfl ?_
          refine s_getI (dt_M_goOn 80 _ _ _ rfl) (kf_M_220) (sc_382 hS) rfl ?_
          refine s_if_icmp_ge (tgt := 199) (dt_M_goOn 81 _ _ _ rfl) rfl ?_ ?_
          · refine s_iload_n (dt_M_goOn 82 _ _ _ rfl) rfl ?_
            refine s_aload_n (dt_M_goOn 83 _ _ _ rfl) rfl ?_
            refine s_getI (dt_M_goOn 84 _ _ _ rfl) (kf_M_223) (sc_382 hS) rfl ?_
            refine s_bipush (dt_M_goOn 85 _ _ _ rfl) rfl ?_
            refine s_iadd (dt_M_goOn 86 _ _ _ rfl) ?_
            refine s_if_icmp_ge (tgt := 199) (dt_M_goOn 87 _ _ _ rfl) rfl ?_ ?_
            · refine s_aload_n (dt_M_goOn 88 _ _ _ rfl) rfl ?_
              refine s_aload_n (dt_M_goOn 89 _ _ _ rfl) rfl ?_
              refine s_getJ (dt_M_goOn 90 _ _ _ rfl) (kf_M_237) (sc_382 hS) rfl ?_
              refine s_bipush (dt_M_goOn 91 _ _ _ rfl) rfl ?_
              refine s_lshl (dt_M_goOn 92 _ _ _ rfl) ?_
              refine s_aload_n (dt_M_goOn 93 _ _ _ rfl) rfl ?_
              refine s_iload_n (dt_M_goOn 94 _ _ _ rfl) rfl ?_
              refine s_callO (y := y_M_sign) (Y' := Y_M_sign) (as := [VR (some 382), VI s36.1]) (r := fun q => some (VI q)) (M' := fun q => s36.2) (kInvV (dt_M_goOn 95 _ _ _ rfl) kin_M_sign 1 rfl (sc_382 hS) kse_M_sign rfl) kl_M_226 md_M_sign rfl rfl (fun q hq => c_M_sign hS s36.1 s36.2 q hq) (fun q37 => ?_)
              refine s_i2l (dt_M_goOn 96 _ _ _ rfl) ?_
              refine s_lor (dt_M_goOn 97 _ _ _ rfl) ?_
              refine s_putJ (dt_M_goOn 98 _ _ _ rfl) kp_M_237 (sc_382 hS) ⟨rfl, rfl⟩ ?_
              refine s_letM (fun M38 => ?_)
              refine s_iinc (dt_M_goOn 99 _ _ _ rfl) rfl rfl ?_
              refine s_goto (tgt := 156) (dt_M_goOn 100 _ _ _ rfl) rfl ?_
              exact s_mask [true, false, true] (s_ret0 rfl)
            · exact s_mask [true, false, false] (s_ret0 rfl)
          · exact s_mask [true, false, false] (s_ret0 rfl)
        intro e39
        refine s_aload_n (dt_M_goOn 101 _ _ _ rfl) rfl ?_
        refine s_aload_n (dt_M_goOn 102 _ _ _ rfl) rfl ?_
        refine s_getI (dt_M_goOn 103 _ _ _ rfl) (kf_M_220) (sc_382 hS) rfl ?_
        refine s_aload_n (dt_M_goOn 104 _ _ _ rfl) rfl ?_
        refine s_getI (dt_M_goOn 105 _ _ _ rfl) (kf_M_223) (sc_382 hS) rfl ?_
        refine s_isub (dt_M_goOn 106 _ _ _ rfl) ?_
        refine s_bipush (dt_M_goOn 107 _ _ _ rfl) rfl ?_
        refine s_bd (κ := fun t41 => kC 233 [none, none, none] [VI t41, VR (some 382)] S e39) ?_ (fun t41 => ?_)
        · refine s_if_icmp_le (tgt := 218) (dt_M_goOn 108 _ _ _ rfl) rfl ?_ ?_
          · refine s_aload_n (dt_M_goOn 111 _ _ _ rfl) rfl ?_
            refine s_getJ (dt_M_goOn 112 _ _ _ rfl) (kf_M_237) (sc_382 hS) rfl ?_
            refine s_callO (y := y_M_isKept) (Y' := Y_M_isKept) (as := [VJ (e39 382 10)]) (r := fun q => some (VI q)) (M' := fun q => e39) (kInvS (dt_M_goOn 113 _ _ _ rfl) kst_M_isKept rfl) kl_M_241 md_M_isKept rfl rfl (fun q hq => c_M_isKept hS (e39 382 10) e39 q hq) (fun q40 => ?_)
            refine s_if_eq (tgt := 232) (dt_M_goOn 114 _ _ _ rfl) rfl ?_ ?_
            · refine s_iconst (dt_M_goOn 117 _ _ _ rfl) rfl ?_
              exact s_mask [false, false, false] (s_ret0 rfl)
            · refine s_iconst (dt_M_goOn 115 _ _ _ rfl) rfl ?_
              refine s_goto (tgt := 233) (dt_M_goOn 116 _ _ _ rfl) rfl ?_
              exact s_mask [false, false, false] (s_ret0 rfl)
          · refine s_iconst (dt_M_goOn 109 _ _ _ rfl) rfl ?_
            refine s_goto (tgt := 233) (dt_M_goOn 110 _ _ _ rfl) rfl ?_
            exact s_mask [false, false, false] (s_ret0 rfl)
        refine s_putI (dt_M_goOn 118 _ _ _ rfl) kp_M_230 (sc_382 hS) ⟨rfl, rfl⟩ ?_
        refine s_letM (fun M42 => ?_)
        refine s_goto (tgt := 377) (dt_M_goOn 119 _ _ _ rfl) rfl ?_
        exact s_mask [false, false, false] (s_ret0 rfl)
    · refine s_aload_n (dt_M_goOn 44 _ _ _ rfl) rfl ?_
      refine s_iconst (dt_M_goOn 45 _ _ _ rfl) rfl ?_
      refine s_putI (dt_M_goOn 46 _ _ _ rfl) kp_M_230 (sc_382 hS) ⟨rfl, rfl⟩ ?_
      refine s_letM (fun M43 => ?_)
      refine s_aload_n (dt_M_goOn 47 _ _ _ rfl) rfl ?_
      refine s_aload_n (dt_M_goOn 48 _ _ _ rfl) rfl ?_
      refine s_getI (dt_M_goOn 49 _ _ _ rfl) (kf_M_182) (sc_382 hS) rfl ?_
      refine s_putI (dt_M_goOn 50 _ _ _ rfl) kp_M_223 (sc_382 hS) ⟨rfl, rfl⟩ ?_
      refine s_letM (fun M44 => ?_)
      refine s_aload_n (dt_M_goOn 51 _ _ _ rfl) rfl ?_
      refine s_aload_n (dt_M_goOn 52 _ _ _ rfl) rfl ?_
      refine s_getI (dt_M_goOn 53 _ _ _ rfl) (kf_M_182) (sc_382 hS) rfl ?_
      refine s_putI (dt_M_goOn 54 _ _ _ rfl) kp_M_220 (sc_382 hS) ⟨rfl, rfl⟩ ?_
      refine s_letM (fun M45 => ?_)
      refine s_goto (tgt := 377) (dt_M_goOn 55 _ _ _ rfl) rfl ?_
      exact s_mask [false, false, false] (s_ret0 rfl)
  exact s_vret (dt_M_goOn 190 _ _ _ rfl) rfl rfl
theorem c_M_goOn {S : KS} (hS : KExt 435 S)   (M : KM) : ∀ q, f_M_goOn  M = some q → Ctr y_M_goOn Y_M_goOn [VR (some 382)] S M (none) S (q) := fun q hq =>
  ctr_of md_M_goOn (Nat.le_of_ble_eq_true rfl) ⟨Nat.le_refl _, Nat.le_refl _⟩ 2 hq rfl (fun _ G => sim_M_goOn hS   M)
noncomputable def f_M_isGood  (M : KM) : Option (Int) := Option.bind ((if M 382 4 = 0 then some 1 else some 0) : Option (Int)) (fun t1 => (if 0 ≤ t1 ∧ t1 ≤ 1 then some t1 else none))
set_option maxRecDepth 100000 in
theorem sim_M_isGood {G : Gam} {S : KS} (hS : KExt 435 S)   (M : KM) : Sim G Y_M_isGood (f_M_isGood  M) (kC 0 [some (VR (some 382))] [] S M) (fun (q : Int) => Sum.inr (some (VI q), S, M)) := by
  unfold f_M_isGood
  refine s_aload_n (dt_M_isGood 0 _ _ _ rfl) rfl ?_
  refine s_getI (dt_M_isGood 1 _ _ _ rfl) (kf_M_185) (sc_382 hS) rfl ?_
  refine s_bd (κ := fun t1 => kC 12 [none] [VI t1] S M) ?_ (fun t1 => ?_)
  · refine s_if_ne (tgt := 11) (dt_M_isGood 2 _ _ _ rfl) rfl ?_ ?_
    · refine s_iconst (dt_M_isGood 3 _ _ _ rfl) rfl ?_
      refine s_goto (tgt := 12) (dt_M_isGood 4 _ _ _ rfl) rfl ?_
      exact s_mask [false] (s_ret0 rfl)
    · refine s_iconst (dt_M_isGood 5 _ _ _ rfl) rfl ?_
      exact s_mask [false] (s_ret0 rfl)
  exact s_zret (dt_M_isGood 6 _ _ _ rfl) rfl rfl
theorem c_M_isGood {S : KS} (hS : KExt 435 S)   (M : KM) : ∀ q, f_M_isGood  M = some q → Ctr y_M_isGood Y_M_isGood [VR (some 382)] S M (some (VI q)) S (M) := fun q hq =>
  ctr_of md_M_isGood (Nat.le_of_ble_eq_true rfl) ⟨Nat.le_refl _, Nat.le_refl _⟩ 0 hq rfl (fun _ G => sim_M_isGood hS   M)
noncomputable def f_M_isWord (a0 : Int) (M : KM) : Option (Int) := Option.bind ((if M 382 8 = 3 then (if klcmp (M 382 10) a0 = 0 then some 1 else some 0) else some 0) : Option (Int)) (fun t1 => (if 0 ≤ t1 ∧ t1 ≤ 1 then some t1 else none))
set_option maxRecDepth 100000 in
theorem sim_M_isWord {G : Gam} {S : KS} (hS : KExt 435 S)  (a0 : Int) (M : KM) : Sim G Y_M_isWord (f_M_isWord a0 M) (kC 0 [some (VR (some 382)), some (VJ a0), none] [] S M) (fun (q : Int) => Sum.inr (some (VI q), S, M)) := by
  unfold f_M_isWord
  refine s_aload_n (dt_M_isWord 0 _ _ _ rfl) rfl ?_
  refine s_getI (dt_M_isWord 1 _ _ _ rfl) (kf_M_230) (sc_382 hS) rfl ?_
  refine s_iconst (dt_M_isWord 2 _ _ _ rfl) rfl ?_
  refine s_bd (κ := fun t1 => kC 22 [none, none, none] [VI t1] S M) ?_ (fun t1 => ?_)
  · refine s_if_icmp_ne (tgt := 21) (dt_M_isWord 3 _ _ _ rfl) rfl ?_ ?_
    · refine s_aload_n (dt_M_isWord 4 _ _ _ rfl) rfl ?_
      refine s_getJ (dt_M_isWord 5 _ _ _ rfl) (kf_M_237) (sc_382 hS) rfl ?_
      refine s_lload_n (dt_M_isWord 6 _ _ _ rfl) rfl ?_
      refine s_lcmp (dt_M_isWord 7 _ _ _ rfl) ?_
      refine s_if_ne (tgt := 21) (dt_M_isWord 8 _ _ _ rfl) rfl ?_ ?_
      · refine s_iconst (dt_M_isWord 9 _ _ _ rfl) rfl ?_
        refine s_goto (tgt := 22) (dt_M_isWord 10 _ _ _ rfl) rfl ?_
        exact s_mask [false, false, false] (s_ret0 rfl)
      · refine s_iconst (dt_M_isWord 11 _ _ _ rfl) rfl ?_
        exact s_mask [false, false, false] (s_ret0 rfl)
    · refine s_iconst (dt_M_isWord 11 _ _ _ rfl) rfl ?_
      exact s_mask [false, false, false] (s_ret0 rfl)
  exact s_zret (dt_M_isWord 12 _ _ _ rfl) rfl rfl
theorem c_M_isWord {S : KS} (hS : KExt 435 S)  (a0 : Int) (M : KM) : ∀ q, f_M_isWord a0 M = some q → Ctr y_M_isWord Y_M_isWord [VR (some 382), VJ a0] S M (some (VI q)) S (M) := fun q hq =>
  ctr_of md_M_isWord (Nat.le_of_ble_eq_true rfl) ⟨Nat.le_refl _, Nat.le_refl _⟩ 0 hq rfl (fun _ G => sim_M_isWord hS  a0 M)
noncomputable def f_M_fails (a0 : Int) (a1 : Int) (M : KM) : Option (KM) := (if M 382 4 ≤ 0 then letM_ (mupd M 382 4 a0) (fun M1 => letM_ (mupd M1 382 5 a1) (fun M2 => some M2)) else some M)
set_option maxRecDepth 100000 in
theorem sim_M_fails {G : Gam} {S : KS} (hS : KExt 435 S)  (a0 : Int) (a1 : Int) (M : KM) : Sim G Y_M_fails (f_M_fails a0 a1 M) (kC 0 [some (VR (some 382)), some (VI a0), some (VI a1)] [] S M) (fun (q : KM) => Sum.inr (none, S, q)) := by
  unfold f_M_fails
  refine s_aload_n (dt_M_fails 0 _ _ _ rfl) rfl ?_
  refine s_getI (dt_M_fails 1 _ _ _ rfl) (kf_M_185) (sc_382 hS) rfl ?_
  refine s_if_le (tgt := 8) (dt_M_fails 2 _ _ _ rfl) rfl ?_ ?_
  · refine s_aload_n (dt_M_fails 4 _ _ _ rfl) rfl ?_
    refine s_iload_n (dt_M_fails 5 _ _ _ rfl) rfl ?_
    refine s_putI (dt_M_fails 6 _ _ _ rfl) kp_M_185 (sc_382 hS) ⟨rfl, rfl⟩ ?_
    refine s_letM (fun M1 => ?_)
    refine s_aload_n (dt_M_fails 7 _ _ _ rfl) rfl ?_
    refine s_iload_n (dt_M_fails 8 _ _ _ rfl) rfl ?_
    refine s_putI (dt_M_fails 9 _ _ _ rfl) kp_M_16 (sc_382 hS) ⟨rfl, rfl⟩ ?_
    refine s_letM (fun M2 => ?_)
    exact s_vret (dt_M_fails 10 _ _ _ rfl) rfl rfl
  · exact s_vret (dt_M_fails 3 _ _ _ rfl) rfl rfl
theorem c_M_fails {S : KS} (hS : KExt 435 S)  (a0 : Int) (a1 : Int) (M : KM) : ∀ q, f_M_fails a0 a1 M = some q → Ctr y_M_fails Y_M_fails [VR (some 382), VI a0, VI a1] S M (none) S (q) := fun q hq =>
  ctr_of md_M_fails (Nat.le_of_ble_eq_true rfl) ⟨Nat.le_refl _, Nat.le_refl _⟩ 0 hq rfl (fun _ G => sim_M_fails hS  a0 a1 M)
noncomputable def f_M_misplaced  (M : KM) : Option (KM) := Option.bind ((if M 382 8 = 1 then some 1 else some 2) : Option (Int)) (fun t1 => Option.bind (f_M_fails t1 (M 382 6) M) (fun q2 => some q2))
set_option maxRecDepth 100000 in
theorem sim_M_misplaced {G : Gam} {S : KS} (hS : KExt 435 S)   (M : KM) : Sim G Y_M_misplaced (f_M_misplaced  M) (kC 0 [some (VR (some 382))] [] S M) (fun (q : KM) => Sum.inr (none, S, q)) := by
  unfold f_M_misplaced
  refine s_aload_n (dt_M_misplaced 0 _ _ _ rfl) rfl ?_
  refine s_aload_n (dt_M_misplaced 1 _ _ _ rfl) rfl ?_
  refine s_getI (dt_M_misplaced 2 _ _ _ rfl) (kf_M_230) (sc_382 hS) rfl ?_
  refine s_iconst (dt_M_misplaced 3 _ _ _ rfl) rfl ?_
  refine s_bd (κ := fun t1 => kC 14 [some (VR (some 382))] [VI t1, VR (some 382)] S M) ?_ (fun t1 => ?_)
  · refine s_if_icmp_ne (tgt := 13) (dt_M_misplaced 4 _ _ _ rfl) rfl ?_ ?_
    · refine s_iconst (dt_M_misplaced 5 _ _ _ rfl) rfl ?_
      refine s_goto (tgt := 14) (dt_M_misplaced 6 _ _ _ rfl) rfl ?_
      exact s_mask [true] (s_ret0 rfl)
    · refine s_iconst (dt_M_misplaced 7 _ _ _ rfl) rfl ?_
      exact s_mask [true] (s_ret0 rfl)
  refine s_aload_n (dt_M_misplaced 8 _ _ _ rfl) rfl ?_
  refine s_getI (dt_M_misplaced 9 _ _ _ rfl) (kf_M_223) (sc_382 hS) rfl ?_
  refine s_callO (y := y_M_fails) (Y' := Y_M_fails) (as := [VR (some 382), VI t1, VI (M 382 6)]) (r := fun q => none) (M' := fun q => q) (kInvV (dt_M_misplaced 10 _ _ _ rfl) kin_M_fails 1 rfl (sc_382 hS) kse_M_fails rfl) kl_M_254 md_M_fails rfl rfl (fun q hq => c_M_fails hS t1 (M 382 6) M q hq) (fun q2 => ?_)
  exact s_vret (dt_M_misplaced 11 _ _ _ rfl) rfl rfl
theorem c_M_misplaced {S : KS} (hS : KExt 435 S)   (M : KM) : ∀ q, f_M_misplaced  M = some q → Ctr y_M_misplaced Y_M_misplaced [VR (some 382)] S M (none) S (q) := fun q hq =>
  ctr_of md_M_misplaced (Nat.le_of_ble_eq_true rfl) ⟨Nat.le_refl _, Nat.le_refl _⟩ 0 hq rfl (fun _ G => sim_M_misplaced hS   M)
