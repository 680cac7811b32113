noncomputable def f_M_readPerson  (M : KM) : Option (KM) := (if 0 ≤ M 382 38 ∧ M 382 38 < 2 then letI_ (w32 ((w32 (8 * (M 382 38))) + (M 385 (M 382 38).toNat))) (fun v1 => Option.bind (f_M_personHere M) (fun q2 => Option.bind (f_M_fresh q2 M) (fun q3 => (if 0 ≤ v1 ∧ v1 < 16 then letM_ (mupd q3.2 404 (v1).toNat q3.1) (fun M4 => (if 0 ≤ M4 382 38 ∧ M4 382 38 < 2 then (if 0 ≤ M4 382 38 ∧ M4 382 38 < 2 then Option.bind (f_M_after 6383461 (M4 390 (M4 382 38).toNat) (M4 391 (M4 382 38).toNat) M4) (fun q5 => (if 0 ≤ v1 ∧ v1 < 16 then letM_ (mupd q5.2 393 (v1).toNat q5.1) (fun M6 => Option.bind (f_M_after 1668245870 0 999 M6) (fun q7 => (if 0 ≤ v1 ∧ v1 < 16 then letM_ (mupd q7.2 394 (v1).toNat q7.1) (fun M8 => Option.bind (f_M_isGood M8) (fun q9 => Option.bind ((if q9 = 0 then (if 0 ≤ v1 ∧ v1 < 16 then some (M8 393 (v1).toNat, M8) else none) else Option.bind (f_M_isWord 1852138852 M8) (fun q10 => (if q10 = 0 then (if 0 ≤ v1 ∧ v1 < 16 then some (M8 393 (v1).toNat, M8) else none) else (if 0 ≤ M8 382 38 ∧ M8 382 38 < 2 then (if 0 ≤ M8 382 38 ∧ M8 382 38 < 2 then Option.bind (f_M_after 1852138852 (M8 390 (M8 382 38).toNat) (M8 391 (M8 382 38).toNat) M8) (fun q11 => some (q11.1, q11.2)) else none) else none)))) : Option (Int × KM)) (fun t12 => (if 0 ≤ v1 ∧ v1 < 16 then letM_ (mupd t12.2 395 (v1).toNat t12.1) (fun M13 => Option.bind (f_M_isGood M13) (fun q14 => Option.bind ((if q14 = 0 then some (0, M13) else Option.bind (f_M_isWord 112568633486457 M13) (fun q15 => (if q15 = 0 then some (0, M13) else Option.bind (f_M_after 112568633486457 0 3 M13) (fun q16 => some (q16.1, q16.2))))) : Option (Int × KM)) (fun t17 => (if 0 ≤ v1 ∧ v1 < 16 then letM_ (mupd t17.2 396 (v1).toNat t17.1) (fun M18 => (if 0 ≤ M18 382 38 ∧ M18 382 38 < 2 then (if 0 ≤ M18 382 38 ∧ M18 382 38 < 2 then letM_ (mupd M18 385 (M18 382 38).toNat (w32 ((M18 385 (M18 382 38).toNat) + 1))) (fun M19 => some M19) else none) else none)) else none)))) else none)))) else none))) else none)) else none) else none)) else none)))) else none)
set_option maxRecDepth 100000 in
theorem sim_M_readPerson {G : Gam} {S : KS} (hS : KExt 435 S)   (M : KM) : Sim G Y_M_readPerson (f_M_readPerson  M) (kC 0 [some (VR (some 382)), none] [] S M) (fun (q : KM) => Sum.inr (none, S, q)) := by
  unfold f_M_readPerson
  refine s_bipush (dt_M_readPerson 0 _ _ _ rfl) rfl ?_
  refine s_aload_n (dt_M_readPerson 1 _ _ _ rfl) rfl ?_
  refine s_getI (dt_M_readPerson 2 _ _ _ rfl) (kf_M_279) (sc_382 hS) rfl ?_
  refine s_imul (dt_M_readPerson 3 _ _ _ rfl) ?_
  refine s_aload_n (dt_M_readPerson 4 _ _ _ rfl) rfl ?_
  refine s_getR (o := (some 385)) (dt_M_readPerson 5 _ _ _ rfl) (kf_M_20) (sc_382 hS) rfl rfl ?_
  refine s_aload_n (dt_M_readPerson 6 _ _ _ rfl) rfl ?_
  refine s_getI (dt_M_readPerson 7 _ _ _ rfl) (kf_M_279) (sc_382 hS) rfl ?_
  refine s_iald (N := 2) (dt_M_readPerson 8 _ _ _ rfl) (sc_385 hS) rfl ?_
  refine s_iadd (dt_M_readPerson 9 _ _ _ rfl) ?_
  refine s_letI (fun v1 => ?_)
  refine s_istore_n (dt_M_readPerson 10 _ _ _ rfl) rfl ?_
  refine s_aload_n (dt_M_readPerson 11 _ _ _ rfl) rfl ?_
  refine s_getR (o := (some 404)) (dt_M_readPerson 12 _ _ _ rfl) (kf_M_79) (sc_382 hS) rfl rfl ?_
  refine s_iload_n (dt_M_readPerson 13 _ _ _ rfl) rfl ?_
  refine s_aload_n (dt_M_readPerson 14 _ _ _ rfl) rfl ?_
  refine s_aload_n (dt_M_readPerson 15 _ _ _ rfl) rfl ?_
  refine s_callO (y := y_M_personHere) (Y' := Y_M_personHere) (as := [VR (some 382)]) (r := fun q => some (VI q)) (M' := fun q => M) (kInvV (dt_M_readPerson 16 _ _ _ rfl) kin_M_personHere 1 rfl (sc_382 hS) kse_M_personHere rfl) kl_M_321 md_M_personHere rfl rfl (fun q hq => c_M_personHere hS M q hq) (fun q2 => ?_)
  refine s_callO (y := y_M_fresh) (Y' := Y_M_fresh) (as := [VR (some 382), VI q2]) (r := fun q => some (VJ q.1)) (M' := fun q => q.2) (kInvV (dt_M_readPerson 17 _ _ _ rfl) kin_M_fresh 1 rfl (sc_382 hS) kse_M_fresh rfl) kl_M_325 md_M_fresh rfl rfl (fun q hq => c_M_fresh hS q2 M q hq) (fun q3 => ?_)
  refine s_last (N := 16) (dt_M_readPerson 18 _ _ _ rfl) (sc_404 hS) rfl ?_
  refine s_letM (fun M4 => ?_)
  refine s_aload_n (dt_M_readPerson 19 _ _ _ rfl) rfl ?_
  refine s_getR (o := (some 393)) (dt_M_readPerson 20 _ _ _ rfl) (kf_M_45) (sc_382 hS) rfl rfl ?_
  refine s_iload_n (dt_M_readPerson 21 _ _ _ rfl) rfl ?_
  refine s_aload_n (dt_M_readPerson 22 _ _ _ rfl) rfl ?_
  refine s_ldc2 (n := 6383461) (kc_M_190) (dt_M_readPerson 23 _ _ _ rfl) rfl ?_
  refine s_aload_n (dt_M_readPerson 24 _ _ _ rfl) rfl ?_
  refine s_getR (o := (some 390)) (dt_M_readPerson 25 _ _ _ rfl) (kf_M_36) (sc_382 hS) rfl rfl ?_
  refine s_aload_n (dt_M_readPerson 26 _ _ _ rfl) rfl ?_
  refine s_getI (dt_M_readPerson 27 _ _ _ rfl) (kf_M_279) (sc_382 hS) rfl ?_
  refine s_iald (N := 2) (dt_M_readPerson 28 _ _ _ rfl) (sc_390 hS) rfl ?_
  refine s_aload_n (dt_M_readPerson 29 _ _ _ rfl) rfl ?_
  refine s_getR (o := (some 391)) (dt_M_readPerson 30 _ _ _ rfl) (kf_M_39) (sc_382 hS) rfl rfl ?_
  refine s_aload_n (dt_M_readPerson 31 _ _ _ rfl) rfl ?_
  refine s_getI (dt_M_readPerson 32 _ _ _ rfl) (kf_M_279) (sc_382 hS) rfl ?_
  refine s_iald (N := 2) (dt_M_readPerson 33 _ _ _ rfl) (sc_391 hS) rfl ?_
  refine s_callO (y := y_M_after) (Y' := Y_M_after) (as := [VR (some 382), VJ 6383461, VI (M4 390 (M4 382 38).toNat), VI (M4 391 (M4 382 38).toNat)]) (r := fun q => some (VI q.1)) (M' := fun q => q.2) (kInvV (dt_M_readPerson 34 _ _ _ rfl) kin_M_after 1 rfl (sc_382 hS) kse_M_after rfl) kl_M_297 md_M_after rfl rfl (fun q hq => c_M_after hS 6383461 (M4 390 (M4 382 38).toNat) (M4 391 (M4 382 38).toNat) M4 q hq) (fun q5 => ?_)
  refine s_iast (N := 16) (dt_M_readPerson 35 _ _ _ rfl) (sc_393 hS) rfl ?_
  refine s_letM (fun M6 => ?_)
  refine s_aload_n (dt_M_readPerson 36 _ _ _ rfl) rfl ?_
  refine s_getR (o := (some 394)) (dt_M_readPerson 37 _ _ _ rfl) (kf_M_48) (sc_382 hS) rfl rfl ?_
  refine s_iload_n (dt_M_readPerson 38 _ _ _ rfl) rfl ?_
  refine s_aload_n (dt_M_readPerson 39 _ _ _ rfl) rfl ?_
  refine s_ldc2 (n := 1668245870) (kc_M_192) (dt_M_readPerson 40 _ _ _ rfl) rfl ?_
  refine s_iconst (dt_M_readPerson 41 _ _ _ rfl) rfl ?_
  refine s_sipush (dt_M_readPerson 42 _ _ _ rfl) rfl ?_
  refine s_callO (y := y_M_after) (Y' := Y_M_after) (as := [VR (some 382), VJ 1668245870, VI 0, VI 999]) (r := fun q => some (VI q.1)) (M' := fun q => q.2) (kInvV (dt_M_readPerson 43 _ _ _ rfl) kin_M_after 1 rfl (sc_382 hS) kse_M_after rfl) kl_M_297 md_M_after rfl rfl (fun q hq => c_M_after hS 1668245870 0 999 M6 q hq) (fun q7 => ?_)
  refine s_iast (N := 16) (dt_M_readPerson 44 _ _ _ rfl) (sc_394 hS) rfl ?_
  refine s_letM (fun M8 => ?_)
  refine s_aload_n (dt_M_readPerson 45 _ _ _ rfl) rfl ?_
  refine s_getR (o := (some 395)) (dt_M_readPerson 46 _ _ _ rfl) (kf_M_51) (sc_382 hS) rfl rfl ?_
  refine s_iload_n (dt_M_readPerson 47 _ _ _ rfl) rfl ?_
  refine s_aload_n (dt_M_readPerson 48 _ _ _ rfl) rfl ?_
  refine s_callO (y := y_M_isGood) (Y' := Y_M_isGood) (as := [VR (some 382)]) (r := fun q => some (VI q)) (M' := fun q => M8) (kInvV (dt_M_readPerson 49 _ _ _ rfl) kin_M_isGood 1 rfl (sc_382 hS) kse_M_isGood rfl) kl_M_258 md_M_isGood rfl rfl (fun q hq => c_M_isGood hS M8 q hq) (fun q9 => ?_)
  refine s_bd (κ := fun t12 => kC 136 [some (VR (some 382)), some (VI v1)] [VI t12.1, VI v1, VR (some 395)] S t12.2) ?_ (fun t12 => ?_)
  · refine s_if_eq (tgt := 130) (dt_M_readPerson 50 _ _ _ rfl) rfl ?_ ?_
    · refine s_aload_n (dt_M_readPerson 69 _ _ _ rfl) rfl ?_
      refine s_getR (o := (some 393)) (dt_M_readPerson 70 _ _ _ rfl) (kf_M_45) (sc_382 hS) rfl rfl ?_
      refine s_iload_n (dt_M_readPerson 71 _ _ _ rfl) rfl ?_
      refine s_iald (N := 16) (dt_M_readPerson 72 _ _ _ rfl) (sc_393 hS) rfl ?_
      exact s_mask [true, true] (s_ret0 rfl)
    · refine s_aload_n (dt_M_readPerson 51 _ _ _ rfl) rfl ?_
      refine s_ldc2 (n := 1852138852) (kc_M_194) (dt_M_readPerson 52 _ _ _ rfl) rfl ?_
      refine s_callO (y := y_M_isWord) (Y' := Y_M_isWord) (as := [VR (some 382), VJ 1852138852]) (r := fun q => some (VI q)) (M' := fun q => M8) (kInvV (dt_M_readPerson 53 _ _ _ rfl) kin_M_isWord 1 rfl (sc_382 hS) kse_M_isWord rfl) kl_M_268 md_M_isWord rfl rfl (fun q hq => c_M_isWord hS 1852138852 M8 q hq) (fun q10 => ?_)
      refine s_if_eq (tgt := 130) (dt_M_readPerson 54 _ _ _ rfl) rfl ?_ ?_
      · refine s_aload_n (dt_M_readPerson 69 _ _ _ rfl) rfl ?_
        refine s_getR (o := (some 393)) (dt_M_readPerson 70 _ _ _ rfl) (kf_M_45) (sc_382 hS) rfl rfl ?_
        refine s_iload_n (dt_M_readPerson 71 _ _ _ rfl) rfl ?_
        refine s_iald (N := 16) (dt_M_readPerson 72 _ _ _ rfl) (sc_393 hS) rfl ?_
        exact s_mask [true, true] (s_ret0 rfl)
      · refine s_aload_n (dt_M_readPerson 55 _ _ _ rfl) rfl ?_
        refine s_ldc2 (n := 1852138852) (kc_M_194) (dt_M_readPerson 56 _ _ _ rfl) rfl ?_
        refine s_aload_n (dt_M_readPerson 57 _ _ _ rfl) rfl ?_
        refine s_getR (o := (some 390)) (dt_M_readPerson 58 _ _ _ rfl) (kf_M_36) (sc_382 hS) rfl rfl ?_
        refine s_aload_n (dt_M_readPerson 59 _ _ _ rfl) rfl ?_
        refine s_getI (dt_M_readPerson 60 _ _ _ rfl) (kf_M_279) (sc_382 hS) rfl ?_
        refine s_iald (N := 2) (dt_M_readPerson 61 _ _ _ rfl) (sc_390 hS) rfl ?_
        refine s_aload_n (dt_M_readPerson 62 _ _ _ rfl) rfl ?_
        refine s_getR (o := (some 391)) (dt_M_readPerson 63 _ _ _ rfl) (kf_M_39) (sc_382 hS) rfl rfl ?_
        refine s_aload_n (dt_M_readPerson 64 _ _ _ rfl) rfl ?_
        refine s_getI (dt_M_readPerson 65 _ _ _ rfl) (kf_M_279) (sc_382 hS) rfl ?_
        refine s_iald (N := 2) (dt_M_readPerson 66 _ _ _ rfl) (sc_391 hS) rfl ?_
        refine s_callO (y := y_M_after) (Y' := Y_M_after) (as := [VR (some 382), VJ 1852138852, VI (M8 390 (M8 382 38).toNat), VI (M8 391 (M8 382 38).toNat)]) (r := fun q => some (VI q.1)) (M' := fun q => q.2) (kInvV (dt_M_readPerson 67 _ _ _ rfl) kin_M_after 1 rfl (sc_382 hS) kse_M_after rfl) kl_M_297 md_M_after rfl rfl (fun q hq => c_M_after hS 1852138852 (M8 390 (M8 382 38).toNat) (M8 391 (M8 382 38).toNat) M8 q hq) (fun q11 => ?_)
        refine s_goto (tgt := 136) (dt_M_readPerson 68 _ _ _ rfl) rfl ?_
        exact s_mask [true, true] (s_ret0 rfl)
  refine s_iast (N := 16) (dt_M_readPerson 73 _ _ _ rfl) (sc_395 hS) rfl ?_
  refine s_letM (fun M13 => ?_)
  refine s_aload_n (dt_M_readPerson 74 _ _ _ rfl) rfl ?_
  refine s_getR (o := (some 396)) (dt_M_readPerson 75 _ _ _ rfl) (kf_M_54) (sc_382 hS) rfl rfl ?_
  refine s_iload_n (dt_M_readPerson 76 _ _ _ rfl) rfl ?_
  refine s_aload_n (dt_M_readPerson 77 _ _ _ rfl) rfl ?_
  refine s_callO (y := y_M_isGood) (Y' := Y_M_isGood) (as := [VR (some 382)]) (r := fun q => some (VI q)) (M' := fun q => M13) (kInvV (dt_M_readPerson 78 _ _ _ rfl) kin_M_isGood 1 rfl (sc_382 hS) kse_M_isGood rfl) kl_M_258 md_M_isGood rfl rfl (fun q hq => c_M_isGood hS M13 q hq) (fun q14 => ?_)
  refine s_bd (κ := fun t17 => kC 172 [some (VR (some 382)), none] [VI t17.1, VI v1, VR (some 396)] S t17.2) ?_ (fun t17 => ?_)
  · refine s_if_eq (tgt := 171) (dt_M_readPerson 79 _ _ _ rfl) rfl ?_ ?_
    · refine s_iconst (dt_M_readPerson 90 _ _ _ rfl) rfl ?_
      exact s_mask [true, false] (s_ret0 rfl)
    · refine s_aload_n (dt_M_readPerson 80 _ _ _ rfl) rfl ?_
      refine s_ldc2 (n := 112568633486457) (kc_M_196) (dt_M_readPerson 81 _ _ _ rfl) rfl ?_
      refine s_callO (y := y_M_isWord) (Y' := Y_M_isWord) (as := [VR (some 382), VJ 112568633486457]) (r := fun q => some (VI q)) (M' := fun q => M13) (kInvV (dt_M_readPerson 82 _ _ _ rfl) kin_M_isWord 1 rfl (sc_382 hS) kse_M_isWord rfl) kl_M_268 md_M_isWord rfl rfl (fun q hq => c_M_isWord hS 112568633486457 M13 q hq) (fun q15 => ?_)
      refine s_if_eq (tgt := 171) (dt_M_readPerson 83 _ _ _ rfl) rfl ?_ ?_
      · refine s_iconst (dt_M_readPerson 90 _ _ _ rfl) rfl ?_
        exact s_mask [true, false] (s_ret0 rfl)
      · refine s_aload_n (dt_M_readPerson 84 _ _ _ rfl) rfl ?_
        refine s_ldc2 (n := 112568633486457) (kc_M_196) (dt_M_readPerson 85 _ _ _ rfl) rfl ?_
        refine s_iconst (dt_M_readPerson 86 _ _ _ rfl) rfl ?_
        refine s_iconst (dt_M_readPerson 87 _ _ _ rfl) rfl ?_
        refine s_callO (y := y_M_after) (Y' := Y_M_after) (as := [VR (some 382), VJ 112568633486457, VI 0, VI 3]) (r := fun q => some (VI q.1)) (M' := fun q => q.2) (kInvV (dt_M_readPerson 88 _ _ _ rfl) kin_M_after 1 rfl (sc_382 hS) kse_M_after rfl) kl_M_297 md_M_after rfl rfl (fun q hq => c_M_after hS 112568633486457 0 3 M13 q hq) (fun q16 => ?_)
        refine s_goto (tgt := 172) (dt_M_readPerson 89 _ _ _ rfl) rfl ?_
        exact s_mask [true, false] (s_ret0 rfl)
  refine s_iast (N := 16) (dt_M_readPerson 91 _ _ _ rfl) (sc_396 hS) rfl ?_
  refine s_letM (fun M18 => ?_)
  refine s_aload_n (dt_M_readPerson 92 _ _ _ rfl) rfl ?_
  refine s_getR (o := (some 385)) (dt_M_readPerson 93 _ _ _ rfl) (kf_M_20) (sc_382 hS) rfl rfl ?_
  refine s_aload_n (dt_M_readPerson 94 _ _ _ rfl) rfl ?_
  refine s_getI (dt_M_readPerson 95 _ _ _ rfl) (kf_M_279) (sc_382 hS) rfl ?_
  refine s_dup2 (dt_M_readPerson 96 _ _ _ rfl) rfl rfl ?_
  refine s_iald (N := 2) (dt_M_readPerson 97 _ _ _ rfl) (sc_385 hS) rfl ?_
  refine s_iconst (dt_M_readPerson 98 _ _ _ rfl) rfl ?_
  refine s_iadd (dt_M_readPerson 99 _ _ _ rfl) ?_
  refine s_iast (N := 2) (dt_M_readPerson 100 _ _ _ rfl) (sc_385 hS) rfl ?_
  refine s_letM (fun M19 => ?_)
  exact s_vret (dt_M_readPerson 101 _ _ _ rfl) rfl rfl
theorem c_M_readPerson {S : KS} (hS : KExt 435 S)   (M : KM) : ∀ q, f_M_readPerson  M = some q → Ctr y_M_readPerson Y_M_readPerson [VR (some 382)] S M (none) S (q) := fun q hq =>
  ctr_of md_M_readPerson (Nat.le_of_ble_eq_true rfl) ⟨Nat.le_refl _, Nat.le_refl _⟩ 1 hq rfl (fun _ G => sim_M_readPerson hS   M)
noncomputable def f_M_emit (a0 : Int) (a1 : Int) (M : KM) : Option (KM) := (if 0 ≤ M 382 39 ∧ M 382 39 < 1120 then letM_ (mupd M 406 (M 382 39).toNat a0) (fun M1 => (if 0 ≤ M1 382 39 ∧ M1 382 39 < 1120 then letM_ (mupd M1 407 (M1 382 39).toNat a1) (fun M2 => letM_ (mupd M2 382 39 (w32 ((M2 382 39) + 1))) (fun M3 => some M3)) else none)) else none)
set_option maxRecDepth 100000 in
theorem sim_M_emit {G : Gam} {S : KS} (hS : KExt 435 S)  (a0 : Int) (a1 : Int) (M : KM) : Sim G Y_M_emit (f_M_emit a0 a1 M) (kC 0 [some (VR (some 382)), some (VI a0), some (VI a1)] [] S M) (fun (q : KM) => Sum.inr (none, S, q)) := by
  unfold f_M_emit
  refine s_aload_n (dt_M_emit 0 _ _ _ rfl) rfl ?_
  refine s_getR (o := (some 406)) (dt_M_emit 1 _ _ _ rfl) (kf_M_86) (sc_382 hS) rfl rfl ?_
  refine s_aload_n (dt_M_emit 2 _ _ _ rfl) rfl ?_
  refine s_getI (dt_M_emit 3 _ _ _ rfl) (kf_M_282) (sc_382 hS) rfl ?_
  refine s_iload_n (dt_M_emit 4 _ _ _ rfl) rfl ?_
  refine s_iast (N := 1120) (dt_M_emit 5 _ _ _ rfl) (sc_406 hS) rfl ?_
  refine s_letM (fun M1 => ?_)
  refine s_aload_n (dt_M_emit 6 _ _ _ rfl) rfl ?_
  refine s_getR (o := (some 407)) (dt_M_emit 7 _ _ _ rfl) (kf_M_89) (sc_382 hS) rfl rfl ?_
  refine s_aload_n (dt_M_emit 8 _ _ _ rfl) rfl ?_
  refine s_getI (dt_M_emit 9 _ _ _ rfl) (kf_M_282) (sc_382 hS) rfl ?_
  refine s_iload_n (dt_M_emit 10 _ _ _ rfl) rfl ?_
  refine s_iast (N := 1120) (dt_M_emit 11 _ _ _ rfl) (sc_407 hS) rfl ?_
  refine s_letM (fun M2 => ?_)
  refine s_aload_n (dt_M_emit 12 _ _ _ rfl) rfl ?_
  refine s_dup (dt_M_emit 13 _ _ _ rfl) rfl ?_
  refine s_getI (dt_M_emit 14 _ _ _ rfl) (kf_M_282) (sc_382 hS) rfl ?_
  refine s_iconst (dt_M_emit 15 _ _ _ rfl) rfl ?_
  refine s_iadd (dt_M_emit 16 _ _ _ rfl) ?_
  refine s_putI (dt_M_emit 17 _ _ _ rfl) kp_M_282 (sc_382 hS) ⟨rfl, rfl⟩ ?_
  refine s_letM (fun M3 => ?_)
  exact s_vret (dt_M_emit 18 _ _ _ rfl) rfl rfl
theorem c_M_emit {S : KS} (hS : KExt 435 S)  (a0 : Int) (a1 : Int) (M : KM) : ∀ q, f_M_emit a0 a1 M = some q → Ctr y_M_emit Y_M_emit [VR (some 382), VI a0, VI a1] S M (none) S (q) := fun q hq =>
  ctr_of md_M_emit (Nat.le_of_ble_eq_true rfl) ⟨Nat.le_refl _, Nat.le_refl _⟩ 0 hq rfl (fun _ G => sim_M_emit hS  a0 a1 M)
noncomputable def f_M_isCompared  (M : KM) : Option (Int) := letI_ (w32 ((M 382 41) - 1)) (fun v1 => Option.bind (whileO (σ := Int) (ε := Int) (fun s2 => (if 0 ≤ s2 ∧ s2 < 90 then (if M 408 (s2).toNat = 5 then some (Sum.inl (w32 (s2 + (-1)))) else (if 0 ≤ s2 ∧ s2 < 90 then (if M 408 (s2).toNat = 6 then some (Sum.inl (w32 (s2 + (-1)))) else some (Sum.inr s2)) else none)) else none)) v1) (fun e3 => (if 0 ≤ e3 ∧ e3 < 90 then Option.bind ((if M 408 (e3).toNat = 4 then some 1 else some 0) : Option (Int)) (fun t4 => (if 0 ≤ t4 ∧ t4 ≤ 1 then some t4 else none)) else none)))
set_option maxRecDepth 100000 in
theorem sim_M_isCompared {G : Gam} {S : KS} (hS : KExt 435 S)   (M : KM) : Sim G Y_M_isCompared (f_M_isCompared  M) (kC 0 [some (VR (some 382)), none] [] S M) (fun (q : Int) => Sum.inr (some (VI q), S, M)) := by
  unfold f_M_isCompared
  refine s_aload_n (dt_M_isCompared 0 _ _ _ rfl) rfl ?_
  refine s_getI (dt_M_isCompared 1 _ _ _ rfl) (kf_M_342) (sc_382 hS) rfl ?_
  refine s_iconst (dt_M_isCompared 2 _ _ _ rfl) rfl ?_
  refine s_isub (dt_M_isCompared 3 _ _ _ rfl) ?_
  refine s_letI (fun v1 => ?_)
  refine s_istore_n (dt_M_isCompared 4 _ _ _ rfl) rfl ?_
  refine s_bd (κ := (fun (e3 : Int) => kC 34 [some (VR (some 382)), some (VI e3)] [] S M)) (s_mask [true, true] (s_while (c := fun s2 => kC 7 [some (VR (some 382)), some (VI s2)] [] S M) (fun s2 => ?_) v1)) ?_
  · refine s_aload_n (dt_M_isCompared 5 _ _ _ rfl) rfl ?_
    refine s_getR (o := (some 408)) (dt_M_isCompared 6 _ _ _ rfl) (kf_M_92) (sc_382 hS) rfl rfl ?_
    refine s_iload_n (dt_M_isCompared 7 _ _ _ rfl) rfl ?_
    refine s_iald (N := 90) (dt_M_isCompared 8 _ _ _ rfl) (sc_408 hS) rfl ?_
    refine s_iconst (dt_M_isCompared 9 _ _ _ rfl) rfl ?_
    refine s_if_icmp_eq (tgt := 28) (dt_M_isCompared 10 _ _ _ rfl) rfl ?_ ?_
    · refine s_iinc (dt_M_isCompared 17 _ _ _ rfl) rfl rfl ?_
      refine s_goto (tgt := 7) (dt_M_isCompared 18 _ _ _ rfl) rfl ?_
      exact s_mask [true, true] (s_ret0 rfl)
    · refine s_aload_n (dt_M_isCompared 11 _ _ _ rfl) rfl ?_
      refine s_getR (o := (some 408)) (dt_M_isCompared 12 _ _ _ rfl) (kf_M_92) (sc_382 hS) rfl rfl ?_
      refine s_iload_n (dt_M_isCompared 13 _ _ _ rfl) rfl ?_
      refine s_iald (N := 90) (dt_M_isCompared 14 _ _ _ rfl) (sc_408 hS) rfl ?_
      refine s_bipush (dt_M_isCompared 15 _ _ _ rfl) rfl ?_
      refine s_if_icmp_ne (tgt := 34) (dt_M_isCompared 16 _ _ _ rfl) rfl ?_ ?_
      · refine s_iinc (dt_M_isCompared 17 _ _ _ rfl) rfl rfl ?_
        refine s_goto (tgt := 7) (dt_M_isCompared 18 _ _ _ rfl) rfl ?_
        exact s_mask [true, true] (s_ret0 rfl)
      · exact s_mask [true, true] (s_ret0 rfl)
  intro e3
  refine s_aload_n (dt_M_isCompared 19 _ _ _ rfl) rfl ?_
  refine s_getR (o := (some 408)) (dt_M_isCompared 20 _ _ _ rfl) (kf_M_92) (sc_382 hS) rfl rfl ?_
  refine s_iload_n (dt_M_isCompared 21 _ _ _ rfl) rfl ?_
  refine s_iald (N := 90) (dt_M_isCompared 22 _ _ _ rfl) (sc_408 hS) rfl ?_
  refine s_iconst (dt_M_isCompared 23 _ _ _ rfl) rfl ?_
  refine s_bd (κ := fun t4 => kC 49 [none, none] [VI t4] S M) ?_ (fun t4 => ?_)
  · refine s_if_icmp_ne (tgt := 48) (dt_M_isCompared 24 _ _ _ rfl) rfl ?_ ?_
    · refine s_iconst (dt_M_isCompared 25 _ _ _ rfl) rfl ?_
      refine s_goto (tgt := 49) (dt_M_isCompared 26 _ _ _ rfl) rfl ?_
      exact s_mask [false, false] (s_ret0 rfl)
    · refine s_iconst (dt_M_isCompared 27 _ _ _ rfl) rfl ?_
      exact s_mask [false, false] (s_ret0 rfl)
  exact s_zret (dt_M_isCompared 28 _ _ _ rfl) rfl rfl
theorem c_M_isCompared {S : KS} (hS : KExt 435 S)   (M : KM) : ∀ q, f_M_isCompared  M = some q → Ctr y_M_isCompared Y_M_isCompared [VR (some 382)] S M (some (VI q)) S (M) := fun q hq =>
  ctr_of md_M_isCompared (Nat.le_of_ble_eq_true rfl) ⟨Nat.le_refl _, Nat.le_refl _⟩ 1 hq rfl (fun _ G => sim_M_isCompared hS   M)
noncomputable def f_M_pushE (a0 : Int) (a1 : Int) (M : KM) : Option (KM) := (if 0 ≤ M 382 41 ∧ M 382 41 < 90 then letM_ (mupd M 408 (M 382 41).toNat a0) (fun M1 => (if 0 ≤ M1 382 41 ∧ M1 382 41 < 90 then letM_ (mupd M1 409 (M1 382 41).toNat a1) (fun M2 => letM_ (mupd M2 382 41 (w32 ((M2 382 41) + 1))) (fun M3 => some M3)) else none)) else none)
set_option maxRecDepth 100000 in
theorem sim_M_pushE {G : Gam} {S : KS} (hS : KExt 435 S)  (a0 : Int) (a1 : Int) (M : KM) : Sim G Y_M_pushE (f_M_pushE a0 a1 M) (kC 0 [some (VR (some 382)), some (VI a0), some (VI a1)] [] S M) (fun (q : KM) => Sum.inr (none, S, q)) := by
  unfold f_M_pushE
  refine s_aload_n (dt_M_pushE 0 _ _ _ rfl) rfl ?_
  refine s_getR (o := (some 408)) (dt_M_pushE 1 _ _ _ rfl) (kf_M_92) (sc_382 hS) rfl rfl ?_
  refine s_aload_n (dt_M_pushE 2 _ _ _ rfl) rfl ?_
  refine s_getI (dt_M_pushE 3 _ _ _ rfl) (kf_M_342) (sc_382 hS) rfl ?_
  refine s_iload_n (dt_M_pushE 4 _ _ _ rfl) rfl ?_
  refine s_iast (N := 90) (dt_M_pushE 5 _ _ _ rfl) (sc_408 hS) rfl ?_
  refine s_letM (fun M1 => ?_)
  refine s_aload_n (dt_M_pushE 6 _ _ _ rfl) rfl ?_
  refine s_getR (o := (some 409)) (dt_M_pushE 7 _ _ _ rfl) (kf_M_95) (sc_382 hS) rfl rfl ?_
  refine s_aload_n (dt_M_pushE 8 _ _ _ rfl) rfl ?_
  refine s_getI (dt_M_pushE 9 _ _ _ rfl) (kf_M_342) (sc_382 hS) rfl ?_
  refine s_iload_n (dt_M_pushE 10 _ _ _ rfl) rfl ?_
  refine s_iast (N := 90) (dt_M_pushE 11 _ _ _ rfl) (sc_409 hS) rfl ?_
  refine s_letM (fun M2 => ?_)
  refine s_aload_n (dt_M_pushE 12 _ _ _ rfl) rfl ?_
  refine s_dup (dt_M_pushE 13 _ _ _ rfl) rfl ?_
  refine s_getI (dt_M_pushE 14 _ _ _ rfl) (kf_M_342) (sc_382 hS) rfl ?_
  refine s_iconst (dt_M_pushE 15 _ _ _ rfl) rfl ?_
  refine s_iadd (dt_M_pushE 16 _ _ _ rfl) ?_
  refine s_putI (dt_M_pushE 17 _ _ _ rfl) kp_M_342 (sc_382 hS) ⟨rfl, rfl⟩ ?_
  refine s_letM (fun M3 => ?_)
  exact s_vret (dt_M_pushE 18 _ _ _ rfl) rfl rfl
theorem c_M_pushE {S : KS} (hS : KExt 435 S)  (a0 : Int) (a1 : Int) (M : KM) : ∀ q, f_M_pushE a0 a1 M = some q → Ctr y_M_pushE Y_M_pushE [VR (some 382), VI a0, VI a1] S M (none) S (q) := fun q hq =>
  ctr_of md_M_pushE (Nat.le_of_ble_eq_true rfl) ⟨Nat.le_refl _, Nat.le_refl _⟩ 0 hq rfl (fun _ G => sim_M_pushE hS  a0 a1 M)
noncomputable def f_M_rankHere  (M : KM) : Option (Int) := Option.bind (f_M_isWord 6385252 M) (fun q1 => (if q1 = 0 then Option.bind (f_M_isWord 28530 M) (fun q2 => (if q2 = 0 then Option.bind (f_M_isSignHere 60 M) (fun q3 => (if q3 = 0 then Option.bind (f_M_isSignHere 62 M) (fun q4 => (if q4 = 0 then Option.bind (f_M_isSignHere 61 M) (fun q5 => (if q5 = 0 then Option.bind (f_M_isSignHere 43 M) (fun q6 => (if q6 = 0 then Option.bind (f_M_isSignHere 45 M) (fun q7 => (if q7 = 0 then Option.bind (f_M_isSignHere 42 M) (fun q8 => Option.bind ((if q8 = 0 then Option.bind (f_M_isSignHere 47 M) (fun q9 => (if q9 = 0 then Option.bind (f_M_isSignHere 37 M) (fun q10 => (if q10 = 0 then some 0 else some 6)) else some 6)) else some 6) : Option (Int)) (fun t11 => some t11)) else some 5)) else some 5)) else some 4)) else some 4)) else some 4)) else some 1)) else some 2))
set_option maxRecDepth 100000 in
theorem sim_M_rankHere {G : Gam} {S : KS} (hS : KExt 435 S)   (M : KM) : Sim G Y_M_rankHere (f_M_rankHere  M) (kC 0 [some (VR (some 382))] [] S M) (fun (q : Int) => Sum.inr (some (VI q), S, M)) := by
  unfold f_M_rankHere
  refine s_aload_n (dt_M_rankHere 0 _ _ _ rfl) rfl ?_
  refine s_ldc2 (n := 6385252) (kc_M_216) (dt_M_rankHere 1 _ _ _ rfl) rfl ?_
  refine s_callO (y := y_M_isWord) (Y' := Y_M_isWord) (as := [VR (some 382), VJ 6385252]) (r := fun q => some (VI q)) (M' := fun q => M) (kInvV (dt_M_rankHere 2 _ _ _ rfl) kin_M_isWord 1 rfl (sc_382 hS) kse_M_isWord rfl) kl_M_268 md_M_isWord rfl rfl (fun q hq => c_M_isWord hS 6385252 M q hq) (fun q1 => ?_)
  refine s_if_eq (tgt := 12) (dt_M_rankHere 3 _ _ _ rfl) rfl ?_ ?_
  · refine s_aload_n (dt_M_rankHere 6 _ _ _ rfl) rfl ?_
    refine s_ldc2 (n := 28530) (kc_M_214) (dt_M_rankHere 7 _ _ _ rfl) rfl ?_
    refine s_callO (y := y_M_isWord) (Y' := Y_M_isWord) (as := [VR (some 382), VJ 28530]) (r := fun q => some (VI q)) (M' := fun q => M) (kInvV (dt_M_rankHere 8 _ _ _ rfl) kin_M_isWord 1 rfl (sc_382 hS) kse_M_isWord rfl) kl_M_268 md_M_isWord rfl rfl (fun q hq => c_M_isWord hS 28530 M q hq) (fun q2 => ?_)
    refine s_if_eq (tgt := 24) (dt_M_rankHere 9 _ _ _ rfl) rfl ?_ ?_
    · refine s_aload_n (dt_M_rankHere 12 _ _ _ rfl) rfl ?_
      refine s_bipush (dt_M_rankHere 13 _ _ _ rfl) rfl ?_
      refine s_callO (y := y_M_isSignHere) (Y' := Y_M_isSignHere) (as := [VR (some 382), VI 60]) (r := fun q => some (VI q)) (M' := fun q => M) (kInvV (dt_M_rankHere 14 _ _ _ rfl) kin_M_isSignHere 1 rfl (sc_382 hS) kse_M_isSignHere rfl) kl_M_314 md_M_isSignHere rfl rfl (fun q hq => c_M_isSignHere hS 60 M q hq) (fun q3 => ?_)
      refine s_if_ne (tgt := 51) (dt_M_rankHere 15 _ _ _ rfl) rfl ?_ ?_
      · refine s_aload_n (dt_M_rankHere 16 _ _ _ rfl) rfl ?_
        refine s_bipush (dt_M_rankHere 17 _ _ _ rfl) rfl ?_
        refine s_callO (y := y_M_isSignHere) (Y' := Y_M_isSignHere) (as := [VR (some 382), VI 62]) (r := fun q => some (VI q)) (M' := fun q => M) (kInvV (dt_M_rankHere 18 _ _ _ rfl) kin_M_isSignHere 1 rfl (sc_382 hS) kse_M_isSignHere rfl) kl_M_314 md_M_isSignHere rfl rfl (fun q hq => c_M_isSignHere hS 62 M q hq) (fun q4 => ?_)
        refine s_if_ne (tgt := 51) (dt_M_rankHere 19 _ _ _ rfl) rfl ?_ ?_
        · refine s_aload_n (dt_M_rankHere 20 _ _ _ rfl) rfl ?_
          refine s_bipush (dt_M_rankHere 21 _ _ _ rfl) rfl ?_
          refine s_callO (y := y_M_isSignHere) (Y' := Y_M_isSignHere) (as := [VR (some 382), VI 61]) (r := fun q => some (VI q)) (M' := fun q => M) (kInvV (dt_M_rankHere 22 _ _ _ rfl) kin_M_isSignHere 1 rfl (sc_382 hS) kse_M_isSignHere rfl) kl_M_314 md_M_isSignHere rfl rfl (fun q hq => c_M_isSignHere hS 61 M q hq) (fun q5 => ?_)
          refine s_if_eq (tgt := 53) (dt_M_rankHere 23 _ _ _ rfl) rfl ?_ ?_
          · refine s_aload_n (dt_M_rankHere 26 _ _ _ rfl) rfl ?_
            refine s_bipush (dt_M_rankHere 27 _ _ _ rfl) rfl ?_
            refine s_callO (y := y_M_isSignHere) (Y' := Y_M_isSignHere) (as := [VR (some 382), VI 43]) (r := fun q => some (VI q)) (M' := fun q => M) (kInvV (dt_M_rankHere 28 _ _ _ rfl) kin_M_isSignHere 1 rfl (sc_382 hS) kse_M_isSignHere rfl) kl_M_314 md_M_isSignHere rfl rfl (fun q hq => c_M_isSignHere hS 43 M q hq) (fun q6 => ?_)
            refine s_if_ne (tgt := 71) (dt_M_rankHere 29 _ _ _ rfl) rfl ?_ ?_
            · refine s_aload_n (dt_M_rankHere 30 _ _ _ rfl) rfl ?_
              refine s_bipush (dt_M_rankHere 31 _ _ _ rfl) rfl ?_
              refine s_callO (y := y_M_isSignHere) (Y' := Y_M_isSignHere) (as := [VR (some 382), VI 45]) (r := fun q => some (VI q)) (M' := fun q => M) (kInvV (dt_M_rankHere 32 _ _ _ rfl) kin_M_isSignHere 1 rfl (sc_382 hS) kse_M_isSignHere rfl) kl_M_314 md_M_isSignHere rfl rfl (fun q hq => c_M_isSignHere hS 45 M q hq) (fun q7 => ?_)
              refine s_if_eq (tgt := 73) (dt_M_rankHere 33 _ _ _ rfl) rfl ?_ ?_
              · refine s_aload_n (dt_M_rankHere 36 _ _ _ rfl) rfl ?_
                refine s_bipush (dt_M_rankHere 37 _ _ _ rfl) rfl ?_
                refine s_callO (y := y_M_isSignHere) (Y' := Y_M_isSignHere) (as := [VR (some 382), VI 42]) (r := fun q => some (VI q)) (M' := fun q => M) (kInvV (dt_M_rankHere 38 _ _ _ rfl) kin_M_isSignHere 1 rfl (sc_382 hS) kse_M_isSignHere rfl) kl_M_314 md_M_isSignHere rfl rfl (fun q hq => c_M_isSignHere hS 42 M q hq) (fun q8 => ?_)
                refine s_bd (κ := fun t11 => kC 106 [none] [VI t11] S M) ?_ (fun t11 => ?_)
                · refine s_if_ne (tgt := 100) (dt_M_rankHere 39 _ _ _ rfl) rfl ?_ ?_
                  · refine s_aload_n (dt_M_rankHere 40 _ _ _ rfl) rfl ?_
                    refine s_bipush (dt_M_rankHere 41 _ _ _ rfl) rfl ?_
                    refine s_callO (y := y_M_isSignHere) (Y' := Y_M_isSignHere) (as := [VR (some 382), VI 47]) (r := fun q => some (VI q)) (M' := fun q => M) (kInvV (dt_M_rankHere 42 _ _ _ rfl) kin_M_isSignHere 1 rfl (sc_382 hS) kse_M_isSignHere rfl) kl_M_314 md_M_isSignHere rfl rfl (fun q hq => c_M_isSignHere hS 47 M q hq) (fun q9 => ?_)
                    refine s_if_ne (tgt := 100) (dt_M_rankHere 43 _ _ _ rfl) rfl ?_ ?_
                    · refine s_aload_n (dt_M_rankHere 44 _ _ _ rfl) rfl ?_
                      refine s_bipush (dt_M_rankHere 45 _ _ _ rfl) rfl ?_
                      refine s_callO (y := y_M_isSignHere) (Y' := Y_M_isSignHere) (as := [VR (some 382), VI 37]) (r := fun q => some (VI q)) (M' := fun q => M) (kInvV (dt_M_rankHere 46 _ _ _ rfl) kin_M_isSignHere 1 rfl (sc_382 hS) kse_M_isSignHere rfl) kl_M_314 md_M_isSignHere rfl rfl (fun q hq => c_M_isSignHere hS 37 M q hq) (fun q10 => ?_)
                      refine s_if_eq (tgt := 105) (dt_M_rankHere 47 _ _ _ rfl) rfl ?_ ?_
                      · refine s_iconst (dt_M_rankHere 50 _ _ _ rfl) rfl ?_
                        exact s_mask [false] (s_ret0 rfl)
                      · refine s_bipush (dt_M_rankHere 48 _ _ _ rfl) rfl ?_
                        refine s_goto (tgt := 106) (dt_M_rankHere 49 _ _ _ rfl) rfl ?_
                        exact s_mask [false] (s_ret0 rfl)
                    · refine s_bipush (dt_M_rankHere 48 _ _ _ rfl) rfl ?_
                      refine s_goto (tgt := 106) (dt_M_rankHere 49 _ _ _ rfl) rfl ?_
                      exact s_mask [false] (s_ret0 rfl)
                  · refine s_bipush (dt_M_rankHere 48 _ _ _ rfl) rfl ?_
                    refine s_goto (tgt := 106) (dt_M_rankHere 49 _ _ _ rfl) rfl ?_
                    exact s_mask [false] (s_ret0 rfl)
                exact s_iret (dt_M_rankHere 51 _ _ _ rfl) rfl rfl
              · refine s_iconst (dt_M_rankHere 34 _ _ _ rfl) rfl ?_
                exact s_iret (dt_M_rankHere 35 _ _ _ rfl) rfl rfl
            · refine s_iconst (dt_M_rankHere 34 _ _ _ rfl) rfl ?_
              exact s_iret (dt_M_rankHere 35 _ _ _ rfl) rfl rfl
          · refine s_iconst (dt_M_rankHere 24 _ _ _ rfl) rfl ?_
            exact s_iret (dt_M_rankHere 25 _ _ _ rfl) rfl rfl
        · refine s_iconst (dt_M_rankHere 24 _ _ _ rfl) rfl ?_
          exact s_iret (dt_M_rankHere 25 _ _ _ rfl) rfl rfl
      · refine s_iconst (dt_M_rankHere 24 _ _ _ rfl) rfl ?_
        exact s_iret (dt_M_rankHere 25 _ _ _ rfl) rfl rfl
    · refine s_iconst (dt_M_rankHere 10 _ _ _ rfl) rfl ?_
      exact s_iret (dt_M_rankHere 11 _ _ _ rfl) rfl rfl
  · refine s_iconst (dt_M_rankHere 4 _ _ _ rfl) rfl ?_
    exact s_iret (dt_M_rankHere 5 _ _ _ rfl) rfl rfl
theorem c_M_rankHere {S : KS} (hS : KExt 435 S)   (M : KM) : ∀ q, f_M_rankHere  M = some q → Ctr y_M_rankHere Y_M_rankHere [VR (some 382)] S M (some (VI q)) S (M) := fun q hq =>
  ctr_of md_M_rankHere (Nat.le_of_ble_eq_true rfl) ⟨Nat.le_refl _, Nat.le_refl _⟩ 0 hq rfl (fun _ G => sim_M_rankHere hS   M)
noncomputable def f_M_behindUnit  (M : KM) : Option (Int × KM) := Option.bind (f_M_rankHere M) (fun q1 => (if q1 = 4 then Option.bind (f_M_isCompared M) (fun q2 => (if q2 = 0 then Option.bind (whileO (σ := KM) (ε := KM) (fun s3 => (if 0 ≤ w32 ((s3 382 41) - 1) ∧ w32 ((s3 382 41) - 1) < 90 then (if s3 408 (w32 ((s3 382 41) - 1)).toNat ≤ 6 then (if 0 ≤ w32 ((s3 382 41) - 1) ∧ w32 ((s3 382 41) - 1) < 90 then (if s3 408 (w32 ((s3 382 41) - 1)).toNat < q1 then some (Sum.inr s3) else letM_ (mupd s3 382 41 (w32 ((s3 382 41) - 1))) (fun M4 => (if 0 ≤ M4 382 41 ∧ M4 382 41 < 90 then Option.bind ((if M4 408 (M4 382 41).toNat = 3 then letM_ (mupd M4 382 40 (w32 ((M4 382 40) - 1))) (fun M5 => some M5) else some M4) : Option (KM)) (fun t6 => (if 0 ≤ t6 382 41 ∧ t6 382 41 < 90 then Option.bind (f_M_emit (t6 409 (t6 382 41).toNat) 0 t6) (fun q7 => some (Sum.inl q7)) else none)) else none))) else none) else some (Sum.inr s3)) else none)) M) (fun e8 => (if q1 ≤ 0 then letM_ (mupd e8 382 41 (w32 ((e8 382 41) - 1))) (fun M9 => (if 0 ≤ M9 382 41 ∧ M9 382 41 < 90 then Option.bind ((if M9 408 (M9 382 41).toNat = 7 then letM_ (mupd M9 382 40 (w32 ((M9 382 40) - 1))) (fun M10 => Option.bind (f_M_isSignHere 41 M10) (fun q11 => Option.bind (f_M_must q11 M10) (fun q12 => some q12))) else some M9) : Option (KM)) (fun t13 => some (0, t13)) else none)) else Option.bind ((if q1 = 2 then some 38 else (if q1 = 1 then some 124 else Option.bind (f_M_sign (e8 382 6) e8) (fun q14 => some q14))) : Option (Int)) (fun t15 => Option.bind (f_M_pushE q1 t15 e8) (fun q16 => Option.bind (f_M_goOn q16) (fun q17 => some (1, q17)))))) else Option.bind (f_M_misplaced M) (fun q18 => some (1, q18)))) else Option.bind (whileO (σ := KM) (ε := KM) (fun s19 => (if 0 ≤ w32 ((s19 382 41) - 1) ∧ w32 ((s19 382 41) - 1) < 90 then (if s19 408 (w32 ((s19 382 41) - 1)).toNat ≤ 6 then (if 0 ≤ w32 ((s19 382 41) - 1) ∧ w32 ((s19 382 41) - 1) < 90 then (if s19 408 (w32 ((s19 382 41) - 1)).toNat < q1 then some (Sum.inr s19) else letM_ (mupd s19 382 41 (w32 ((s19 382 41) - 1))) (fun M20 => (if 0 ≤ M20 382 41 ∧ M20 382 41 < 90 then Option.bind ((if M20 408 (M20 382 41).toNat = 3 then letM_ (mupd M20 382 40 (w32 ((M20 382 40) - 1))) (fun M21 => some M21) else some M20) : Option (KM)) (fun t22 => (if 0 ≤ t22 382 41 ∧ t22 382 41 < 90 then Option.bind (f_M_emit (t22 409 (t22 382 41).toNat) 0 t22) (fun q23 => some (Sum.inl q23)) else none)) else none))) else none) else some (Sum.inr s19)) else none)) M) (fun e24 => (if q1 ≤ 0 then letM_ (mupd e24 382 41 (w32 ((e24 382 41) - 1))) (fun M25 => (if 0 ≤ M25 382 41 ∧ M25 382 41 < 90 then Option.bind ((if M25 408 (M25 382 41).toNat = 7 then letM_ (mupd M25 382 40 (w32 ((M25 382 40) - 1))) (fun M26 => Option.bind (f_M_isSignHere 41 M26) (fun q27 => Option.bind (f_M_must q27 M26) (fun q28 => some q28))) else some M25) : Option (KM)) (fun t29 => some (0, t29)) else none)) else Option.bind ((if q1 = 2 then some 38 else (if q1 = 1 then some 124 else Option.bind (f_M_sign (e24 382 6) e24) (fun q30 => some q30))) : Option (Int)) (fun t31 => Option.bind (f_M_pushE q1 t31 e24) (fun q32 => Option.bind (f_M_goOn q32) (fun q33 => some (1, q33))))))))
set_option maxRecDepth 100000 in
theorem sim_M_behindUnit {G : Gam} {S : KS} (hS : KExt 435 S)   (M : KM) : Sim G Y_M_behindUnit (f_M_behindUnit  M) (kC 0 [some (VR (some 382)), none] [] S M) (fun (q : Int × KM) => Sum.inr (some (VI q.1), S, q.2)) := by
  unfold f_M_behindUnit
  refine s_aload_n (dt_M_behindUnit 0 _ _ _ rfl) rfl ?_
  refine s_callO (y := y_M_rankHere) (Y' := Y_M_rankHere) (as := [VR (some 382)]) (r := fun q => some (VI q)) (M' := fun q => M) (kInvV (dt_M_behindUnit 1 _ _ _ rfl) kin_M_rankHere 1 rfl (sc_382 hS) kse_M_rankHere rfl) kl_M_363 md_M_rankHere rfl rfl (fun q hq => c_M_rankHere hS M q hq) (fun q1 => ?_)
  refine s_istore_n (dt_M_behindUnit 2 _ _ _ rfl) rfl ?_
  refine s_iload_n (dt_M_behindUnit 3 _ _ _ rfl) rfl ?_
  refine s_iconst (dt_M_behindUnit 4 _ _ _ rfl) rfl ?_
  refine s_if_icmp_ne (tgt := 23) (dt_M_behindUnit 5 _ _ _ rfl) rfl ?_ ?_
  · refine s_aload_n (dt_M_behindUnit 6 _ _ _ rfl) rfl ?_
    refine s_callO (y := y_M_isCompared) (Y' := Y_M_isCompared) (as := [VR (some 382)]) (r := fun q => some (VI q)) (M' := fun q => M) (kInvV (dt_M_behindUnit 7 _ _ _ rfl) kin_M_isCompared 1 rfl (sc_382 hS) kse_M_isCompared rfl) kl_M_366 md_M_isCompared rfl rfl (fun q hq => c_M_isCompared hS M q hq) (fun q2 => ?_)
    refine s_if_eq (tgt := 23) (dt_M_behindUnit 8 _ _ _ rfl) rfl ?_ ?_
    · refine s_bd (κ := (fun (e8 : KM) => kC 104 [some (VR (some 382)), some (VI q1)] [] S e8)) (s_mask [true, true] (s_while (c := fun s3 => kC 23 [some (VR (some 382)), some (VI q1)] [] S s3) (fun s3 => ?_) M)) ?_
      · refine s_aload_n (dt_M_behindUnit 13 _ _ _ rfl) rfl ?_
        refine s_getR (o := (some 408)) (dt_M_behindUnit 14 _ _ _ rfl) (kf_M_92) (sc_382 hS) rfl rfl ?_
        refine s_aload_n (dt_M_behindUnit 15 _ _ _ rfl) rfl ?_
        refine s_getI (dt_M_behindUnit 16 _ _ _ rfl) (kf_M_342) (sc_382 hS) rfl ?_
        refine s_iconst (dt_M_behindUnit 17 _ _ _ rfl) rfl ?_
        refine s_isub (dt_M_behindUnit 18 _ _ _ rfl) ?_
        refine s_iald (N := 90) (dt_M_behindUnit 19 _ _ _ rfl) (sc_408 hS) rfl ?_
        refine s_bipush (dt_M_behindUnit 20 _ _ _ rfl) rfl ?_
        refine s_if_icmp_gt (tgt := 104) (dt_M_behindUnit 21 _ _ _ rfl) rfl ?_ ?_
        · refine s_aload_n (dt_M_behindUnit 22 _ _ _ rfl) rfl ?_
          refine s_getR (o := (some 408)) (dt_M_behindUnit 23 _ _ _ rfl) (kf_M_92) (sc_382 hS) rfl rfl ?_
          refine s_aload_n (dt_M_behindUnit 24 _ _ _ rfl) rfl ?_
          refine s_getI (dt_M_behindUnit 25 _ _ _ rfl) (kf_M_342) (sc_382 hS) rfl ?_
          refine s_iconst (dt_M_behindUnit 26 _ _ _ rfl) rfl ?_
          refine s_isub (dt_M_behindUnit 27 _ _ _ rfl) ?_
          refine s_iald (N := 90) (dt_M_behindUnit 28 _ _ _ rfl) (sc_408 hS) rfl ?_
          refine s_iload_n (dt_M_behindUnit 29 _ _ _ rfl) rfl ?_
          refine s_if_icmp_lt (tgt := 104) (dt_M_behindUnit 30 _ _ _ rfl) rfl ?_ ?_
          · exact s_mask [true, true] (s_ret0 rfl)
          · refine s_aload_n (dt_M_behindUnit 31 _ _ _ rfl) rfl ?_
            refine s_dup (dt_M_behindUnit 32 _ _ _ rfl) rfl ?_
            refine s_getI (dt_M_behindUnit 33 _ _ _ rfl) (kf_M_342) (sc_382 hS) rfl ?_
            refine s_iconst (dt_M_behindUnit 34 _ _ _ rfl) rfl ?_
            refine s_isub (dt_M_behindUnit 35 _ _ _ rfl) ?_
            refine s_putI (dt_M_behindUnit 36 _ _ _ rfl) kp_M_342 (sc_382 hS) ⟨rfl, rfl⟩ ?_
            refine s_letM (fun M4 => ?_)
            refine s_aload_n (dt_M_behindUnit 37 _ _ _ rfl) rfl ?_
            refine s_getR (o := (some 408)) (dt_M_behindUnit 38 _ _ _ rfl) (kf_M_92) (sc_382 hS) rfl rfl ?_
            refine s_aload_n (dt_M_behindUnit 39 _ _ _ rfl) rfl ?_
            refine s_getI (dt_M_behindUnit 40 _ _ _ rfl) (kf_M_342) (sc_382 hS) rfl ?_
            refine s_iald (N := 90) (dt_M_behindUnit 41 _ _ _ rfl) (sc_408 hS) rfl ?_
            refine s_iconst (dt_M_behindUnit 42 _ _ _ rfl) rfl ?_
            refine s_bd (κ := fun t6 => kC 87 [some (VR (some 382)), some (VI q1)] [] S t6) ?_ (fun t6 => ?_)
            · refine s_if_icmp_ne (tgt := 87) (dt_M_behindUnit 43 _ _ _ rfl) rfl ?_ ?_
              · refine s_aload_n (dt_M_behindUnit 44 _ _ _ rfl) rfl ?_
                refine s_dup (dt_M_behindUnit 45 _ _ _ rfl) rfl ?_
                refine s_getI (dt_M_behindUnit 46 _ _ _ rfl) (kf_M_345) (sc_382 hS) rfl ?_
                refine s_iconst (dt_M_behindUnit 47 _ _ _ rfl) rfl ?_
                refine s_isub (dt_M_behindUnit 48 _ _ _ rfl) ?_
                refine s_putI (dt_M_behindUnit 49 _ _ _ rfl) kp_M_345 (sc_382 hS) ⟨rfl, rfl⟩ ?_
                refine s_letM (fun M5 => ?_)
                exact s_mask [true, true] (s_ret0 rfl)
              · exact s_mask [true, true] (s_ret0 rfl)
            refine s_aload_n (dt_M_behindUnit 50 _ _ _ rfl) rfl ?_
            refine s_aload_n (dt_M_behindUnit 51 _ _ _ rfl) rfl ?_
            refine s_getR (o := (some 409)) (dt_M_behindUnit 52 _ _ _ rfl) (kf_M_95) (sc_382 hS) rfl rfl ?_
            refine s_aload_n (dt_M_behindUnit 53 _ _ _ rfl) rfl ?_
            refine s_getI (dt_M_behindUnit 54 _ _ _ rfl) (kf_M_342) (sc_382 hS) rfl ?_
            refine s_iald (N := 90) (dt_M_behindUnit 55 _ _ _ rfl) (sc_409 hS) rfl ?_
            refine s_iconst (dt_M_behindUnit 56 _ _ _ rfl) rfl ?_
            refine s_callO (y := y_M_emit) (Y' := Y_M_emit) (as := [VR (some 382), VI (t6 409 (t6 382 41).toNat), VI 0]) (r := fun q => none) (M' := fun q => q) (kInvV (dt_M_behindUnit 57 _ _ _ rfl) kin_M_emit 1 rfl (sc_382 hS) kse_M_emit rfl) kl_M_360 md_M_emit rfl rfl (fun q hq => c_M_emit hS (t6 409 (t6 382 41).toNat) 0 t6 q hq) (fun q7 => ?_)
            refine s_goto (tgt := 23) (dt_M_behindUnit 58 _ _ _ rfl) rfl ?_
            exact s_mask [true, true] (s_ret0 rfl)
        · exact s_mask [true, true] (s_ret0 rfl)
      intro e8
      refine s_iload_n (dt_M_behindUnit 59 _ _ _ rfl) rfl ?_
      refine s_if_le (tgt := 147) (dt_M_behindUnit 60 _ _ _ rfl) rfl ?_ ?_
      · refine s_aload_n (dt_M_behindUnit 82 _ _ _ rfl) rfl ?_
        refine s_dup (dt_M_behindUnit 83 _ _ _ rfl) rfl ?_
        refine s_getI (dt_M_behindUnit 84 _ _ _ rfl) (kf_M_342) (sc_382 hS) rfl ?_
        refine s_iconst (dt_M_behindUnit 85 _ _ _ rfl) rfl ?_
        refine s_isub (dt_M_behindUnit 86 _ _ _ rfl) ?_
        refine s_putI (dt_M_behindUnit 87 _ _ _ rfl) kp_M_342 (sc_382 hS) ⟨rfl, rfl⟩ ?_
        refine s_letM (fun M9 => ?_)
        refine s_aload_n (dt_M_behindUnit 88 _ _ _ rfl) rfl ?_
        refine s_getR (o := (some 408)) (dt_M_behindUnit 89 _ _ _ rfl) (kf_M_92) (sc_382 hS) rfl rfl ?_
        refine s_aload_n (dt_M_behindUnit 90 _ _ _ rfl) rfl ?_
        refine s_getI (dt_M_behindUnit 91 _ _ _ rfl) (kf_M_342) (sc_382 hS) rfl ?_
        refine s_iald (N := 90) (dt_M_behindUnit 92 _ _ _ rfl) (sc_408 hS) rfl ?_
        refine s_bipush (dt_M_behindUnit 93 _ _ _ rfl) rfl ?_
        refine s_bd (κ := fun t13 => kC 191 [none, none] [] S t13) ?_ (fun t13 => ?_)
        · refine s_if_icmp_ne (tgt := 191) (dt_M_behindUnit 94 _ _ _ rfl) rfl ?_ ?_
          · refine s_aload_n (dt_M_behindUnit 95 _ _ _ rfl) rfl ?_
            refine s_dup (dt_M_behindUnit 96 _ _ _ rfl) rfl ?_
            refine s_getI (dt_M_behindUnit 97 _ _ _ rfl) (kf_M_345) (sc_382 hS) rfl ?_
            refine s_iconst (dt_M_behindUnit 98 _ _ _ rfl) rfl ?_
            refine s_isub (dt_M_behindUnit 99 _ _ _ rfl) ?_
            refine s_putI (dt_M_behindUnit 100 _ _ _ rfl) kp_M_345 (sc_382 hS) ⟨rfl, rfl⟩ ?_
            refine s_letM (fun M10 => ?_)
            refine s_aload_n (dt_M_behindUnit 101 _ _ _ rfl) rfl ?_
            refine s_aload_n (dt_M_behindUnit 102 _ _ _ rfl) rfl ?_
            refine s_bipush (dt_M_behindUnit 103 _ _ _ rfl) rfl ?_
            refine s_callO (y := y_M_isSignHere) (Y' := Y_M_isSignHere) (as := [VR (some 382), VI 41]) (r := fun q => some (VI q)) (M' := fun q => M10) (kInvV (dt_M_behindUnit 104 _ _ _ rfl) kin_M_isSignHere 1 rfl (sc_382 hS) kse_M_isSignHere rfl) kl_M_314 md_M_isSignHere rfl rfl (fun q hq => c_M_isSignHere hS 41 M10 q hq) (fun q11 => ?_)
            refine s_callO (y := y_M_must) (Y' := Y_M_must) (as := [VR (some 382), VI q11]) (r := fun q => none) (M' := fun q => q) (kInvV (dt_M_behindUnit 105 _ _ _ rfl) kin_M_must 1 rfl (sc_382 hS) kse_M_must rfl) kl_M_271 md_M_must rfl rfl (fun q hq => c_M_must hS q11 M10 q hq) (fun q12 => ?_)
            exact s_mask [false, false] (s_ret0 rfl)
          · exact s_mask [false, false] (s_ret0 rfl)
        refine s_iconst (dt_M_behindUnit 106 _ _ _ rfl) rfl ?_
        exact s_zret01 (dt_M_behindUnit 107 _ _ _ rfl) rfl rfl rfl
      · refine s_aload_n (dt_M_behindUnit 61 _ _ _ rfl) rfl ?_
        refine s_iload_n (dt_M_behindUnit 62 _ _ _ rfl) rfl ?_
        refine s_iload_n (dt_M_behindUnit 63 _ _ _ rfl) rfl ?_
        refine s_iconst (dt_M_behindUnit 64 _ _ _ rfl) rfl ?_
        refine s_bd (κ := fun t15 => kC 138 [some (VR (some 382)), none] [VI t15, VI q1, VR (some 382)] S e8) ?_ (fun t15 => ?_)
        · refine s_if_icmp_ne (tgt := 120) (dt_M_behindUnit 65 _ _ _ rfl) rfl ?_ ?_
          · refine s_bipush (dt_M_behindUnit 66 _ _ _ rfl) rfl ?_
            refine s_goto (tgt := 138) (dt_M_behindUnit 67 _ _ _ rfl) rfl ?_
            exact s_mask [true, false] (s_ret0 rfl)
          · refine s_iload_n (dt_M_behindUnit 68 _ _ _ rfl) rfl ?_
            refine s_iconst (dt_M_behindUnit 69 _ _ _ rfl) rfl ?_
            refine s_if_icmp_ne (tgt := 130) (dt_M_behindUnit 70 _ _ _ rfl) rfl ?_ ?_
            · refine s_bipush (dt_M_behindUnit 71 _ _ _ rfl) rfl ?_
              refine s_goto (tgt := 138) (dt_M_behindUnit 72 _ _ _ rfl) rfl ?_
              exact s_mask [true, false] (s_ret0 rfl)
            · refine s_aload_n (dt_M_behindUnit 73 _ _ _ rfl) rfl ?_
              refine s_aload_n (dt_M_behindUnit 74 _ _ _ rfl) rfl ?_
              refine s_getI (dt_M_behindUnit 75 _ _ _ rfl) (kf_M_223) (sc_382 hS) rfl ?_
              refine s_callO (y := y_M_sign) (Y' := Y_M_sign) (as := [VR (some 382), VI (e8 382 6)]) (r := fun q => some (VI q)) (M' := fun q => e8) (kInvV (dt_M_behindUnit 76 _ _ _ rfl) kin_M_sign 1 rfl (sc_382 hS) kse_M_sign rfl) kl_M_226 md_M_sign rfl rfl (fun q hq => c_M_sign hS (e8 382 6) e8 q hq) (fun q14 => ?_)
              exact s_mask [true, false] (s_ret0 rfl)
        refine s_callO (y := y_M_pushE) (Y' := Y_M_pushE) (as := [VR (some 382), VI q1, VI t15]) (r := fun q => none) (M' := fun q => q) (kInvV (dt_M_behindUnit 77 _ _ _ rfl) kin_M_pushE 1 rfl (sc_382 hS) kse_M_pushE rfl) kl_M_348 md_M_pushE rfl rfl (fun q hq => c_M_pushE hS q1 t15 e8 q hq) (fun q16 => ?_)
        refine s_aload_n (dt_M_behindUnit 78 _ _ _ rfl) rfl ?_
        refine s_callO (y := y_M_goOn) (Y' := Y_M_goOn) (as := [VR (some 382)]) (r := fun q => none) (M' := fun q => q) (kInvV (dt_M_behindUnit 79 _ _ _ rfl) kin_M_goOn 1 rfl (sc_382 hS) kse_M_goOn rfl) kl_M_262 md_M_goOn rfl rfl (fun q hq => c_M_goOn hS q16 q hq) (fun q17 => ?_)
        refine s_iconst (dt_M_behindUnit 80 _ _ _ rfl) rfl ?_
        exact s_zret01 (dt_M_behindUnit 81 _ _ _ rfl) rfl rfl rfl
    · refine s_aload_n (dt_M_behindUnit 9 _ _ _ rfl) rfl ?_
      refine s_callO (y := y_M_misplaced) (Y' := Y_M_misplaced) (as := [VR (some 382)]) (r := fun q => none) (M' := fun q => q) (kInvV (dt_M_behindUnit 10 _ _ _ rfl) kin_M_misplaced 1 rfl (sc_382 hS) kse_M_misplaced rfl) kl_M_265 md_M_misplaced rfl rfl (fun q hq => c_M_misplaced hS M q hq) (fun q18 => ?_)
      refine s_iconst (dt_M_behindUnit 11 _ _ _ rfl) rfl ?_
      exact s_zret01 (dt_M_behindUnit 12 _ _ _ rfl) rfl rfl rfl
  · refine s_bd (κ := (fun (e24 : KM) => kC 104 [some (VR (some 382)), some (VI q1)] [] S e24)) (s_mask [true, true] (s_while (c := fun s19 => kC 23 [some (VR (some 382)), some (VI q1)] [] S s19) (fun s19 => ?_) M)) ?_
    · refine s_aload_n (dt_M_behindUnit 13 _ _ _ rfl) rfl ?_
      refine s_getR (o := (some 408)) (dt_M_behindUnit 14 _ _ _ rfl) (kf_M_92) (sc_382 hS) rfl rfl ?_
      refine s_aload_n (dt_M_behindUnit 15 _ _ _ rfl) rfl ?_
      refine s_getI (dt_M_behindUnit 16 _ _ _ rfl) (kf_M_342) (sc_382 hS) rfl ?_
      refine s_iconst (dt_M_behindUnit 17 _ _ _ rfl) rfl ?_
      refine s_isub (dt_M_behindUnit 18 _ _ _ rfl) ?_
      refine s_iald (N := 90) (dt_M_behindUnit 19 _ _ _ rfl) (sc_408 hS) rfl ?_
      refine s_bipush (dt_M_behindUnit 20 _ _ _ rfl) rfl ?_
      refine s_if_icmp_gt (tgt := 104) (dt_M_behindUnit 21 _ _ _ rfl) rfl ?_ ?_
      · refine s_aload_n (dt_M_behindUnit 22 _ _ _ rfl) rfl ?_
        refine s_getR (o := (some 408)) (dt_M_behindUnit 23 _ _ _ rfl) (kf_M_92) (sc_382 hS) rfl rfl ?_
        refine s_aload_n (dt_M_behindUnit 24 _ _ _ rfl) rfl ?_
        refine s_getI (dt_M_behindUnit 25 _ _ _ rfl) (kf_M_342) (sc_382 hS) rfl ?_
        refine s_iconst (dt_M_behindUnit 26 _ _ _ rfl) rfl ?_
        refine s_isub (dt_M_behindUnit 27 _ _ _ rfl) ?_
        refine s_iald (N := 90) (dt_M_behindUnit 28 _ _ _ rfl) (sc_408 hS) rfl ?_
        refine s_iload_n (dt_M_behindUnit 29 _ _ _ rfl) rfl ?_
        refine s_if_icmp_lt (tgt := 104) (dt_M_behindUnit 30 _ _ _ rfl) rfl ?_ ?_
        · exact s_mask [true, true] (s_ret0 rfl)
        · refine s_aload_n (dt_M_behindUnit 31 _ _ _ rfl) rfl ?_
          refine s_dup (dt_M_behindUnit 32 _ _ _ rfl) rfl ?_
          refine s_getI (dt_M_behindUnit 33 _ _ _ rfl) (kf_M_342) (sc_382 hS) rfl ?_
          refine s_iconst (dt_M_behindUnit 34 _ _ _ rfl) rfl ?_
          refine s_isub (dt_M_behindUnit 35 _ _ _ rfl) ?_
          refine s_putI (dt_M_behindUnit 36 _ _ _ rfl) kp_M_342 (sc_382 hS) ⟨rfl, rfl⟩ ?_
          refine s_letM (fun M20 => ?_)
          refine s_aload_n (dt_M_behindUnit 37 _ _ _ rfl) rfl ?_
          refine s_getR (o := (some 408)) (dt_M_behindUnit 38 _ _ _ rfl) (kf_M_92) (sc_382 hS) rfl rfl ?_
          refine s_aload_n (dt_M_behindUnit 39 _ _ _ rfl) rfl ?_
          refine s_getI (dt_M_behindUnit 40 _ _ _ rfl) (kf_M_342) (sc_382 hS) rfl ?_
          refine s_iald (N := 90) (dt_M_behindUnit 41 _ _ _ rfl) (sc_408 hS) rfl ?_
          refine s_iconst (dt_M_behindUnit 42 _ _ _ rfl) rfl ?_
          refine s_bd (κ := fun t22 => kC 87 [some (VR (some 382)), some (VI q1)] [] S t22) ?_ (fun t22 => ?_)
          · refine s_if_icmp_ne (tgt := 87) (dt_M_behindUnit 43 _ _ _ rfl) rfl ?_ ?_
            · refine s_aload_n (dt_M_behindUnit 44 _ _ _ rfl) rfl ?_
              refine s_dup (dt_M_behindUnit 45 _ _ _ rfl) rfl ?_
              refine s_getI (dt_M_behindUnit 46 _ _ _ rfl) (kf_M_345) (sc_382 hS) rfl ?_
              refine s_iconst (dt_M_behindUnit 47 _ _ _ rfl) rfl ?_
              refine s_isub (dt_M_behindUnit 48 _ _ _ rfl) ?_
              refine s_putI (dt_M_behindUnit 49 _ _ _ rfl) kp_M_345 (sc_382 hS) ⟨rfl, rfl⟩ ?_
              refine s_letM (fun M21 => ?_)
              exact s_mask [true, true] (s_ret0 rfl)
            · exact s_mask [true, true] (s_ret0 rfl)
          refine s_aload_n (dt_M_behindUnit 50 _ _ _ rfl) rfl ?_
          refine s_aload_n (dt_M_behindUnit 51 _ _ _ rfl) rfl ?_
          refine s_getR (o := (some 409)) (dt_M_behindUnit 52 _ _ _ rfl) (kf_M_95) (sc_382 hS) rfl rfl ?_
          refine s_aload_n (dt_M_behindUnit 53 _ _ _ rfl) rfl ?_
          refine s_getI (dt_M_behindUnit 54 _ _ _ rfl) (kf_M_342) (sc_382 hS) rfl ?_
          refine s_iald (N := 90) (dt_M_behindUnit 55 _ _ _ rfl) (sc_409 hS) rfl ?_
          refine s_iconst (dt_M_behindUnit 56 _ _ _ rfl) rfl ?_
          refine s_callO (y := y_M_emit) (Y' := Y_M_emit) (as := [VR (some 382), VI (t22 409 (t22 382 41).toNat), VI 0]) (r := fun q => none) (M' := fun q => q) (kInvV (dt_M_behindUnit 57 _ _ _ rfl) kin_M_emit 1 rfl (sc_382 hS) kse_M_emit rfl) kl_M_360 md_M_emit rfl rfl (fun q hq => c_M_emit hS (t22 409 (t22 382 41).toNat) 0 t22 q hq) (fun q23 => ?_)
          refine s_goto (tgt := 23) (dt_M_behindUnit 58 _ _ _ rfl) rfl ?_
          exact s_mask [true, true] (s_ret0 rfl)
      · exact s_mask [true, true] (s_ret0 rfl)
    intro e24
    refine s_iload_n (dt_M_behindUnit 59 _ _ _ rfl) rfl ?_
    refine s_if_le (tgt := 147) (dt_M_behindUnit 60 _ _ _ rfl) rfl ?_ ?_
    · refine s_aload_n (dt_M_behindUnit 82 _ _ _ rfl) rfl ?_
      refine s_dup (dt_M_behindUnit 83 _ _ _ rfl) rfl ?_
      refine s_getI (dt_M_behindUnit 84 _ _ _ rfl) (kf_M_342) (sc_382 hS) rfl ?_
      refine s_iconst (dt_M_behindUnit 85 _ _ _ rfl) rfl ?_
      refine s_isub (dt_M_behindUnit 86 _ _ _ rfl) ?_
      refine s_putI (dt_M_behindUnit 87 _ _ _ rfl) kp_M_342 (sc_382 hS) ⟨rfl, rfl⟩ ?_
      refine s_letM (fun M25 => ?_)
      refine s_aload_n (dt_M_behindUnit 88 _ _ _ rfl) rfl ?_
      refine s_getR (o := (some 408)) (dt_M_behindUnit 89 _ _ _ rfl) (kf_M_92) (sc_382 hS) rfl rfl ?_
      refine s_aload_n (dt_M_behindUnit 90 _ _ _ rfl) rfl ?_
      refine s_getI (dt_M_behindUnit 91 _ _ _ rfl) (kf_M_342) (sc_382 hS) rfl ?_
      refine s_iald (N := 90) (dt_M_behindUnit 92 _ _ _ rfl) (sc_408 hS) rfl ?_
      refine s_bipush (dt_M_behindUnit 93 _ _ _ rfl) rfl ?_
      refine s_bd (κ := fun t29 => kC 191 [none, none] [] S t29) ?_ (fun t29 => ?_)
      · refine s_if_icmp_ne (tgt := 191) (dt_M_behindUnit 94 _ _ _ rfl) rfl ?_ ?_
        · refine s_aload_n (dt_M_behindUnit 95 _ _ _ rfl) rfl ?_
          refine s_dup (dt_M_behindUnit 96 _ _ _ rfl) rfl ?_
          refine s_getI (dt_M_behindUnit 97 _ _ _ rfl) (kf_M_345) (sc_382 hS) rfl ?_
          refine s_iconst (dt_M_behindUnit 98 _ _ _ rfl) rfl ?_
          refine s_isub (dt_M_behindUnit 99 _ _ _ rfl) ?_
          refine s_putI (dt_M_behindUnit 100 _ _ _ rfl) kp_M_345 (sc_382 hS) ⟨rfl, rfl⟩ ?_
          refine s_letM (fun M26 => ?_)
          refine s_aload_n (dt_M_behindUnit 101 _ _ _ rfl) rfl ?_
          refine s_aload_n (dt_M_behindUnit 102 _ _ _ rfl) rfl ?_
          refine s_bipush (dt_M_behindUnit 103 _ _ _ rfl) rfl ?_
          refine s_callO (y := y_M_isSignHere) (Y' := Y_M_isSignHere) (as := [VR (some 382), VI 41]) (r := fun q => some (VI q)) (M' := fun q => M26) (kInvV (dt_M_behindUnit 104 _ _ _ rfl) kin_M_isSignHere 1 rfl (sc_382 hS) kse_M_isSignHere rfl) kl_M_314 md_M_isSignHere rfl rfl (fun q hq => c_M_isSignHere hS 41 M26 q hq) (fun q27 => ?_)
          refine s_callO (y := y_M_must) (Y' := Y_M_must) (as := [VR (some 382), VI q27]) (r := fun q => none) (M' := fun q => q) (kInvV (dt_M_behindUnit 105 _ _ _ rfl) kin_M_must 1 rfl (sc_382 hS) kse_M_must rfl) kl_M_271 md_M_must rfl rfl (fun q hq => c_M_must hS q27 M26 q hq) (fun q28 => ?_)
          exact s_mask [false, false] (s_ret0 rfl)
        · exact s_mask [false, false] (s_ret0 rfl)
      refine s_iconst (dt_M_behindUnit 106 _ _ _ rfl) rfl ?_
      exact s_zret01 (dt_M_behindUnit 107 _ _ _ rfl) rfl rfl rfl
    · refine s_aload_n (dt_M_behindUnit 61 _ _ _ rfl) rfl ?_
      refine s_iload_n (dt_M_behindUnit 62 _ _ _ rfl) rfl ?_
      refine s_iload_n (dt_M_behindUnit 63 _ _ _ rfl) rfl ?_
      refine s_iconst (dt_M_behindUnit 64 _ _ _ rfl) rfl ?_
      refine s_bd (κ := fun t31 => kC 138 [some (VR (some 382)), none] [VI t31, VI q1, VR (some 382)] S e24) ?_ (fun t31 => ?_)
      · refine s_if_icmp_ne (tgt := 120) (dt_M_behindUnit 65 _ _ _ rfl) rfl ?_ ?_
        · refine s_bipush (dt_M_behindUnit 66 _ _ _ rfl) rfl ?_
          refine s_goto (tgt := 138) (dt_M_behindUnit 67 _ _ _ rfl) rfl ?_
          exact s_mask [true, false] (s_ret0 rfl)
        · refine s_iload_n (dt_M_behindUnit 68 _ _ _ rfl) rfl ?_
          refine s_iconst (dt_M_behindUnit 69 _ _ _ rfl) rfl ?_
          refine s_if_icmp_ne (tgt := 130) (dt_M_behindUnit 70 _ _ _ rfl) rfl ?_ ?_
          · refine s_bipush (dt_M_behindUnit 71 _ _ _ rfl) rfl ?_
            refine s_goto (tgt := 138) (dt_M_behindUnit 72 _ _ _ rfl) rfl ?_
            exact s_mask [true, false] (s_ret0 rfl)
          · refine s_aload_n (dt_M_behindUnit 73 _ _ _ rfl) rfl ?_
            refine s_aload_n (dt_M_behindUnit 74 _ _ _ rfl) rfl ?_
            refine s_getI (dt_M_behindUnit 75 _ _ _ rfl) (kf_M_223) (sc_382 hS) rfl ?_
            refine s_callO (y := y_M_sign) (Y' := Y_M_sign) (as := [VR (some 382), VI (e24 382 6)]) (r := fun q => some (VI q)) (M' := fun q => e24) (kInvV (dt_M_behindUnit 76 _ _ _ rfl) kin_M_sign 1 rfl (sc_382 hS) kse_M_sign rfl) kl_M_226 md_M_sign rfl rfl (fun q hq => c_M_sign hS (e24 382 6) e24 q hq) (fun q30 => ?_)
            exact s_mask [true, false] (s_ret0 rfl)
      refine s_callO (y := y_M_pushE) (Y' := Y_M_pushE) (as := [VR (some 382), VI q1, VI t31]) (r := fun q => none) (M' := fun q => q) (kInvV (dt_M_behindUnit 77 _ _ _ rfl) kin_M_pushE 1 rfl (sc_382 hS) kse_M_pushE rfl) kl_M_348 md_M_pushE rfl rfl (fun q hq => c_M_pushE hS q1 t31 e24 q hq) (fun q32 => ?_)
      refine s_aload_n (dt_M_behindUnit 78 _ _ _ rfl) rfl ?_
      refine s_callO (y := y_M_goOn) (Y' := Y_M_goOn) (as := [VR (some 382)]) (r := fun q => none) (M' := fun q => q) (kInvV (dt_M_behindUnit 79 _ _ _ rfl) kin_M_goOn 1 rfl (sc_382 hS) kse_M_goOn rfl) kl_M_262 md_M_goOn rfl rfl (fun q hq => c_M_goOn hS q32 q hq) (fun q33 => ?_)
      refine s_iconst (dt_M_behindUnit 80 _ _ _ rfl) rfl ?_
      exact s_zret01 (dt_M_behindUnit 81 _ _ _ rfl) rfl rfl rfl
theorem c_M_behindUnit {S : KS} (hS : KExt 435 S)   (M : KM) : ∀ q, f_M_behindUnit  M = some q → Ctr y_M_behindUnit Y_M_behindUnit [VR (some 382)] S M (some (VI q.1)) S (q.2) := fun q hq =>
  ctr_of md_M_behindUnit (Nat.le_of_ble_eq_true rfl) ⟨Nat.le_refl _, Nat.le_refl _⟩ 1 hq rfl (fun _ G => sim_M_behindUnit hS   M)
noncomputable def f_M_wordHere  (M : KM) : Option (Int) := Option.bind (f_M_isWord 6383461 M) (fun q1 => (if q1 = 0 then Option.bind (f_M_isWord 1668245870 M) (fun q2 => (if q2 = 0 then Option.bind (f_M_isWord 2036687218 M) (fun q3 => (if q3 = 0 then Option.bind (f_M_isWord 112568633486457 M) (fun q4 => Option.bind ((if q4 = 0 then some 0 else some 102) : Option (Int)) (fun t5 => some t5)) else some 121)) else some 99)) else some 97))
set_option maxRecDepth 100000 in
theorem sim_M_wordHere {G : Gam} {S : KS} (hS : KExt 435 S)   (M : KM) : Sim G Y_M_wordHere (f_M_wordHere  M) (kC 0 [some (VR (some 382))] [] S M) (fun (q : Int) => Sum.inr (some (VI q), S, M)) := by
  unfold f_M_wordHere
  refine s_aload_n (dt_M_wordHere 0 _ _ _ rfl) rfl ?_
  refine s_ldc2 (n := 6383461) (kc_M_190) (dt_M_wordHere 1 _ _ _ rfl) rfl ?_
  refine s_callO (y := y_M_isWord) (Y' := Y_M_isWord) (as := [VR (some 382), VJ 6383461]) (r := fun q => some (VI q)) (M' := fun q => M) (kInvV (dt_M_wordHere 2 _ _ _ rfl) kin_M_isWord 1 rfl (sc_382 hS) kse_M_isWord rfl) kl_M_268 md_M_isWord rfl rfl (fun q hq => c_M_isWord hS 6383461 M q hq) (fun q1 => ?_)
  refine s_if_eq (tgt := 13) (dt_M_wordHere 3 _ _ _ rfl) rfl ?_ ?_
  · refine s_aload_n (dt_M_wordHere 6 _ _ _ rfl) rfl ?_
    refine s_ldc2 (n := 1668245870) (kc_M_192) (dt_M_wordHere 7 _ _ _ rfl) rfl ?_
    refine s_callO (y := y_M_isWord) (Y' := Y_M_isWord) (as := [VR (some 382), VJ 1668245870]) (r := fun q => some (VI q)) (M' := fun q => M) (kInvV (dt_M_wordHere 8 _ _ _ rfl) kin_M_isWord 1 rfl (sc_382 hS) kse_M_isWord rfl) kl_M_268 md_M_isWord rfl rfl (fun q hq => c_M_isWord hS 1668245870 M q hq) (fun q2 => ?_)
    refine s_if_eq (tgt := 26) (dt_M_wordHere 9 _ _ _ rfl) rfl ?_ ?_
    · refine s_aload_n (dt_M_wordHere 12 _ _ _ rfl) rfl ?_
      refine s_ldc2 (n := 2036687218) (kc_M_212) (dt_M_wordHere 13 _ _ _ rfl) rfl ?_
      refine s_callO (y := y_M_isWord) (Y' := Y_M_isWord) (as := [VR (some 382), VJ 2036687218]) (r := fun q => some (VI q)) (M' := fun q => M) (kInvV (dt_M_wordHere 14 _ _ _ rfl) kin_M_isWord 1 rfl (sc_382 hS) kse_M_isWord rfl) kl_M_268 md_M_isWord rfl rfl (fun q hq => c_M_isWord hS 2036687218 M q hq) (fun q3 => ?_)
      refine s_if_eq (tgt := 39) (dt_M_wordHere 15 _ _ _ rfl) rfl ?_ ?_
      · refine s_aload_n (dt_M_wordHere 18 _ _ _ rfl) rfl ?_
        refine s_ldc2 (n := 112568633486457) (kc_M_196) (dt_M_wordHere 19 _ _ _ rfl) rfl ?_
        refine s_callO (y := y_M_isWord) (Y' := Y_M_isWord) (as := [VR (some 382), VJ 112568633486457]) (r := fun q => some (VI q)) (M' := fun q => M) (kInvV (dt_M_wordHere 20 _ _ _ rfl) kin_M_isWord 1 rfl (sc_382 hS) kse_M_isWord rfl) kl_M_268 md_M_isWord rfl rfl (fun q hq => c_M_isWord hS 112568633486457 M q hq) (fun q4 => ?_)
        refine s_bd (κ := fun t5 => kC 55 [none] [VI t5] S M) ?_ (fun t5 => ?_)
        · refine s_if_eq (tgt := 54) (dt_M_wordHere 21 _ _ _ rfl) rfl ?_ ?_
          · refine s_iconst (dt_M_wordHere 24 _ _ _ rfl) rfl ?_
            exact s_mask [false] (s_ret0 rfl)
          · refine s_bipush (dt_M_wordHere 22 _ _ _ rfl) rfl ?_
            refine s_goto (tgt := 55) (dt_M_wordHere 23 _ _ _ rfl) rfl ?_
            exact s_mask [false] (s_ret0 rfl)
        exact s_iret (dt_M_wordHere 25 _ _ _ rfl) rfl rfl
      · refine s_bipush (dt_M_wordHere 16 _ _ _ rfl) rfl ?_
        exact s_iret (dt_M_wordHere 17 _ _ _ rfl) rfl rfl
    · refine s_bipush (dt_M_wordHere 10 _ _ _ rfl) rfl ?_
      exact s_iret (dt_M_wordHere 11 _ _ _ rfl) rfl rfl
  · refine s_bipush (dt_M_wordHere 4 _ _ _ rfl) rfl ?_
    exact s_iret (dt_M_wordHere 5 _ _ _ rfl) rfl rfl
theorem c_M_wordHere {S : KS} (hS : KExt 435 S)   (M : KM) : ∀ q, f_M_wordHere  M = some q → Ctr y_M_wordHere Y_M_wordHere [VR (some 382)] S M (some (VI q)) S (M) := fun q hq =>
  ctr_of md_M_wordHere (Nat.le_of_ble_eq_true rfl) ⟨Nat.le_refl _, Nat.le_refl _⟩ 0 hq rfl (fun _ G => sim_M_wordHere hS   M)
