set_option maxRecDepth 100000 in
theorem sim_Tokens_wordKind {G : Gam} {S : KS} (hS : KExt 382 S)  (a1 : Int) (M : KM) : Sim G Y_Tokens_wordKind (f_Tokens_wordKind a1 M) (kC 0 [some (VR (some 27)), some (VR (some 1)), some (VI a1), none, none, none, none] [] S M) (fun (q : Int) => Sum.inr (some (VI q), S, M)) := by
  unfold f_Tokens_wordKind
  refine s_iconst (dt_Tokens_wordKind 0 _ _ _ rfl) rfl ?_
  refine s_istore_n (dt_Tokens_wordKind 1 _ _ _ rfl) rfl ?_
  refine s_iconst (dt_Tokens_wordKind 2 _ _ _ rfl) rfl ?_
  refine s_istore (dt_Tokens_wordKind 3 _ _ _ rfl) rfl ?_
  refine s_iconst (dt_Tokens_wordKind 4 _ _ _ rfl) rfl ?_
  refine s_istore (dt_Tokens_wordKind 5 _ _ _ rfl) rfl ?_
  refine s_bd (κ := (Sum.elim (fun (e5 : Int) => kC 45 [none, none, none, some (VI e5), none, none, none] [] S M) (fun (e6 : Unit) => kC 105 [none, none, none, none, none, none, none] [] S M))) (s_mask [true, true, true, true, true, true, false] (s_while (c := fun s1 => kC 8 [some (VR (some 27)), some (VR (some 1)), some (VI a1), some (VI s1.1), some (VI s1.2.1), some (VI s1.2.2), none] [] S M) (fun s1 => ?_) ((0 : Int), (0 : Int), (0 : Int)))) ?_
  · refine s_iload (dt_Tokens_wordKind 6 _ _ _ rfl) rfl ?_
    refine s_ldcS0 (dt_Tokens_wordKind 7 _ _ _ rfl) ?_
    refine s_str_length0 (dt_Tokens_wordKind 8 _ _ _ rfl) rfl ?_
    refine s_if_icmp_ge (tgt := 105) (dt_Tokens_wordKind 9 _ _ _ rfl) rfl ?_ ?_
    · refine s_ldcS0 (dt_Tokens_wordKind 10 _ _ _ rfl) ?_
      refine s_iload (dt_Tokens_wordKind 11 _ _ _ rfl) rfl ?_
      refine s_str_charAt0 (dt_Tokens_wordKind 12 _ _ _ rfl) rfl ?_
      refine s_letI (fun v2 => ?_)
      refine s_istore (dt_Tokens_wordKind 13 _ _ _ rfl) rfl ?_
      refine s_iload (dt_Tokens_wordKind 14 _ _ _ rfl) rfl ?_
      refine s_bipush (dt_Tokens_wordKind 15 _ _ _ rfl) rfl ?_
      refine s_if_icmp_ne (tgt := 60) (dt_Tokens_wordKind 16 _ _ _ rfl) rfl ?_ ?_
      · refine s_iload (dt_Tokens_wordKind 17 _ _ _ rfl) rfl ?_
        refine s_aload_n (dt_Tokens_wordKind 18 _ _ _ rfl) rfl ?_
        refine s_getI (c := 11) (j := 5) (dt_Tokens_wordKind 19 _ _ _ rfl) (kf_Tokens_29) (sc_27 hS) rfl ?_
        refine s_iload_n (dt_Tokens_wordKind 20 _ _ _ rfl) rfl ?_
        refine s_isub (dt_Tokens_wordKind 21 _ _ _ rfl) ?_
        refine s_if_icmp_ne (tgt := 51) (dt_Tokens_wordKind 22 _ _ _ rfl) rfl ?_ ?_
        · exact s_mask [false, false, false, true, false, false, false] (s_ret0 rfl)
        · refine s_iinc (dt_Tokens_wordKind 27 _ _ _ rfl) rfl rfl ?_
          refine s_iconst (dt_Tokens_wordKind 28 _ _ _ rfl) rfl ?_
          refine s_istore (dt_Tokens_wordKind 29 _ _ _ rfl) rfl ?_
          refine s_goto (tgt := 99) (dt_Tokens_wordKind 30 _ _ _ rfl) rfl ?_
          refine s_iinc (dt_Tokens_wordKind 52 _ _ _ rfl) rfl rfl ?_
          refine s_goto (tgt := 8) (dt_Tokens_wordKind 53 _ _ _ rfl) rfl ?_
          exact s_mask [true, true, true, true, true, true, false] (s_ret0 rfl)
      · refine s_iload (dt_Tokens_wordKind 31 _ _ _ rfl) rfl ?_
        refine s_bd (κ := fun t4 => kC 97 [some (VR (some 27)), some (VR (some 1)), some (VI a1), some (VI s1.1), none, some (VI s1.2.2), none] [VI t4] S M) ?_ (fun t4 => ?_)
        · refine s_if_lt (tgt := 96) (dt_Tokens_wordKind 32 _ _ _ rfl) rfl ?_ ?_
          · refine s_iconst (dt_Tokens_wordKind 50 _ _ _ rfl) rfl ?_
            exact s_mask [true, true, true, true, false, true, false] (s_ret0 rfl)
          · refine s_iload (dt_Tokens_wordKind 33 _ _ _ rfl) rfl ?_
            refine s_aload_n (dt_Tokens_wordKind 34 _ _ _ rfl) rfl ?_
            refine s_getI (c := 11) (j := 5) (dt_Tokens_wordKind 35 _ _ _ rfl) (kf_Tokens_29) (sc_27 hS) rfl ?_
            refine s_iload_n (dt_Tokens_wordKind 36 _ _ _ rfl) rfl ?_
            refine s_isub (dt_Tokens_wordKind 37 _ _ _ rfl) ?_
            refine s_if_icmp_ge (tgt := 96) (dt_Tokens_wordKind 38 _ _ _ rfl) rfl ?_ ?_
            · refine s_aload_n (dt_Tokens_wordKind 39 _ _ _ rfl) rfl ?_
              refine s_iload_n (dt_Tokens_wordKind 40 _ _ _ rfl) rfl ?_
              refine s_iload (dt_Tokens_wordKind 41 _ _ _ rfl) rfl ?_
              refine s_iadd (dt_Tokens_wordKind 42 _ _ _ rfl) ?_
              refine s_callO (y := y_Tokens_byteAt) (Y' := Y_Tokens_byteAt) (as := [VR (some 1), VI (w32 (a1 + s1.2.1))]) (r := fun q => some (VI q)) (M' := fun q => M) (kInvS (dt_Tokens_wordKind 43 _ _ _ rfl) kst_Tokens_byteAt rfl) kl_Tokens_32 md_Tokens_byteAt rfl rfl (fun q hq => c_Tokens_byteAt hS (w32 (a1 + s1.2.1)) M q hq) (fun q3 => ?_)
              refine s_iload (dt_Tokens_wordKind 44 _ _ _ rfl) rfl ?_
              refine s_if_icmp_ne (tgt := 96) (dt_Tokens_wordKind 45 _ _ _ rfl) rfl ?_ ?_
              · refine s_iload (dt_Tokens_wordKind 46 _ _ _ rfl) rfl ?_
                refine s_iconst (dt_Tokens_wordKind 47 _ _ _ rfl) rfl ?_
                refine s_iadd (dt_Tokens_wordKind 48 _ _ _ rfl) ?_
                refine s_goto (tgt := 97) (dt_Tokens_wordKind 49 _ _ _ rfl) rfl ?_
                exact s_mask [true, true, true, true, false, true, false] (s_ret0 rfl)
              · refine s_iconst (dt_Tokens_wordKind 50 _ _ _ rfl) rfl ?_
                exact s_mask [true, true, true, true, false, true, false] (s_ret0 rfl)
            · refine s_iconst (dt_Tokens_wordKind 50 _ _ _ rfl) rfl ?_
              exact s_mask [true, true, true, true, false, true, false] (s_ret0 rfl)
        refine s_istore (dt_Tokens_wordKind 51 _ _ _ rfl) rfl ?_
        refine s_iinc (dt_Tokens_wordKind 52 _ _ _ rfl) rfl rfl ?_
        refine s_goto (tgt := 8) (dt_Tokens_wordKind 53 _ _ _ rfl) rfl ?_
        exact s_mask [true, true, true, true, true, true, false] (s_ret0 rfl)
    · exact s_mask [false, false, false, false, false, false, false] (s_ret0 rfl)
  refine s_elim (fun e5 => ?_) ?_
  · refine s_sipush (dt_Tokens_wordKind 23 _ _ _ rfl) rfl ?_
    refine s_iload_n (dt_Tokens_wordKind 24 _ _ _ rfl) rfl ?_
    refine s_iadd (dt_Tokens_wordKind 25 _ _ _ rfl) ?_
    exact s_iret (dt_Tokens_wordKind 26 _ _ _ rfl) rfl rfl
  intro e6
  refine s_iconst (dt_Tokens_wordKind 54 _ _ _ rfl) rfl ?_
  exact s_iret (dt_Tokens_wordKind 55 _ _ _ rfl) rfl rfl
theorem c_Tokens_wordKind {S : KS} (hS : KExt 382 S)  (a1 : Int) (M : KM) : ∀ q, f_Tokens_wordKind a1 M = some q → Ctr y_Tokens_wordKind Y_Tokens_wordKind [VR (some 27), VR (some 1), VI a1] S M (some (VI q)) S (M) := fun q hq =>
  ctr_of md_Tokens_wordKind (Nat.le_of_ble_eq_true rfl) ⟨Nat.le_refl _, Nat.le_refl _⟩ 4 hq rfl (fun _ G => sim_Tokens_wordKind hS  a1 M)
set_option maxRecDepth 100000 in
theorem sim_Tokens_scanWord {G : Gam} {S : KS} (hS : KExt 382 S)  (a1 : Int) (M : KM) : Sim G Y_Tokens_scanWord (f_Tokens_scanWord a1 M) (kC 0 [some (VR (some 27)), some (VR (some 1)), some (VI a1), none, none, none] [] S M) (fun (q : Int × KM) => Sum.inr (some (VI q.1), S, q.2)) := by
  unfold f_Tokens_scanWord
  refine s_aload_n (dt_Tokens_scanWord 0 _ _ _ rfl) rfl ?_
  refine s_getI (c := 11) (j := 5) (dt_Tokens_scanWord 1 _ _ _ rfl) (kf_Tokens_29) (sc_27 hS) rfl ?_
  refine s_letI (fun v1 => ?_)
  refine s_istore_n (dt_Tokens_scanWord 2 _ _ _ rfl) rfl ?_
  refine s_lconst0 (dt_Tokens_scanWord 3 _ _ _ rfl) ?_
  refine s_lstore (dt_Tokens_scanWord 4 _ _ _ rfl) rfl ?_
  refine s_bd (κ := (fun (e7 : Int × KM) => kC 66 [some (VR (some 27)), some (VR (some 1)), none, some (VI v1), some (VJ e7.1), none] [] S e7.2)) (s_mask [true, true, true, true, true, false] (s_while (c := fun s2 => kC 8 [some (VR (some 27)), some (VR (some 1)), some (VI a1), some (VI v1), some (VJ s2.1), none] [] S s2.2) (fun s2 => ?_) ((0 : Int), M))) ?_
  · refine s_aload_n (dt_Tokens_scanWord 5 _ _ _ rfl) rfl ?_
    refine s_getI (c := 11) (j := 5) (dt_Tokens_scanWord 6 _ _ _ rfl) (kf_Tokens_29) (sc_27 hS) rfl ?_
    refine s_iload_n (dt_Tokens_scanWord 7 _ _ _ rfl) rfl ?_
    refine s_if_icmp_ge (tgt := 66) (dt_Tokens_scanWord 8 _ _ _ rfl) rfl ?_ ?_
    · refine s_aload_n (dt_Tokens_scanWord 9 _ _ _ rfl) rfl ?_
      refine s_aload_n (dt_Tokens_scanWord 10 _ _ _ rfl) rfl ?_
      refine s_getI (c := 11) (j := 5) (dt_Tokens_scanWord 11 _ _ _ rfl) (kf_Tokens_29) (sc_27 hS) rfl ?_
      refine s_callO (y := y_Tokens_byteAt) (Y' := Y_Tokens_byteAt) (as := [VR (some 1), VI (s2.2 27 5)]) (r := fun q => some (VI q)) (M' := fun q => s2.2) (kInvS (dt_Tokens_scanWord 12 _ _ _ rfl) kst_Tokens_byteAt rfl) kl_Tokens_32 md_Tokens_byteAt rfl rfl (fun q hq => c_Tokens_byteAt hS (s2.2 27 5) s2.2 q hq) (fun q3 => ?_)
      refine s_callO (y := y_Tokens_isLetter) (Y' := Y_Tokens_isLetter) (as := [VI q3]) (r := fun q => some (VI q)) (M' := fun q => s2.2) (kInvS (dt_Tokens_scanWord 13 _ _ _ rfl) kst_Tokens_isLetter rfl) kl_Tokens_44 md_Tokens_isLetter rfl rfl (fun q hq => c_Tokens_isLetter hS q3 s2.2 q hq) (fun q4 => ?_)
      refine s_if_eq (tgt := 66) (dt_Tokens_scanWord 14 _ _ _ rfl) rfl ?_ ?_
      · exact s_mask [true, true, false, true, true, false] (s_ret0 rfl)
      · refine s_lload (dt_Tokens_scanWord 15 _ _ _ rfl) rfl ?_
        refine s_ldc2 (n := (27 : Int)) (kc_Tokens_64) (dt_Tokens_scanWord 16 _ _ _ rfl) rfl ?_
        refine s_lmul (dt_Tokens_scanWord 17 _ _ _ rfl) ?_
        refine s_aload_n (dt_Tokens_scanWord 18 _ _ _ rfl) rfl ?_
        refine s_aload_n (dt_Tokens_scanWord 19 _ _ _ rfl) rfl ?_
        refine s_getI (c := 11) (j := 5) (dt_Tokens_scanWord 20 _ _ _ rfl) (kf_Tokens_29) (sc_27 hS) rfl ?_
        refine s_callO (y := y_Tokens_byteAt) (Y' := Y_Tokens_byteAt) (as := [VR (some 1), VI (s2.2 27 5)]) (r := fun q => some (VI q)) (M' := fun q => s2.2) (kInvS (dt_Tokens_scanWord 21 _ _ _ rfl) kst_Tokens_byteAt rfl) kl_Tokens_32 md_Tokens_byteAt rfl rfl (fun q hq => c_Tokens_byteAt hS (s2.2 27 5) s2.2 q hq) (fun q5 => ?_)
        refine s_bipush (dt_Tokens_scanWord 22 _ _ _ rfl) rfl ?_
        refine s_isub (dt_Tokens_scanWord 23 _ _ _ rfl) ?_
        refine s_iconst (dt_Tokens_scanWord 24 _ _ _ rfl) rfl ?_
        refine s_iadd (dt_Tokens_scanWord 25 _ _ _ rfl) ?_
        refine s_i2l (dt_Tokens_scanWord 26 _ _ _ rfl) ?_
        refine s_ladd (dt_Tokens_scanWord 27 _ _ _ rfl) ?_
        refine s_lstore (dt_Tokens_scanWord 28 _ _ _ rfl) rfl ?_
        refine s_aload_n (dt_Tokens_scanWord 29 _ _ _ rfl) rfl ?_
        refine s_dup (dt_Tokens_scanWord 30 _ _ _ rfl) rfl ?_
        refine s_getI (c := 11) (j := 5) (dt_Tokens_scanWord 31 _ _ _ rfl) (kf_Tokens_29) (sc_27 hS) rfl ?_
        refine s_iconst (dt_Tokens_scanWord 32 _ _ _ rfl) rfl ?_
        refine s_iadd (dt_Tokens_scanWord 33 _ _ _ rfl) ?_
        refine s_putI (c := 11) (j := 5) (dt_Tokens_scanWord 34 _ _ _ rfl) kp_Tokens_29 (sc_27 hS) ⟨rfl, rfl⟩ ?_
        refine s_letM (fun M6 => ?_)
        refine s_goto (tgt := 8) (dt_Tokens_scanWord 35 _ _ _ rfl) rfl ?_
        exact s_mask [true, true, true, true, true, false] (s_ret0 rfl)
    · exact s_mask [true, true, false, true, true, false] (s_ret0 rfl)
  intro e7
  refine s_aload_n (dt_Tokens_scanWord 36 _ _ _ rfl) rfl ?_
  refine s_getI (c := 11) (j := 5) (dt_Tokens_scanWord 37 _ _ _ rfl) (kf_Tokens_29) (sc_27 hS) rfl ?_
  refine s_iload_n (dt_Tokens_scanWord 38 _ _ _ rfl) rfl ?_
  refine s_isub (dt_Tokens_scanWord 39 _ _ _ rfl) ?_
  refine s_bipush (dt_Tokens_scanWord 40 _ _ _ rfl) rfl ?_
  refine s_if_icmp_le (tgt := 79) (dt_Tokens_scanWord 41 _ _ _ rfl) rfl ?_ ?_
  · refine s_aload_n (dt_Tokens_scanWord 44 _ _ _ rfl) rfl ?_
    refine s_getI (c := 11) (j := 4) (dt_Tokens_scanWord 45 _ _ _ rfl) (kf_Tokens_25) (sc_27 hS) rfl ?_
    refine s_bd (κ := fun t9 => kC 109 [some (VR (some 27)), some (VR (some 1)), none, some (VI v1), none, none] [] S t9) ?_ (fun t9 => ?_)
    · refine s_if_lt (tgt := 109) (dt_Tokens_scanWord 46 _ _ _ rfl) rfl ?_ ?_
      · exact s_mask [true, true, false, true, false, false] (s_ret0 rfl)
      · refine s_aload_n (dt_Tokens_scanWord 47 _ _ _ rfl) rfl ?_
        refine s_getI (c := 11) (j := 4) (dt_Tokens_scanWord 48 _ _ _ rfl) (kf_Tokens_25) (sc_27 hS) rfl ?_
        refine s_aload_n (dt_Tokens_scanWord 49 _ _ _ rfl) rfl ?_
        refine s_getR (c := 11) (j := 3) (o := (some 31)) (dt_Tokens_scanWord 50 _ _ _ rfl) (kf_Tokens_21) (sc_27 hS) rfl rfl ?_
        refine s_alen (N := 1601) (dt_Tokens_scanWord 51 _ _ _ rfl) (sc_31 hS) rfl rfl (by decide) ?_
        refine s_if_icmp_ge (tgt := 109) (dt_Tokens_scanWord 52 _ _ _ rfl) rfl ?_ ?_
        · refine s_aload_n (dt_Tokens_scanWord 53 _ _ _ rfl) rfl ?_
          refine s_getR (c := 11) (j := 3) (o := (some 31)) (dt_Tokens_scanWord 54 _ _ _ rfl) (kf_Tokens_21) (sc_27 hS) rfl rfl ?_
          refine s_aload_n (dt_Tokens_scanWord 55 _ _ _ rfl) rfl ?_
          refine s_getI (c := 11) (j := 4) (dt_Tokens_scanWord 56 _ _ _ rfl) (kf_Tokens_25) (sc_27 hS) rfl ?_
          refine s_lload (dt_Tokens_scanWord 57 _ _ _ rfl) rfl ?_
          refine s_last (N := 1601) (dt_Tokens_scanWord 58 _ _ _ rfl) (sc_31 hS) rfl ?_
          refine s_letM (fun M8 => ?_)
          exact s_mask [true, true, false, true, false, false] (s_ret0 rfl)
        · exact s_mask [true, true, false, true, false, false] (s_ret0 rfl)
    refine s_aload_n (dt_Tokens_scanWord 59 _ _ _ rfl) rfl ?_
    refine s_aload_n (dt_Tokens_scanWord 60 _ _ _ rfl) rfl ?_
    refine s_iload_n (dt_Tokens_scanWord 61 _ _ _ rfl) rfl ?_
    refine s_callO (y := y_Tokens_wordKind) (Y' := Y_Tokens_wordKind) (as := [VR (some 27), VR (some 1), VI v1]) (r := fun q => some (VI q)) (M' := fun q => t9) (kInvV (dt_Tokens_scanWord 62 _ _ _ rfl) kin_Tokens_wordKind 11 rfl (sc_27 hS) kse_Tokens_wordKind rfl) kl_Tokens_66 md_Tokens_wordKind rfl rfl (fun q hq => c_Tokens_wordKind hS v1 t9 q hq) (fun q10 => ?_)
    exact s_iret (dt_Tokens_scanWord 63 _ _ _ rfl) rfl rfl
  · refine s_iconst (dt_Tokens_scanWord 42 _ _ _ rfl) rfl ?_
    exact s_iret (dt_Tokens_scanWord 43 _ _ _ rfl) rfl rfl
theorem c_Tokens_scanWord {S : KS} (hS : KExt 382 S)  (a1 : Int) (M : KM) : ∀ q, f_Tokens_scanWord a1 M = some q → Ctr y_Tokens_scanWord Y_Tokens_scanWord [VR (some 27), VR (some 1), VI a1] S M (some (VI q.1)) S (q.2) := fun q hq =>
  ctr_of md_Tokens_scanWord (Nat.le_of_ble_eq_true rfl) ⟨Nat.le_refl _, Nat.le_refl _⟩ 3 hq rfl (fun _ G => sim_Tokens_scanWord hS  a1 M)
set_option maxRecDepth 100000 in
theorem sim_Tokens_scan {G : Gam} {S : KS} (hS : KExt 382 S)  (a1 : Int) (M : KM) : Sim G Y_Tokens_scan (f_Tokens_scan a1 M) (kC 0 [some (VR (some 27)), some (VR (some 1)), some (VI a1), none, none, none] [] S M) (fun (q : KM) => Sum.inr (none, S, q)) := by
  unfold f_Tokens_scan
  refine s_aload_n (dt_Tokens_scan 0 _ _ _ rfl) rfl ?_
  refine s_iconst (dt_Tokens_scan 1 _ _ _ rfl) rfl ?_
  refine s_putI (c := 11) (j := 4) (dt_Tokens_scan 2 _ _ _ rfl) kp_Tokens_25 (sc_27 hS) ⟨rfl, rfl⟩ ?_
  refine s_letM (fun M1 => ?_)
  refine s_aload_n (dt_Tokens_scan 3 _ _ _ rfl) rfl ?_
  refine s_iconst (dt_Tokens_scan 4 _ _ _ rfl) rfl ?_
  refine s_putI (c := 11) (j := 5) (dt_Tokens_scan 5 _ _ _ rfl) kp_Tokens_29 (sc_27 hS) ⟨rfl, rfl⟩ ?_
  refine s_letM (fun M2 => ?_)
  refine s_iconst (dt_Tokens_scan 6 _ _ _ rfl) rfl ?_
  refine s_istore_n (dt_Tokens_scan 7 _ _ _ rfl) rfl ?_
  refine s_iconst (dt_Tokens_scan 8 _ _ _ rfl) rfl ?_
  refine s_istore (dt_Tokens_scan 9 _ _ _ rfl) rfl ?_
  refine s_bd (κ := (fun (e20 : KM) => kC 195 [none, none, none, none, none, none] [] S e20)) (s_mask [true, true, true, true, true, false] (s_while (c := fun s3 => kC 15 [some (VR (some 27)), some (VR (some 1)), some (VI a1), some (VI s3.1), some (VI s3.2.1), none] [] S s3.2.2) (fun s3 => ?_) ((1 : Int), (0 : Int), M2))) ?_
  · refine s_iload (dt_Tokens_scan 10 _ _ _ rfl) rfl ?_
    refine s_iload_n (dt_Tokens_scan 11 _ _ _ rfl) rfl ?_
    refine s_if_icmp_gt (tgt := 195) (dt_Tokens_scan 12 _ _ _ rfl) rfl ?_ ?_
    · refine s_iload_n (dt_Tokens_scan 13 _ _ _ rfl) rfl ?_
      refine s_iconst (dt_Tokens_scan 14 _ _ _ rfl) rfl ?_
      refine s_if_icmp_eq (tgt := 195) (dt_Tokens_scan 15 _ _ _ rfl) rfl ?_ ?_
      · exact s_mask [false, false, false, false, false, false] (s_ret0 rfl)
      · refine s_iload_n (dt_Tokens_scan 16 _ _ _ rfl) rfl ?_
        refine s_if_eq (tgt := 195) (dt_Tokens_scan 17 _ _ _ rfl) rfl ?_ ?_
        · exact s_mask [false, false, false, false, false, false] (s_ret0 rfl)
        · refine s_bd (κ := (fun (e8 : KM) => kC 65 [some (VR (some 27)), some (VR (some 1)), some (VI a1), none, some (VI s3.2.1), none] [] S e8)) (s_mask [true, true, true, false, true, false] (s_while (c := fun s4 => kC 30 [some (VR (some 27)), some (VR (some 1)), some (VI a1), none, some (VI s3.2.1), none] [] S s4) (fun s4 => ?_) s3.2.2)) ?_
          · refine s_aload_n (dt_Tokens_scan 18 _ _ _ rfl) rfl ?_
            refine s_getI (c := 11) (j := 5) (dt_Tokens_scan 19 _ _ _ rfl) (kf_Tokens_29) (sc_27 hS) rfl ?_
            refine s_iload_n (dt_Tokens_scan 20 _ _ _ rfl) rfl ?_
            refine s_if_icmp_ge (tgt := 65) (dt_Tokens_scan 21 _ _ _ rfl) rfl ?_ ?_
            · refine s_aload_n (dt_Tokens_scan 22 _ _ _ rfl) rfl ?_
              refine s_aload_n (dt_Tokens_scan 23 _ _ _ rfl) rfl ?_
              refine s_getI (c := 11) (j := 5) (dt_Tokens_scan 24 _ _ _ rfl) (kf_Tokens_29) (sc_27 hS) rfl ?_
              refine s_callO (y := y_Tokens_byteAt) (Y' := Y_Tokens_byteAt) (as := [VR (some 1), VI (s4 27 5)]) (r := fun q => some (VI q)) (M' := fun q => s4) (kInvS (dt_Tokens_scan 25 _ _ _ rfl) kst_Tokens_byteAt rfl) kl_Tokens_32 md_Tokens_byteAt rfl rfl (fun q hq => c_Tokens_byteAt hS (s4 27 5) s4 q hq) (fun q5 => ?_)
              refine s_callO (y := y_Tokens_isBlank) (Y' := Y_Tokens_isBlank) (as := [VI q5]) (r := fun q => some (VI q)) (M' := fun q => s4) (kInvS (dt_Tokens_scan 26 _ _ _ rfl) kst_Tokens_isBlank rfl) kl_Tokens_36 md_Tokens_isBlank rfl rfl (fun q hq => c_Tokens_isBlank hS q5 s4 q hq) (fun q6 => ?_)
              refine s_if_eq (tgt := 65) (dt_Tokens_scan 27 _ _ _ rfl) rfl ?_ ?_
              · exact s_mask [true, true, true, false, true, false] (s_ret0 rfl)
              · refine s_aload_n (dt_Tokens_scan 28 _ _ _ rfl) rfl ?_
                refine s_dup (dt_Tokens_scan 29 _ _ _ rfl) rfl ?_
                refine s_getI (c := 11) (j := 5) (dt_Tokens_scan 30 _ _ _ rfl) (kf_Tokens_29) (sc_27 hS) rfl ?_
                refine s_iconst (dt_Tokens_scan 31 _ _ _ rfl) rfl ?_
                refine s_iadd (dt_Tokens_scan 32 _ _ _ rfl) ?_
                refine s_putI (c := 11) (j := 5) (dt_Tokens_scan 33 _ _ _ rfl) kp_Tokens_29 (sc_27 hS) ⟨rfl, rfl⟩ ?_
                refine s_letM (fun M7 => ?_)
                refine s_goto (tgt := 30) (dt_Tokens_scan 34 _ _ _ rfl) rfl ?_
                exact s_mask [true, true, true, false, true, false] (s_ret0 rfl)
            · exact s_mask [true, true, true, false, true, false] (s_ret0 rfl)
          intro e8
          refine s_aload_n (dt_Tokens_scan 35 _ _ _ rfl) rfl ?_
          refine s_getR (c := 11) (j := 1) (o := (some 29)) (dt_Tokens_scan 36 _ _ _ rfl) (kf_Tokens_15) (sc_27 hS) rfl rfl ?_
          refine s_aload_n (dt_Tokens_scan 37 _ _ _ rfl) rfl ?_
          refine s_getI (c := 11) (j := 4) (dt_Tokens_scan 38 _ _ _ rfl) (kf_Tokens_25) (sc_27 hS) rfl ?_
          refine s_aload_n (dt_Tokens_scan 39 _ _ _ rfl) rfl ?_
          refine s_getI (c := 11) (j := 5) (dt_Tokens_scan 40 _ _ _ rfl) (kf_Tokens_29) (sc_27 hS) rfl ?_
          refine s_inv (y := y_X_put) (Y' := Y_X_put) (as := [VR (some 29), VI (e8 27 4), VI (e8 27 5)]) (r := none) (M' := (putM e8 29 1601 (e8 27 4) (e8 27 5))) (kInvS (dt_Tokens_scan 41 _ _ _ rfl) kst_X_put rfl) kl_Tokens_40 md_X_put rfl rfl (c_X_put hS ⟨(sc_29 hS), by decide⟩ (e8 27 4) (e8 27 5) e8) ?_
          refine s_letM (fun M9 => ?_)
          refine s_aload_n (dt_Tokens_scan 42 _ _ _ rfl) rfl ?_
          refine s_aload_n (dt_Tokens_scan 43 _ _ _ rfl) rfl ?_
          refine s_getI (c := 11) (j := 5) (dt_Tokens_scan 44 _ _ _ rfl) (kf_Tokens_29) (sc_27 hS) rfl ?_
          refine s_callO (y := y_Tokens_byteAt) (Y' := Y_Tokens_byteAt) (as := [VR (some 1), VI (M9 27 5)]) (r := fun q => some (VI q)) (M' := fun q => M9) (kInvS (dt_Tokens_scan 45 _ _ _ rfl) kst_Tokens_byteAt rfl) kl_Tokens_32 md_Tokens_byteAt rfl rfl (fun q hq => c_Tokens_byteAt hS (M9 27 5) M9 q hq) (fun q10 => ?_)
          refine s_istore (dt_Tokens_scan 46 _ _ _ rfl) rfl ?_
          refine s_aload_n (dt_Tokens_scan 47 _ _ _ rfl) rfl ?_
          refine s_getI (c := 11) (j := 5) (dt_Tokens_scan 48 _ _ _ rfl) (kf_Tokens_29) (sc_27 hS) rfl ?_
          refine s_iload_n (dt_Tokens_scan 49 _ _ _ rfl) rfl ?_
          refine s_bd (κ := fun t17 => kC 167 [some (VR (some 27)), some (VR (some 1)), some (VI a1), some (VI t17.1), some (VI s3.2.1), none] [] S t17.2) ?_ (fun t17 => ?_)
          · refine s_if_icmp_lt (tgt := 103) (dt_Tokens_scan 50 _ _ _ rfl) rfl ?_ ?_
            · refine s_iload (dt_Tokens_scan 54 _ _ _ rfl) rfl ?_
              refine s_callO (y := y_Tokens_isLetter) (Y' := Y_Tokens_isLetter) (as := [VI q10]) (r := fun q => some (VI q)) (M' := fun q => M9) (kInvS (dt_Tokens_scan 55 _ _ _ rfl) kst_Tokens_isLetter rfl) kl_Tokens_44 md_Tokens_isLetter rfl rfl (fun q hq => c_Tokens_isLetter hS q10 M9 q hq) (fun q11 => ?_)
              refine s_if_eq (tgt := 121) (dt_Tokens_scan 56 _ _ _ rfl) rfl ?_ ?_
              · refine s_iload (dt_Tokens_scan 63 _ _ _ rfl) rfl ?_
                refine s_callO (y := y_Tokens_isDigit) (Y' := Y_Tokens_isDigit) (as := [VI q10]) (r := fun q => some (VI q)) (M' := fun q => M9) (kInvS (dt_Tokens_scan 64 _ _ _ rfl) kst_Tokens_isDigit rfl) kl_Tokens_50 md_Tokens_isDigit rfl rfl (fun q hq => c_Tokens_isDigit hS q10 M9 q hq) (fun q12 => ?_)
                refine s_if_eq (tgt := 139) (dt_Tokens_scan 65 _ _ _ rfl) rfl ?_ ?_
                · refine s_aload_n (dt_Tokens_scan 72 _ _ _ rfl) rfl ?_
                  refine s_dup (dt_Tokens_scan 73 _ _ _ rfl) rfl ?_
                  refine s_getI (c := 11) (j := 5) (dt_Tokens_scan 74 _ _ _ rfl) (kf_Tokens_29) (sc_27 hS) rfl ?_
                  refine s_iconst (dt_Tokens_scan 75 _ _ _ rfl) rfl ?_
                  refine s_iadd (dt_Tokens_scan 76 _ _ _ rfl) ?_
                  refine s_putI (c := 11) (j := 5) (dt_Tokens_scan 77 _ _ _ rfl) kp_Tokens_29 (sc_27 hS) ⟨rfl, rfl⟩ ?_
                  refine s_letM (fun M13 => ?_)
                  refine s_ldcS1 (dt_Tokens_scan 78 _ _ _ rfl) ?_
                  refine s_iload (dt_Tokens_scan 79 _ _ _ rfl) rfl ?_
                  refine s_i2c (dt_Tokens_scan 80 _ _ _ rfl) ?_
                  refine s_str_indexOf1 (dt_Tokens_scan 81 _ _ _ rfl) rfl ?_
                  refine s_bd (κ := fun t14 => kC 166 [some (VR (some 27)), some (VR (some 1)), some (VI a1), none, some (VI s3.2.1), none] [VI t14] S M13) ?_ (fun t14 => ?_)
                  · refine s_if_lt (tgt := 165) (dt_Tokens_scan 82 _ _ _ rfl) rfl ?_ ?_
                    · refine s_iconst (dt_Tokens_scan 85 _ _ _ rfl) rfl ?_
                      exact s_mask [true, true, true, false, true, false] (s_ret0 rfl)
                    · refine s_iload (dt_Tokens_scan 83 _ _ _ rfl) rfl ?_
                      refine s_goto (tgt := 166) (dt_Tokens_scan 84 _ _ _ rfl) rfl ?_
                      exact s_mask [true, true, true, false, true, false] (s_ret0 rfl)
                  refine s_istore_n (dt_Tokens_scan 86 _ _ _ rfl) rfl ?_
                  exact s_mask [true, true, true, true, true, false] (s_ret0 rfl)
                · refine s_aload_n (dt_Tokens_scan 66 _ _ _ rfl) rfl ?_
                  refine s_aload_n (dt_Tokens_scan 67 _ _ _ rfl) rfl ?_
                  refine s_iload_n (dt_Tokens_scan 68 _ _ _ rfl) rfl ?_
                  refine s_callO (y := y_Tokens_scanNumber) (Y' := Y_Tokens_scanNumber) (as := [VR (some 27), VR (some 1), VI a1]) (r := fun q => some (VI q.1)) (M' := fun q => q.2) (kInvV (dt_Tokens_scan 69 _ _ _ rfl) kin_Tokens_scanNumber 11 rfl (sc_27 hS) kse_Tokens_scanNumber rfl) kl_Tokens_53 md_Tokens_scanNumber rfl rfl (fun q hq => c_Tokens_scanNumber hS a1 M9 q hq) (fun q15 => ?_)
                  refine s_istore_n (dt_Tokens_scan 70 _ _ _ rfl) rfl ?_
                  refine s_goto (tgt := 167) (dt_Tokens_scan 71 _ _ _ rfl) rfl ?_
                  exact s_mask [true, true, true, true, true, false] (s_ret0 rfl)
              · refine s_aload_n (dt_Tokens_scan 57 _ _ _ rfl) rfl ?_
                refine s_aload_n (dt_Tokens_scan 58 _ _ _ rfl) rfl ?_
                refine s_iload_n (dt_Tokens_scan 59 _ _ _ rfl) rfl ?_
                refine s_callO (y := y_Tokens_scanWord) (Y' := Y_Tokens_scanWord) (as := [VR (some 27), VR (some 1), VI a1]) (r := fun q => some (VI q.1)) (M' := fun q => q.2) (kInvV (dt_Tokens_scan 60 _ _ _ rfl) kin_Tokens_scanWord 11 rfl (sc_27 hS) kse_Tokens_scanWord rfl) kl_Tokens_47 md_Tokens_scanWord rfl rfl (fun q hq => c_Tokens_scanWord hS a1 M9 q hq) (fun q16 => ?_)
                refine s_istore_n (dt_Tokens_scan 61 _ _ _ rfl) rfl ?_
                refine s_goto (tgt := 167) (dt_Tokens_scan 62 _ _ _ rfl) rfl ?_
                exact s_mask [true, true, true, true, true, false] (s_ret0 rfl)
            · refine s_iconst (dt_Tokens_scan 51 _ _ _ rfl) rfl ?_
              refine s_istore_n (dt_Tokens_scan 52 _ _ _ rfl) rfl ?_
              refine s_goto (tgt := 167) (dt_Tokens_scan 53 _ _ _ rfl) rfl ?_
              exact s_mask [true, true, true, true, true, false] (s_ret0 rfl)
          refine s_aload_n (dt_Tokens_scan 87 _ _ _ rfl) rfl ?_
          refine s_getR (c := 11) (j := 0) (o := (some 28)) (dt_Tokens_scan 88 _ _ _ rfl) (kf_Tokens_9) (sc_27 hS) rfl rfl ?_
          refine s_aload_n (dt_Tokens_scan 89 _ _ _ rfl) rfl ?_
          refine s_getI (c := 11) (j := 4) (dt_Tokens_scan 90 _ _ _ rfl) (kf_Tokens_25) (sc_27 hS) rfl ?_
          refine s_iload_n (dt_Tokens_scan 91 _ _ _ rfl) rfl ?_
          refine s_inv (y := y_X_put) (Y' := Y_X_put) (as := [VR (some 28), VI (t17.2 27 4), VI t17.1]) (r := none) (M' := (putM t17.2 28 1601 (t17.2 27 4) t17.1)) (kInvS (dt_Tokens_scan 92 _ _ _ rfl) kst_X_put rfl) kl_Tokens_40 md_X_put rfl rfl (c_X_put hS ⟨(sc_28 hS), by decide⟩ (t17.2 27 4) t17.1 t17.2) ?_
          refine s_letM (fun M18 => ?_)
          refine s_aload_n (dt_Tokens_scan 93 _ _ _ rfl) rfl ?_
          refine s_dup (dt_Tokens_scan 94 _ _ _ rfl) rfl ?_
          refine s_getI (c := 11) (j := 4) (dt_Tokens_scan 95 _ _ _ rfl) (kf_Tokens_25) (sc_27 hS) rfl ?_
          refine s_iconst (dt_Tokens_scan 96 _ _ _ rfl) rfl ?_
          refine s_iadd (dt_Tokens_scan 97 _ _ _ rfl) ?_
          refine s_putI (c := 11) (j := 4) (dt_Tokens_scan 98 _ _ _ rfl) kp_Tokens_25 (sc_27 hS) ⟨rfl, rfl⟩ ?_
          refine s_letM (fun M19 => ?_)
          refine s_iinc (dt_Tokens_scan 99 _ _ _ rfl) rfl rfl ?_
          refine s_goto (tgt := 15) (dt_Tokens_scan 100 _ _ _ rfl) rfl ?_
          exact s_mask [true, true, true, true, true, false] (s_ret0 rfl)
    · exact s_mask [false, false, false, false, false, false] (s_ret0 rfl)
  intro e20
  exact s_vret (dt_Tokens_scan 101 _ _ _ rfl) rfl rfl
theorem c_Tokens_scan {S : KS} (hS : KExt 382 S)  (a1 : Int) (M : KM) : ∀ q, f_Tokens_scan a1 M = some q → Ctr y_Tokens_scan Y_Tokens_scan [VR (some 27), VR (some 1), VI a1] S M (none) S (q) := fun q hq =>
  ctr_of md_Tokens_scan (Nat.le_of_ble_eq_true rfl) ⟨Nat.le_refl _, Nat.le_refl _⟩ 3 hq rfl (fun _ G => sim_Tokens_scan hS  a1 M)
set_option maxRecDepth 100000 in
theorem sim_Town_emptyD {G : Gam} {S : KS} (hS : KExt 382 S)   (M : KM) : Sim G Y_Town_empty (f_Town_emptyD  M) (kC 0 [some (VR (some 15))] [] S M) (fun (q : KM) => Sum.inr (none, S, q)) := by
  unfold f_Town_emptyD
  refine s_aload_n (dt_Town_empty 0 _ _ _ rfl) rfl ?_
  refine s_iconst (dt_Town_empty 1 _ _ _ rfl) rfl ?_
  refine s_putI (c := 12) (j := 0) (dt_Town_empty 2 _ _ _ rfl) kp_Town_46 (sc_15 hS) ⟨rfl, rfl⟩ ?_
  refine s_letM (fun M1 => ?_)
  refine s_aload_n (dt_Town_empty 3 _ _ _ rfl) rfl ?_
  refine s_iconst (dt_Town_empty 4 _ _ _ rfl) rfl ?_
  refine s_putI (c := 12) (j := 5) (dt_Town_empty 5 _ _ _ rfl) kp_Town_50 (sc_15 hS) ⟨rfl, rfl⟩ ?_
  refine s_letM (fun M2 => ?_)
  refine s_aload_n (dt_Town_empty 6 _ _ _ rfl) rfl ?_
  refine s_iconst (dt_Town_empty 7 _ _ _ rfl) rfl ?_
  refine s_putI (c := 12) (j := 9) (dt_Town_empty 8 _ _ _ rfl) kp_Town_53 (sc_15 hS) ⟨rfl, rfl⟩ ?_
  refine s_letM (fun M3 => ?_)
  refine s_aload_n (dt_Town_empty 9 _ _ _ rfl) rfl ?_
  refine s_iconst (dt_Town_empty 10 _ _ _ rfl) rfl ?_
  refine s_putI (c := 12) (j := 11) (dt_Town_empty 11 _ _ _ rfl) kp_Town_56 (sc_15 hS) ⟨rfl, rfl⟩ ?_
  refine s_letM (fun M4 => ?_)
  refine s_aload_n (dt_Town_empty 12 _ _ _ rfl) rfl ?_
  refine s_iconst (dt_Town_empty 13 _ _ _ rfl) rfl ?_
  refine s_putI (c := 12) (j := 12) (dt_Town_empty 14 _ _ _ rfl) kp_Town_59 (sc_15 hS) ⟨rfl, rfl⟩ ?_
  refine s_letM (fun M5 => ?_)
  refine s_aload_n (dt_Town_empty 15 _ _ _ rfl) rfl ?_
  refine s_bipush (dt_Town_empty 16 _ _ _ rfl) rfl ?_
  refine s_putI (c := 12) (j := 13) (dt_Town_empty 17 _ _ _ rfl) kp_Town_62 (sc_15 hS) ⟨rfl, rfl⟩ ?_
  refine s_letM (fun M6 => ?_)
  refine s_aload_n (dt_Town_empty 18 _ _ _ rfl) rfl ?_
  refine s_iconst (dt_Town_empty 19 _ _ _ rfl) rfl ?_
  refine s_putI (c := 12) (j := 14) (dt_Town_empty 20 _ _ _ rfl) kp_Town_65 (sc_15 hS) ⟨rfl, rfl⟩ ?_
  refine s_letM (fun M7 => ?_)
  refine s_aload_n (dt_Town_empty 21 _ _ _ rfl) rfl ?_
  refine s_iconst (dt_Town_empty 22 _ _ _ rfl) rfl ?_
  refine s_putI (c := 12) (j := 15) (dt_Town_empty 23 _ _ _ rfl) kp_Town_68 (sc_15 hS) ⟨rfl, rfl⟩ ?_
  refine s_letM (fun M8 => ?_)
  refine s_aload_n (dt_Town_empty 24 _ _ _ rfl) rfl ?_
  refine s_getR (c := 12) (j := 16) (o := (some 24)) (dt_Town_empty 25 _ _ _ rfl) (kf_Town_39) (sc_15 hS) rfl rfl ?_
  refine s_iconst (dt_Town_empty 26 _ _ _ rfl) rfl ?_
  refine s_putI (c := 4) (j := 1) (dt_Town_empty 27 _ _ _ rfl) kp_Town_71 (sc_24 hS) ⟨rfl, rfl⟩ ?_
  refine s_letM (fun M9 => ?_)
  exact s_vret (dt_Town_empty 28 _ _ _ rfl) rfl rfl
theorem c_Town_emptyD {S : KS} (hS : KExt 382 S)   (M : KM) : ∀ q, f_Town_emptyD  M = some q → Ctr y_Town_empty Y_Town_empty [VR (some 15)] S M (none) S (q) := fun q hq =>
  ctr_of md_Town_empty (Nat.le_of_ble_eq_true rfl) ⟨Nat.le_refl _, Nat.le_refl _⟩ 0 hq rfl (fun _ G => sim_Town_emptyD hS   M)
set_option maxRecDepth 100000 in
theorem sim_Reader_read {G : Gam} {S : KS} (hS : KExt 382 S)  (a1 : Int) (M : KM) : Sim G Y_Reader_read (f_Reader_read a1 M) (kC 0 [some (VR (some 14)), some (VR (some 1)), some (VI a1)] [] S M) (fun (q : Int × KM) => Sum.inr (some (VI q.1), S, q.2)) := by
  unfold f_Reader_read
  refine s_aload_n (dt_Reader_read 0 _ _ _ rfl) rfl ?_
  refine s_iconst (dt_Reader_read 1 _ _ _ rfl) rfl ?_
  refine s_putI (c := 7) (j := 0) (dt_Reader_read 2 _ _ _ rfl) kp_Reader_9 (sc_14 hS) ⟨rfl, rfl⟩ ?_
  refine s_letM (fun M1 => ?_)
  refine s_aload_n (dt_Reader_read 3 _ _ _ rfl) rfl ?_
  refine s_iconst (dt_Reader_read 4 _ _ _ rfl) rfl ?_
  refine s_putI (c := 7) (j := 1) (dt_Reader_read 5 _ _ _ rfl) kp_Reader_15 (sc_14 hS) ⟨rfl, rfl⟩ ?_
  refine s_letM (fun M2 => ?_)
  refine s_aload_n (dt_Reader_read 6 _ _ _ rfl) rfl ?_
  refine s_getR (c := 7) (j := 2) (o := (some 15)) (dt_Reader_read 7 _ _ _ rfl) (kf_Reader_21) (sc_14 hS) rfl rfl ?_
  refine s_callO (y := y_Town_empty) (Y' := Y_Town_empty) (as := [VR (some 15)]) (r := fun q => none) (M' := fun q => q) (kInvV (dt_Reader_read 8 _ _ _ rfl) kin_Town_empty 12 rfl (sc_15 hS) kse_Town_empty rfl) kl_Reader_39 md_Town_empty rfl rfl (fun q hq => c_Town_emptyD hS M2 q hq) (fun q3 => ?_)
  refine s_aload_n (dt_Reader_read 9 _ _ _ rfl) rfl ?_
  refine s_iconst (dt_Reader_read 10 _ _ _ rfl) rfl ?_
  refine s_putZ (c := 7) (j := 7) (dt_Reader_read 11 _ _ _ rfl) kp_Reader_42 (sc_14 hS) ⟨rfl, rfl⟩ ?_
  refine s_letM (fun M4 => ?_)
  refine s_aload_n (dt_Reader_read 12 _ _ _ rfl) rfl ?_
  refine s_getR (c := 7) (j := 3) (o := (some 27)) (dt_Reader_read 13 _ _ _ rfl) (kf_Reader_28) (sc_14 hS) rfl rfl ?_
  refine s_aload_n (dt_Reader_read 14 _ _ _ rfl) rfl ?_
  refine s_iload_n (dt_Reader_read 15 _ _ _ rfl) rfl ?_
  refine s_callO (y := y_Tokens_scan) (Y' := Y_Tokens_scan) (as := [VR (some 27), VR (some 1), VI a1]) (r := fun q => none) (M' := fun q => q) (kInvV (dt_Reader_read 16 _ _ _ rfl) kin_Tokens_scan 11 rfl (sc_27 hS) kse_Tokens_scan rfl) kl_Reader_46 md_Tokens_scan rfl rfl (fun q hq => c_Tokens_scan hS a1 M4 q hq) (fun q5 => ?_)
  refine s_aload_n (dt_Reader_read 17 _ _ _ rfl) rfl ?_
  refine s_iconst (dt_Reader_read 18 _ _ _ rfl) rfl ?_
  refine s_putI (c := 7) (j := 4) (dt_Reader_read 19 _ _ _ rfl) kp_Reader_50 (sc_14 hS) ⟨rfl, rfl⟩ ?_
  refine s_letM (fun M6 => ?_)
  refine s_aload_n (dt_Reader_read 20 _ _ _ rfl) rfl ?_
  refine s_callO (y := y_Reader_step) (Y' := Y_Reader_step) (as := [VR (some 14)]) (r := fun q => none) (M' := fun q => q) (kInvV (dt_Reader_read 21 _ _ _ rfl) kin_Reader_step 7 rfl (sc_14 hS) kse_Reader_step rfl) kl_Reader_53 md_Reader_step rfl rfl (fun q hq => c_Reader_step hS M6 q hq) (fun q7 => ?_)
  refine s_aload_n (dt_Reader_read 22 _ _ _ rfl) rfl ?_
  refine s_iconst (dt_Reader_read 23 _ _ _ rfl) rfl ?_
  refine s_putI (c := 7) (j := 6) (dt_Reader_read 24 _ _ _ rfl) kp_Reader_56 (sc_14 hS) ⟨rfl, rfl⟩ ?_
  refine s_letM (fun M8 => ?_)
  refine s_bd (κ := (Sum.elim (fun (e12 : KM) => kC 85 [none, none, none] [] S e12) (fun (e13 : KM) => kC 70 [none, none, none] [] S e13))) (s_mask [true, false, false] (s_while (c := fun s9 => kC 45 [some (VR (some 14)), none, none] [] S s9) (fun s9 => ?_) M8)) ?_
  · refine s_aload_n (dt_Reader_read 25 _ _ _ rfl) rfl ?_
    refine s_getI (c := 7) (j := 6) (dt_Reader_read 26 _ _ _ rfl) (kf_Reader_56) (sc_14 hS) rfl ?_
    refine s_sipush (dt_Reader_read 27 _ _ _ rfl) rfl ?_
    refine s_if_icmp_ge (tgt := 85) (dt_Reader_read 28 _ _ _ rfl) rfl ?_ ?_
    · refine s_aload_n (dt_Reader_read 29 _ _ _ rfl) rfl ?_
      refine s_getI (c := 7) (j := 5) (dt_Reader_read 30 _ _ _ rfl) (kf_Reader_59) (sc_14 hS) rfl ?_
      refine s_iconst (dt_Reader_read 31 _ _ _ rfl) rfl ?_
      refine s_if_icmp_eq (tgt := 85) (dt_Reader_read 32 _ _ _ rfl) rfl ?_ ?_
      · exact s_mask [false, false, false] (s_ret0 rfl)
      · refine s_aload_n (dt_Reader_read 33 _ _ _ rfl) rfl ?_
        refine s_callO (y := y_Reader_line) (Y' := Y_Reader_line) (as := [VR (some 14)]) (r := fun q => some (VI q.1)) (M' := fun q => q.2) (kInvV (dt_Reader_read 34 _ _ _ rfl) kin_Reader_line 7 rfl (sc_14 hS) kse_Reader_line rfl) kl_Reader_62 md_Reader_line rfl rfl (fun q hq => c_Reader_line hS s9 q hq) (fun q10 => ?_)
        refine s_if_ne (tgt := 72) (dt_Reader_read 35 _ _ _ rfl) rfl ?_ ?_
        · exact s_mask [false, false, false] (s_ret0 rfl)
        · refine s_aload_n (dt_Reader_read 38 _ _ _ rfl) rfl ?_
          refine s_dup (dt_Reader_read 39 _ _ _ rfl) rfl ?_
          refine s_getI (c := 7) (j := 6) (dt_Reader_read 40 _ _ _ rfl) (kf_Reader_56) (sc_14 hS) rfl ?_
          refine s_iconst (dt_Reader_read 41 _ _ _ rfl) rfl ?_
          refine s_iadd (dt_Reader_read 42 _ _ _ rfl) ?_
          refine s_putI (c := 7) (j := 6) (dt_Reader_read 43 _ _ _ rfl) kp_Reader_56 (sc_14 hS) ⟨rfl, rfl⟩ ?_
          refine s_letM (fun M11 => ?_)
          refine s_goto (tgt := 45) (dt_Reader_read 44 _ _ _ rfl) rfl ?_
          exact s_mask [true, false, false] (s_ret0 rfl)
    · exact s_mask [false, false, false] (s_ret0 rfl)
  refine s_elim (fun e12 => ?_) ?_
  · refine s_iconst (dt_Reader_read 45 _ _ _ rfl) rfl ?_
    exact s_zret01 (dt_Reader_read 46 _ _ _ rfl) rfl rfl rfl
  intro e13
  refine s_iconst (dt_Reader_read 36 _ _ _ rfl) rfl ?_
  exact s_zret01 (dt_Reader_read 37 _ _ _ rfl) rfl rfl rfl
theorem c_Reader_read {S : KS} (hS : KExt 382 S)  (a1 : Int) (M : KM) : ∀ q, f_Reader_read a1 M = some q → Ctr y_Reader_read Y_Reader_read [VR (some 14), VR (some 1), VI a1] S M (some (VI q.1)) S (q.2) := fun q hq =>
  ctr_of md_Reader_read (Nat.le_of_ble_eq_true rfl) ⟨Nat.le_refl _, Nat.le_refl _⟩ 0 hq rfl (fun _ G => sim_Reader_read hS  a1 M)
set_option maxRecDepth 100000 in
theorem sim_State_begin {G : Gam} {S : KS} (hS : KExt 382 S)   (M : KM) : Sim G Y_State_begin (f_State_begin  M) (kC 0 [some (VR (some 34)), some (VR (some 2))] [] S M) (fun (q : KM) => Sum.inr (none, S, q)) := by
  unfold f_State_begin
  refine s_aload_n (dt_State_begin 0 _ _ _ rfl) rfl ?_
  refine s_getR (c := 12) (j := 1) (o := (some 3)) (dt_State_begin 1 _ _ _ rfl) (kf_State_30) (sc_2 hS) rfl rfl ?_
  refine s_aload_n (dt_State_begin 2 _ _ _ rfl) rfl ?_
  refine s_getR (c := 10) (j := 0) (o := (some 35)) (dt_State_begin 3 _ _ _ rfl) (kf_State_9) (sc_34 hS) rfl rfl ?_
  refine s_inv (y := y_X_copyRow) (Y' := Y_X_copyRow) (as := [VR (some 3), VR (some 35)]) (r := none) (M' := (mcp M 3 35 (min 8 8))) (kInvS (dt_State_begin 4 _ _ _ rfl) kst_X_copyRow rfl) kl_State_33 md_X_copyRow rfl rfl (c_X_copyRow hS ⟨(sc_3 hS), by decide⟩ ⟨(sc_35 hS), by decide⟩ M) ?_
  refine s_letM (fun M1 => ?_)
  refine s_aload_n (dt_State_begin 5 _ _ _ rfl) rfl ?_
  refine s_getR (c := 12) (j := 2) (o := (some 4)) (dt_State_begin 6 _ _ _ rfl) (kf_State_37) (sc_2 hS) rfl rfl ?_
  refine s_aload_n (dt_State_begin 7 _ _ _ rfl) rfl ?_
  refine s_getR (c := 10) (j := 1) (o := (some 36)) (dt_State_begin 8 _ _ _ rfl) (kf_State_15) (sc_34 hS) rfl rfl ?_
  refine s_inv (y := y_X_copyRow) (Y' := Y_X_copyRow) (as := [VR (some 4), VR (some 36)]) (r := none) (M' := (mcp M1 4 36 (min 8 8))) (kInvS (dt_State_begin 9 _ _ _ rfl) kst_X_copyRow rfl) kl_State_33 md_X_copyRow rfl rfl (c_X_copyRow hS ⟨(sc_4 hS), by decide⟩ ⟨(sc_36 hS), by decide⟩ M1) ?_
  refine s_letM (fun M2 => ?_)
  refine s_aload_n (dt_State_begin 10 _ _ _ rfl) rfl ?_
  refine s_aload_n (dt_State_begin 11 _ _ _ rfl) rfl ?_
  refine s_getI (c := 12) (j := 0) (dt_State_begin 12 _ _ _ rfl) (kf_State_38) (sc_2 hS) rfl ?_
  refine s_putI (c := 10) (j := 2) (dt_State_begin 13 _ _ _ rfl) kp_State_42 (sc_34 hS) ⟨rfl, rfl⟩ ?_
  refine s_letM (fun M3 => ?_)
  refine s_aload_n (dt_State_begin 14 _ _ _ rfl) rfl ?_
  refine s_iconst (dt_State_begin 15 _ _ _ rfl) rfl ?_
  refine s_aload_n (dt_State_begin 16 _ _ _ rfl) rfl ?_
  refine s_getI (c := 10) (j := 2) (dt_State_begin 17 _ _ _ rfl) (kf_State_42) (sc_34 hS) rfl ?_
  refine s_ishl (dt_State_begin 18 _ _ _ rfl) ?_
  refine s_iconst (dt_State_begin 19 _ _ _ rfl) rfl ?_
  refine s_isub (dt_State_begin 20 _ _ _ rfl) ?_
  refine s_putI (c := 10) (j := 3) (dt_State_begin 21 _ _ _ rfl) kp_State_43 (sc_34 hS) ⟨rfl, rfl⟩ ?_
  refine s_letM (fun M4 => ?_)
  refine s_aload_n (dt_State_begin 22 _ _ _ rfl) rfl ?_
  refine s_iconst (dt_State_begin 23 _ _ _ rfl) rfl ?_
  refine s_putI (c := 10) (j := 4) (dt_State_begin 24 _ _ _ rfl) kp_State_46 (sc_34 hS) ⟨rfl, rfl⟩ ?_
  refine s_letM (fun M5 => ?_)
  refine s_aload_n (dt_State_begin 25 _ _ _ rfl) rfl ?_
  refine s_aload_n (dt_State_begin 26 _ _ _ rfl) rfl ?_
  refine s_getI (c := 12) (j := 14) (dt_State_begin 27 _ _ _ rfl) (kf_State_49) (sc_2 hS) rfl ?_
  refine s_putI (c := 10) (j := 5) (dt_State_begin 28 _ _ _ rfl) kp_State_52 (sc_34 hS) ⟨rfl, rfl⟩ ?_
  refine s_letM (fun M6 => ?_)
  refine s_aload_n (dt_State_begin 29 _ _ _ rfl) rfl ?_
  refine s_iconst (dt_State_begin 30 _ _ _ rfl) rfl ?_
  refine s_putI (c := 10) (j := 6) (dt_State_begin 31 _ _ _ rfl) kp_State_55 (sc_34 hS) ⟨rfl, rfl⟩ ?_
  refine s_letM (fun M7 => ?_)
  refine s_aload_n (dt_State_begin 32 _ _ _ rfl) rfl ?_
  refine s_iconst (dt_State_begin 33 _ _ _ rfl) rfl ?_
  refine s_putI (c := 10) (j := 7) (dt_State_begin 34 _ _ _ rfl) kp_State_58 (sc_34 hS) ⟨rfl, rfl⟩ ?_
  refine s_letM (fun M8 => ?_)
  refine s_aload_n (dt_State_begin 35 _ _ _ rfl) rfl ?_
  refine s_iconst (dt_State_begin 36 _ _ _ rfl) rfl ?_
  refine s_putI (c := 10) (j := 8) (dt_State_begin 37 _ _ _ rfl) kp_State_61 (sc_34 hS) ⟨rfl, rfl⟩ ?_
  refine s_letM (fun M9 => ?_)
  exact s_vret (dt_State_begin 38 _ _ _ rfl) rfl rfl
theorem c_State_begin {S : KS} (hS : KExt 382 S)   (M : KM) : ∀ q, f_State_begin  M = some q → Ctr y_State_begin Y_State_begin [VR (some 34), VR (some 2)] S M (none) S (q) := fun q hq =>
  ctr_of md_State_begin (Nat.le_of_ble_eq_true rfl) ⟨Nat.le_refl _, Nat.le_refl _⟩ 0 hq rfl (fun _ G => sim_State_begin hS   M)
set_option maxRecDepth 100000 in
theorem sim_Town_become {G : Gam} {S : KS} (hS : KExt 382 S)   (M : KM) : Sim G Y_Town_become (f_Town_become  M) (kC 0 [some (VR (some 2)), some (VR (some 15))] [] S M) (fun (q : KM) => Sum.inr (none, S, q)) := by
  unfold f_Town_become
  refine s_aload_n (dt_Town_become 0 _ _ _ rfl) rfl ?_
  refine s_aload_n (dt_Town_become 1 _ _ _ rfl) rfl ?_
  refine s_getI (c := 12) (j := 0) (dt_Town_become 2 _ _ _ rfl) (kf_Town_46) (sc_15 hS) rfl ?_
  refine s_putI (c := 12) (j := 0) (dt_Town_become 3 _ _ _ rfl) kp_Town_46 (sc_2 hS) ⟨rfl, rfl⟩ ?_
  refine s_letM (fun M1 => ?_)
  refine s_aload_n (dt_Town_become 4 _ _ _ rfl) rfl ?_
  refine s_getR (c := 12) (j := 1) (o := (some 16)) (dt_Town_become 5 _ _ _ rfl) (kf_Town_9) (sc_15 hS) rfl rfl ?_
  refine s_aload_n (dt_Town_become 6 _ _ _ rfl) rfl ?_
  refine s_getR (c := 12) (j := 1) (o := (some 3)) (dt_Town_become 7 _ _ _ rfl) (kf_Town_9) (sc_2 hS) rfl rfl ?_
  refine s_inv (y := y_X_copyRow) (Y' := Y_X_copyRow) (as := [VR (some 16), VR (some 3)]) (r := none) (M' := (mcp M1 16 3 (min 8 8))) (kInvS (dt_Town_become 8 _ _ _ rfl) kst_X_copyRow rfl) kl_Town_74 md_X_copyRow rfl rfl (c_X_copyRow hS ⟨(sc_16 hS), by decide⟩ ⟨(sc_3 hS), by decide⟩ M1) ?_
  refine s_letM (fun M2 => ?_)
  refine s_aload_n (dt_Town_become 9 _ _ _ rfl) rfl ?_
  refine s_getR (c := 12) (j := 2) (o := (some 17)) (dt_Town_become 10 _ _ _ rfl) (kf_Town_15) (sc_15 hS) rfl rfl ?_
  refine s_aload_n (dt_Town_become 11 _ _ _ rfl) rfl ?_
  refine s_getR (c := 12) (j := 2) (o := (some 4)) (dt_Town_become 12 _ _ _ rfl) (kf_Town_15) (sc_2 hS) rfl rfl ?_
  refine s_inv (y := y_X_copyRow) (Y' := Y_X_copyRow) (as := [VR (some 17), VR (some 4)]) (r := none) (M' := (mcp M2 17 4 (min 8 8))) (kInvS (dt_Town_become 13 _ _ _ rfl) kst_X_copyRow rfl) kl_Town_74 md_X_copyRow rfl rfl (c_X_copyRow hS ⟨(sc_17 hS), by decide⟩ ⟨(sc_4 hS), by decide⟩ M2) ?_
  refine s_letM (fun M3 => ?_)
  refine s_aload_n (dt_Town_become 14 _ _ _ rfl) rfl ?_
  refine s_getR (c := 12) (j := 3) (o := (some 18)) (dt_Town_become 15 _ _ _ rfl) (kf_Town_18) (sc_15 hS) rfl rfl ?_
  refine s_aload_n (dt_Town_become 16 _ _ _ rfl) rfl ?_
  refine s_getR (c := 12) (j := 3) (o := (some 5)) (dt_Town_become 17 _ _ _ rfl) (kf_Town_18) (sc_2 hS) rfl rfl ?_
  refine s_inv (y := y_X_copyRow) (Y' := Y_X_copyRow) (as := [VR (some 18), VR (some 5)]) (r := none) (M' := (mcp M3 18 5 (min 8 8))) (kInvS (dt_Town_become 18 _ _ _ rfl) kst_X_copyRow rfl) kl_Town_74 md_X_copyRow rfl rfl (c_X_copyRow hS ⟨(sc_18 hS), by decide⟩ ⟨(sc_5 hS), by decide⟩ M3) ?_
  refine s_letM (fun M4 => ?_)
  refine s_aload_n (dt_Town_become 19 _ _ _ rfl) rfl ?_
  refine s_getR (c := 12) (j := 4) (o := (some 19)) (dt_Town_become 20 _ _ _ rfl) (kf_Town_21) (sc_15 hS) rfl rfl ?_
  refine s_aload_n (dt_Town_become 21 _ _ _ rfl) rfl ?_
  refine s_getR (c := 12) (j := 4) (o := (some 6)) (dt_Town_become 22 _ _ _ rfl) (kf_Town_21) (sc_2 hS) rfl rfl ?_
  refine s_inv (y := y_X_copyRow) (Y' := Y_X_copyRow) (as := [VR (some 19), VR (some 6)]) (r := none) (M' := (mcp M4 19 6 (min 8 8))) (kInvS (dt_Town_become 23 _ _ _ rfl) kst_X_copyRow rfl) kl_Town_74 md_X_copyRow rfl rfl (c_X_copyRow hS ⟨(sc_19 hS), by decide⟩ ⟨(sc_6 hS), by decide⟩ M4) ?_
  refine s_letM (fun M5 => ?_)
  refine s_aload_n (dt_Town_become 24 _ _ _ rfl) rfl ?_
  refine s_aload_n (dt_Town_become 25 _ _ _ rfl) rfl ?_
  refine s_getI (c := 12) (j := 5) (dt_Town_become 26 _ _ _ rfl) (kf_Town_50) (sc_15 hS) rfl ?_
  refine s_putI (c := 12) (j := 5) (dt_Town_become 27 _ _ _ rfl) kp_Town_50 (sc_2 hS) ⟨rfl, rfl⟩ ?_
  refine s_letM (fun M6 => ?_)
  refine s_aload_n (dt_Town_become 28 _ _ _ rfl) rfl ?_
  refine s_getR (c := 12) (j := 6) (o := (some 20)) (dt_Town_become 29 _ _ _ rfl) (kf_Town_24) (sc_15 hS) rfl rfl ?_
  refine s_aload_n (dt_Town_become 30 _ _ _ rfl) rfl ?_
  refine s_getR (c := 12) (j := 6) (o := (some 7)) (dt_Town_become 31 _ _ _ rfl) (kf_Town_24) (sc_2 hS) rfl rfl ?_
  refine s_inv (y := y_X_copyRow) (Y' := Y_X_copyRow) (as := [VR (some 20), VR (some 7)]) (r := none) (M' := (mcp M6 20 7 (min 20 20))) (kInvS (dt_Town_become 32 _ _ _ rfl) kst_X_copyRow rfl) kl_Town_74 md_X_copyRow rfl rfl (c_X_copyRow hS ⟨(sc_20 hS), by decide⟩ ⟨(sc_7 hS), by decide⟩ M6) ?_
  refine s_letM (fun M7 => ?_)
  refine s_aload_n (dt_Town_become 33 _ _ _ rfl) rfl ?_
  refine s_getR (c := 12) (j := 7) (o := (some 21)) (dt_Town_become 34 _ _ _ rfl) (kf_Town_27) (sc_15 hS) rfl rfl ?_
  refine s_aload_n (dt_Town_become 35 _ _ _ rfl) rfl ?_
  refine s_getR (c := 12) (j := 7) (o := (some 8)) (dt_Town_become 36 _ _ _ rfl) (kf_Town_27) (sc_2 hS) rfl rfl ?_
  refine s_inv (y := y_X_copyRow) (Y' := Y_X_copyRow) (as := [VR (some 21), VR (some 8)]) (r := none) (M' := (mcp M7 21 8 (min 20 20))) (kInvS (dt_Town_become 37 _ _ _ rfl) kst_X_copyRow rfl) kl_Town_74 md_X_copyRow rfl rfl (c_X_copyRow hS ⟨(sc_21 hS), by decide⟩ ⟨(sc_8 hS), by decide⟩ M7) ?_
  refine s_letM (fun M8 => ?_)
  refine s_aload_n (dt_Town_become 38 _ _ _ rfl) rfl ?_
  refine s_getR (c := 12) (j := 8) (o := (some 22)) (dt_Town_become 39 _ _ _ rfl) (kf_Town_30) (sc_15 hS) rfl rfl ?_
  refine s_aload_n (dt_Town_become 40 _ _ _ rfl) rfl ?_
  refine s_getR (c := 12) (j := 8) (o := (some 9)) (dt_Town_become 41 _ _ _ rfl) (kf_Town_30) (sc_2 hS) rfl rfl ?_
  refine s_inv (y := y_X_copyRow) (Y' := Y_X_copyRow) (as := [VR (some 22), VR (some 9)]) (r := none) (M' := (mcp M8 22 9 (min 20 20))) (kInvS (dt_Town_become 42 _ _ _ rfl) kst_X_copyRow rfl) kl_Town_74 md_X_copyRow rfl rfl (c_X_copyRow hS ⟨(sc_22 hS), by decide⟩ ⟨(sc_9 hS), by decide⟩ M8) ?_
  refine s_letM (fun M9 => ?_)
  refine s_aload_n (dt_Town_become 43 _ _ _ rfl) rfl ?_
  refine s_aload_n (dt_Town_become 44 _ _ _ rfl) rfl ?_
  refine s_getI (c := 12) (j := 9) (dt_Town_become 45 _ _ _ rfl) (kf_Town_53) (sc_15 hS) rfl ?_
  refine s_putI (c := 12) (j := 9) (dt_Town_become 46 _ _ _ rfl) kp_Town_53 (sc_2 hS) ⟨rfl, rfl⟩ ?_
  refine s_letM (fun M10 => ?_)
  refine s_aload_n (dt_Town_become 47 _ _ _ rfl) rfl ?_
  refine s_getR (c := 12) (j := 10) (o := (some 23)) (dt_Town_become 48 _ _ _ rfl) (kf_Town_33) (sc_15 hS) rfl rfl ?_
  refine s_aload_n (dt_Town_become 49 _ _ _ rfl) rfl ?_
  refine s_getR (c := 12) (j := 10) (o := (some 10)) (dt_Town_become 50 _ _ _ rfl) (kf_Town_33) (sc_2 hS) rfl rfl ?_
  refine s_inv (y := y_X_copyRow) (Y' := Y_X_copyRow) (as := [VR (some 23), VR (some 10)]) (r := none) (M' := (mcp M10 23 10 (min 6 6))) (kInvS (dt_Town_become 51 _ _ _ rfl) kst_X_copyRow rfl) kl_Town_74 md_X_copyRow rfl rfl (c_X_copyRow hS ⟨(sc_23 hS), by decide⟩ ⟨(sc_10 hS), by decide⟩ M10) ?_
  refine s_letM (fun M11 => ?_)
  refine s_aload_n (dt_Town_become 52 _ _ _ rfl) rfl ?_
  refine s_aload_n (dt_Town_become 53 _ _ _ rfl) rfl ?_
  refine s_getI (c := 12) (j := 11) (dt_Town_become 54 _ _ _ rfl) (kf_Town_56) (sc_15 hS) rfl ?_
  refine s_putI (c := 12) (j := 11) (dt_Town_become 55 _ _ _ rfl) kp_Town_56 (sc_2 hS) ⟨rfl, rfl⟩ ?_
  refine s_letM (fun M12 => ?_)
  refine s_aload_n (dt_Town_become 56 _ _ _ rfl) rfl ?_
  refine s_aload_n (dt_Town_become 57 _ _ _ rfl) rfl ?_
  refine s_getI (c := 12) (j := 12) (dt_Town_become 58 _ _ _ rfl) (kf_Town_59) (sc_15 hS) rfl ?_
  refine s_putI (c := 12) (j := 12) (dt_Town_become 59 _ _ _ rfl) kp_Town_59 (sc_2 hS) ⟨rfl, rfl⟩ ?_
  refine s_letM (fun M13 => ?_)
  refine s_aload_n (dt_Town_become 60 _ _ _ rfl) rfl ?_
  refine s_aload_n (dt_Town_become 61 _ _ _ rfl) rfl ?_
  refine s_getI (c := 12) (j := 13) (dt_Town_become 62 _ _ _ rfl) (kf_Town_62) (sc_15 hS) rfl ?_
  refine s_putI (c := 12) (j := 13) (dt_Town_become 63 _ _ _ rfl) kp_Town_62 (sc_2 hS) ⟨rfl, rfl⟩ ?_
  refine s_letM (fun M14 => ?_)
  refine s_aload_n (dt_Town_become 64 _ _ _ rfl) rfl ?_
  refine s_aload_n (dt_Town_become 65 _ _ _ rfl) rfl ?_
  refine s_getI (c := 12) (j := 14) (dt_Town_become 66 _ _ _ rfl) (kf_Town_65) (sc_15 hS) rfl ?_
  refine s_putI (c := 12) (j := 14) (dt_Town_become 67 _ _ _ rfl) kp_Town_65 (sc_2 hS) ⟨rfl, rfl⟩ ?_
  refine s_letM (fun M15 => ?_)
  refine s_aload_n (dt_Town_become 68 _ _ _ rfl) rfl ?_
  refine s_aload_n (dt_Town_become 69 _ _ _ rfl) rfl ?_
  refine s_getI (c := 12) (j := 15) (dt_Town_become 70 _ _ _ rfl) (kf_Town_68) (sc_15 hS) rfl ?_
  refine s_putI (c := 12) (j := 15) (dt_Town_become 71 _ _ _ rfl) kp_Town_68 (sc_2 hS) ⟨rfl, rfl⟩ ?_
  refine s_letM (fun M16 => ?_)
  refine s_aload_n (dt_Town_become 72 _ _ _ rfl) rfl ?_
  refine s_getR (c := 12) (j := 16) (o := (some 11)) (dt_Town_become 73 _ _ _ rfl) (kf_Town_39) (sc_2 hS) rfl rfl ?_
  refine s_aload_n (dt_Town_become 74 _ _ _ rfl) rfl ?_
  refine s_getR (c := 12) (j := 16) (o := (some 24)) (dt_Town_become 75 _ _ _ rfl) (kf_Town_39) (sc_15 hS) rfl rfl ?_
  refine s_getI (c := 4) (j := 1) (dt_Town_become 76 _ _ _ rfl) (kf_Town_71) (sc_24 hS) rfl ?_
  refine s_putI (c := 4) (j := 1) (dt_Town_become 77 _ _ _ rfl) kp_Town_71 (sc_11 hS) ⟨rfl, rfl⟩ ?_
  refine s_letM (fun M17 => ?_)
  refine s_aload_n (dt_Town_become 78 _ _ _ rfl) rfl ?_
  refine s_getR (c := 12) (j := 16) (o := (some 24)) (dt_Town_become 79 _ _ _ rfl) (kf_Town_39) (sc_15 hS) rfl rfl ?_
  refine s_getR (c := 4) (j := 0) (o := (some 25)) (dt_Town_become 80 _ _ _ rfl) (kf_Town_78) (sc_24 hS) rfl rfl ?_
  refine s_aload_n (dt_Town_become 81 _ _ _ rfl) rfl ?_
  refine s_getR (c := 12) (j := 16) (o := (some 11)) (dt_Town_become 82 _ _ _ rfl) (kf_Town_39) (sc_2 hS) rfl rfl ?_
  refine s_getR (c := 4) (j := 0) (o := (some 12)) (dt_Town_become 83 _ _ _ rfl) (kf_Town_78) (sc_11 hS) rfl rfl ?_
  refine s_inv (y := y_X_copyRow) (Y' := Y_X_copyRow) (as := [VR (some 25), VR (some 12)]) (r := none) (M' := (mcp M17 25 12 (min 1600 1600))) (kInvS (dt_Town_become 84 _ _ _ rfl) kst_X_copyRow rfl) kl_Town_74 md_X_copyRow rfl rfl (c_X_copyRow hS ⟨(sc_25 hS), by decide⟩ ⟨(sc_12 hS), by decide⟩ M17) ?_
  refine s_letM (fun M18 => ?_)
  exact s_vret (dt_Town_become 85 _ _ _ rfl) rfl rfl
theorem c_Town_become {S : KS} (hS : KExt 382 S)   (M : KM) : ∀ q, f_Town_become  M = some q → Ctr y_Town_become Y_Town_become [VR (some 2), VR (some 15)] S M (none) S (q) := fun q hq =>
  ctr_of md_Town_become (Nat.le_of_ble_eq_true rfl) ⟨Nat.le_refl _, Nat.le_refl _⟩ 0 hq rfl (fun _ G => sim_Town_become hS   M)
