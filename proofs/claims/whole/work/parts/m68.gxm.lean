set_option maxRecDepth 100000 in
theorem sim_M_year {G : Gam} {S : KS} (hS : KExt 435 S)   (M : KM) : Sim G Y_M_year (f_M_year  M) (kC 0 [some (VR (some 382)), none, none] [] S M) (fun (q : Int × KM) => Sum.inr (some (VI q.1), S, q.2)) := by
  unfold f_M_year
  refine s_aload_n (dt_M_year 0 _ _ _ rfl) rfl ?_
  refine s_getR (c := 1) (j := 46) (o := (some 411)) (dt_M_year 1 _ _ _ rfl) (kf_M_101) (sc_382 hS) rfl rfl ?_
  refine s_bipush (dt_M_year 2 _ _ _ rfl) rfl ?_
  refine s_iald (N := 171) (dt_M_year 3 _ _ _ rfl) (sc_411 hS) rfl ?_
  refine s_sipush (dt_M_year 4 _ _ _ rfl) rfl ?_
  refine s_if_icmp_ne (tgt := 15) (dt_M_year 5 _ _ _ rfl) rfl ?_ ?_
  · refine s_iconst (dt_M_year 6 _ _ _ rfl) rfl ?_
    exact s_iret (dt_M_year 7 _ _ _ rfl) rfl rfl
  · refine s_aload_n (dt_M_year 8 _ _ _ rfl) rfl ?_
    refine s_callO (y := y_M_keepAct) (Y' := Y_M_keepAct) (as := [VR (some 382)]) (r := fun q => none) (M' := fun q => q) (kInvV (dt_M_year 9 _ _ _ rfl) kin_M_keepAct 1 rfl (sc_382 hS) kse_M_keepAct rfl) kl_M_438 md_M_keepAct rfl rfl (fun q hq => c_M_keepAct hS M q hq) (fun q1 => ?_)
    refine s_aload_n (dt_M_year 10 _ _ _ rfl) rfl ?_
    refine s_getR (c := 1) (j := 46) (o := (some 411)) (dt_M_year 11 _ _ _ rfl) (kf_M_101) (sc_382 hS) rfl rfl ?_
    refine s_bipush (dt_M_year 12 _ _ _ rfl) rfl ?_
    refine s_dup2 (dt_M_year 13 _ _ _ rfl) rfl rfl ?_
    refine s_iald (N := 171) (dt_M_year 14 _ _ _ rfl) (sc_411 hS) rfl ?_
    refine s_iconst (dt_M_year 15 _ _ _ rfl) rfl ?_
    refine s_iadd (dt_M_year 16 _ _ _ rfl) ?_
    refine s_iast (N := 171) (dt_M_year 17 _ _ _ rfl) (sc_411 hS) rfl ?_
    refine s_letM (fun M2 => ?_)
    refine s_iconst (dt_M_year 18 _ _ _ rfl) rfl ?_
    refine s_istore_n (dt_M_year 19 _ _ _ rfl) rfl ?_
    refine s_bd (κ := (fun (e8 : KM) => kC 86 [some (VR (some 382)), none, none] [] S e8)) (s_mask [true, true, false] (s_while (c := fun s3 => kC 32 [some (VR (some 382)), some (VI s3.1), none] [] S s3.2) (fun s3 => ?_) ((0 : Int), M2))) ?_
    · refine s_iload_n (dt_M_year 20 _ _ _ rfl) rfl ?_
      refine s_aload_n (dt_M_year 21 _ _ _ rfl) rfl ?_
      refine s_callO (y := y_M_many) (Y' := Y_M_many) (as := [VR (some 382)]) (r := fun q => some (VI q)) (M' := fun q => s3.2) (kInvV (dt_M_year 22 _ _ _ rfl) kin_M_many 1 rfl (sc_382 hS) kse_M_many rfl) kl_M_385 md_M_many rfl rfl (fun q hq => c_M_many hS s3.2 q hq) (fun q4 => ?_)
      refine s_if_icmp_ge (tgt := 86) (dt_M_year 23 _ _ _ rfl) rfl ?_ ?_
      · refine s_aload_n (dt_M_year 24 _ _ _ rfl) rfl ?_
        refine s_iload_n (dt_M_year 25 _ _ _ rfl) rfl ?_
        refine s_callO (y := y_M_isAlive) (Y' := Y_M_isAlive) (as := [VR (some 382), VI s3.1]) (r := fun q => some (VI q)) (M' := fun q => s3.2) (kInvV (dt_M_year 26 _ _ _ rfl) kin_M_isAlive 1 rfl (sc_382 hS) kse_M_isAlive rfl) kl_M_404 md_M_isAlive rfl rfl (fun q hq => c_M_isAlive hS s3.1 s3.2 q hq) (fun q5 => ?_)
        refine s_bd (κ := fun t7 => kC 80 [some (VR (some 382)), some (VI s3.1), none] [] S t7) ?_ (fun t7 => ?_)
        · refine s_if_eq (tgt := 80) (dt_M_year 27 _ _ _ rfl) rfl ?_ ?_
          · exact s_mask [true, true, false] (s_ret0 rfl)
          · refine s_aload_n (dt_M_year 28 _ _ _ rfl) rfl ?_
            refine s_getR (c := 1) (j := 46) (o := (some 411)) (dt_M_year 29 _ _ _ rfl) (kf_M_101) (sc_382 hS) rfl rfl ?_
            refine s_iconst (dt_M_year 30 _ _ _ rfl) rfl ?_
            refine s_iload_n (dt_M_year 31 _ _ _ rfl) rfl ?_
            refine s_iadd (dt_M_year 32 _ _ _ rfl) ?_
            refine s_iald (N := 171) (dt_M_year 33 _ _ _ rfl) (sc_411 hS) rfl ?_
            refine s_aload_n (dt_M_year 34 _ _ _ rfl) rfl ?_
            refine s_getR (c := 1) (j := 17) (o := (some 391)) (dt_M_year 35 _ _ _ rfl) (kf_M_39) (sc_382 hS) rfl rfl ?_
            refine s_aload_n (dt_M_year 36 _ _ _ rfl) rfl ?_
            refine s_getI (c := 1) (j := 37) (dt_M_year 37 _ _ _ rfl) (kf_M_288) (sc_382 hS) rfl ?_
            refine s_iald (N := 2) (dt_M_year 38 _ _ _ rfl) (sc_391 hS) rfl ?_
            refine s_if_icmp_ge (tgt := 80) (dt_M_year 39 _ _ _ rfl) rfl ?_ ?_
            · refine s_aload_n (dt_M_year 40 _ _ _ rfl) rfl ?_
              refine s_getR (c := 1) (j := 46) (o := (some 411)) (dt_M_year 41 _ _ _ rfl) (kf_M_101) (sc_382 hS) rfl rfl ?_
              refine s_iconst (dt_M_year 42 _ _ _ rfl) rfl ?_
              refine s_iload_n (dt_M_year 43 _ _ _ rfl) rfl ?_
              refine s_iadd (dt_M_year 44 _ _ _ rfl) ?_
              refine s_dup2 (dt_M_year 45 _ _ _ rfl) rfl rfl ?_
              refine s_iald (N := 171) (dt_M_year 46 _ _ _ rfl) (sc_411 hS) rfl ?_
              refine s_iconst (dt_M_year 47 _ _ _ rfl) rfl ?_
              refine s_iadd (dt_M_year 48 _ _ _ rfl) ?_
              refine s_iast (N := 171) (dt_M_year 49 _ _ _ rfl) (sc_411 hS) rfl ?_
              refine s_letM (fun M6 => ?_)
              exact s_mask [true, true, false] (s_ret0 rfl)
            · exact s_mask [true, true, false] (s_ret0 rfl)
        refine s_iinc (dt_M_year 50 _ _ _ rfl) rfl rfl ?_
        refine s_goto (tgt := 32) (dt_M_year 51 _ _ _ rfl) rfl ?_
        exact s_mask [true, true, false] (s_ret0 rfl)
      · exact s_mask [true, false, false] (s_ret0 rfl)
    intro e8
    refine s_iconst (dt_M_year 52 _ _ _ rfl) rfl ?_
    refine s_istore_n (dt_M_year 53 _ _ _ rfl) rfl ?_
    refine s_bd (κ := (fun (e12 : KM) => kC 154 [some (VR (some 382)), none, none] [] S e12)) (s_mask [true, true, false] (s_while (c := fun s9 => kC 88 [some (VR (some 382)), some (VI s9.1), none] [] S s9.2) (fun s9 => ?_) ((0 : Int), e8))) ?_
    · refine s_iload_n (dt_M_year 54 _ _ _ rfl) rfl ?_
      refine s_aload_n (dt_M_year 55 _ _ _ rfl) rfl ?_
      refine s_getR (c := 1) (j := 46) (o := (some 411)) (dt_M_year 56 _ _ _ rfl) (kf_M_101) (sc_382 hS) rfl rfl ?_
      refine s_bipush (dt_M_year 57 _ _ _ rfl) rfl ?_
      refine s_iald (N := 171) (dt_M_year 58 _ _ _ rfl) (sc_411 hS) rfl ?_
      refine s_if_icmp_ge (tgt := 154) (dt_M_year 59 _ _ _ rfl) rfl ?_ ?_
      · refine s_aload_n (dt_M_year 60 _ _ _ rfl) rfl ?_
        refine s_getR (c := 1) (j := 46) (o := (some 411)) (dt_M_year 61 _ _ _ rfl) (kf_M_101) (sc_382 hS) rfl rfl ?_
        refine s_bipush (dt_M_year 62 _ _ _ rfl) rfl ?_
        refine s_iconst (dt_M_year 63 _ _ _ rfl) rfl ?_
        refine s_iload_n (dt_M_year 64 _ _ _ rfl) rfl ?_
        refine s_imul (dt_M_year 65 _ _ _ rfl) ?_
        refine s_iadd (dt_M_year 66 _ _ _ rfl) ?_
        refine s_iconst (dt_M_year 67 _ _ _ rfl) rfl ?_
        refine s_iadd (dt_M_year 68 _ _ _ rfl) ?_
        refine s_iald (N := 171) (dt_M_year 69 _ _ _ rfl) (sc_411 hS) rfl ?_
        refine s_bd (κ := fun t11 => kC 148 [some (VR (some 382)), some (VI s9.1), none] [] S t11) ?_ (fun t11 => ?_)
        · refine s_if_ne (tgt := 148) (dt_M_year 70 _ _ _ rfl) rfl ?_ ?_
          · refine s_aload_n (dt_M_year 71 _ _ _ rfl) rfl ?_
            refine s_getR (c := 1) (j := 46) (o := (some 411)) (dt_M_year 72 _ _ _ rfl) (kf_M_101) (sc_382 hS) rfl rfl ?_
            refine s_bipush (dt_M_year 73 _ _ _ rfl) rfl ?_
            refine s_iconst (dt_M_year 74 _ _ _ rfl) rfl ?_
            refine s_iload_n (dt_M_year 75 _ _ _ rfl) rfl ?_
            refine s_imul (dt_M_year 76 _ _ _ rfl) ?_
            refine s_iadd (dt_M_year 77 _ _ _ rfl) ?_
            refine s_iconst (dt_M_year 78 _ _ _ rfl) rfl ?_
            refine s_iadd (dt_M_year 79 _ _ _ rfl) ?_
            refine s_iald (N := 171) (dt_M_year 80 _ _ _ rfl) (sc_411 hS) rfl ?_
            refine s_aload_n (dt_M_year 81 _ _ _ rfl) rfl ?_
            refine s_getR (c := 1) (j := 46) (o := (some 411)) (dt_M_year 82 _ _ _ rfl) (kf_M_101) (sc_382 hS) rfl rfl ?_
            refine s_bipush (dt_M_year 83 _ _ _ rfl) rfl ?_
            refine s_iald (N := 171) (dt_M_year 84 _ _ _ rfl) (sc_411 hS) rfl ?_
            refine s_if_icmp_ne (tgt := 148) (dt_M_year 85 _ _ _ rfl) rfl ?_ ?_
            · refine s_aload_n (dt_M_year 86 _ _ _ rfl) rfl ?_
              refine s_bipush (dt_M_year 87 _ _ _ rfl) rfl ?_
              refine s_iconst (dt_M_year 88 _ _ _ rfl) rfl ?_
              refine s_iload_n (dt_M_year 89 _ _ _ rfl) rfl ?_
              refine s_imul (dt_M_year 90 _ _ _ rfl) ?_
              refine s_iadd (dt_M_year 91 _ _ _ rfl) ?_
              refine s_callO (y := y_M_comeBack) (Y' := Y_M_comeBack) (as := [VR (some 382), VI (w32 ((21 : Int) + (w32 ((5 : Int) * s9.1))))]) (r := fun q => none) (M' := fun q => q) (kInvV (dt_M_year 92 _ _ _ rfl) kin_M_comeBack 1 rfl (sc_382 hS) kse_M_comeBack rfl) kl_M_445 md_M_comeBack rfl rfl (fun q hq => c_M_comeBack hS (w32 ((21 : Int) + (w32 ((5 : Int) * s9.1)))) s9.2 q hq) (fun q10 => ?_)
              exact s_mask [true, true, false] (s_ret0 rfl)
            · exact s_mask [true, true, false] (s_ret0 rfl)
          · exact s_mask [true, true, false] (s_ret0 rfl)
        refine s_iinc (dt_M_year 93 _ _ _ rfl) rfl rfl ?_
        refine s_goto (tgt := 88) (dt_M_year 94 _ _ _ rfl) rfl ?_
        exact s_mask [true, true, false] (s_ret0 rfl)
      · exact s_mask [true, false, false] (s_ret0 rfl)
    intro e12
    refine s_iconst (dt_M_year 95 _ _ _ rfl) rfl ?_
    refine s_istore_n (dt_M_year 96 _ _ _ rfl) rfl ?_
    refine s_iconst (dt_M_year 97 _ _ _ rfl) rfl ?_
    refine s_istore_n (dt_M_year 98 _ _ _ rfl) rfl ?_
    refine s_bd (κ := (fun (e20 : Int × KM) => kC 252 [none, some (VI e20.1), none] [] S e20.2)) (s_mask [true, true, true] (s_while (c := fun s13 => kC 158 [some (VR (some 382)), some (VI s13.1), some (VI s13.2.1)] [] S s13.2.2) (fun s13 => ?_) ((0 : Int), (0 : Int), e12))) ?_
    · refine s_iload_n (dt_M_year 99 _ _ _ rfl) rfl ?_
      refine s_aload_n (dt_M_year 100 _ _ _ rfl) rfl ?_
      refine s_callO (y := y_M_many) (Y' := Y_M_many) (as := [VR (some 382)]) (r := fun q => some (VI q)) (M' := fun q => s13.2.2) (kInvV (dt_M_year 101 _ _ _ rfl) kin_M_many 1 rfl (sc_382 hS) kse_M_many rfl) kl_M_385 md_M_many rfl rfl (fun q hq => c_M_many hS s13.2.2 q hq) (fun q14 => ?_)
      refine s_if_icmp_ge (tgt := 252) (dt_M_year 102 _ _ _ rfl) rfl ?_ ?_
      · refine s_aload_n (dt_M_year 103 _ _ _ rfl) rfl ?_
        refine s_iload_n (dt_M_year 104 _ _ _ rfl) rfl ?_
        refine s_callO (y := y_M_isAlive) (Y' := Y_M_isAlive) (as := [VR (some 382), VI s13.2.1]) (r := fun q => some (VI q)) (M' := fun q => s13.2.2) (kInvV (dt_M_year 105 _ _ _ rfl) kin_M_isAlive 1 rfl (sc_382 hS) kse_M_isAlive rfl) kl_M_404 md_M_isAlive rfl rfl (fun q hq => c_M_isAlive hS s13.2.1 s13.2.2 q hq) (fun q15 => ?_)
        refine s_bd (κ := fun t19 => kC 246 [some (VR (some 382)), some (VI t19.1), some (VI s13.2.1)] [] S t19.2) ?_ (fun t19 => ?_)
        · refine s_if_ne (tgt := 177) (dt_M_year 106 _ _ _ rfl) rfl ?_ ?_
          · refine s_goto (tgt := 246) (dt_M_year 107 _ _ _ rfl) rfl ?_
            exact s_mask [true, true, true] (s_ret0 rfl)
          · refine s_aload_n (dt_M_year 108 _ _ _ rfl) rfl ?_
            refine s_getR (c := 1) (j := 46) (o := (some 411)) (dt_M_year 109 _ _ _ rfl) (kf_M_101) (sc_382 hS) rfl rfl ?_
            refine s_bipush (dt_M_year 110 _ _ _ rfl) rfl ?_
            refine s_sipush (dt_M_year 111 _ _ _ rfl) rfl ?_
            refine s_aload_n (dt_M_year 112 _ _ _ rfl) rfl ?_
            refine s_getR (c := 1) (j := 46) (o := (some 411)) (dt_M_year 113 _ _ _ rfl) (kf_M_101) (sc_382 hS) rfl rfl ?_
            refine s_bipush (dt_M_year 114 _ _ _ rfl) rfl ?_
            refine s_iald (N := 171) (dt_M_year 115 _ _ _ rfl) (sc_411 hS) rfl ?_
            refine s_imul (dt_M_year 116 _ _ _ rfl) ?_
            refine s_bipush (dt_M_year 117 _ _ _ rfl) rfl ?_
            refine s_iadd (dt_M_year 118 _ _ _ rfl) ?_
            refine s_sipush (dt_M_year 119 _ _ _ rfl) rfl ?_
            refine s_irem (dt_M_year 120 _ _ _ rfl) ?_
            refine s_iast (N := 171) (dt_M_year 121 _ _ _ rfl) (sc_411 hS) rfl ?_
            refine s_letM (fun M16 => ?_)
            refine s_aload_n (dt_M_year 122 _ _ _ rfl) rfl ?_
            refine s_getR (c := 1) (j := 46) (o := (some 411)) (dt_M_year 123 _ _ _ rfl) (kf_M_101) (sc_382 hS) rfl rfl ?_
            refine s_bipush (dt_M_year 124 _ _ _ rfl) rfl ?_
            refine s_iald (N := 171) (dt_M_year 125 _ _ _ rfl) (sc_411 hS) rfl ?_
            refine s_bipush (dt_M_year 126 _ _ _ rfl) rfl ?_
            refine s_idiv (dt_M_year 127 _ _ _ rfl) ?_
            refine s_aload_n (dt_M_year 128 _ _ _ rfl) rfl ?_
            refine s_aload_n (dt_M_year 129 _ _ _ rfl) rfl ?_
            refine s_getR (c := 1) (j := 46) (o := (some 411)) (dt_M_year 130 _ _ _ rfl) (kf_M_101) (sc_382 hS) rfl rfl ?_
            refine s_iconst (dt_M_year 131 _ _ _ rfl) rfl ?_
            refine s_iload_n (dt_M_year 132 _ _ _ rfl) rfl ?_
            refine s_iadd (dt_M_year 133 _ _ _ rfl) ?_
            refine s_iald (N := 171) (dt_M_year 134 _ _ _ rfl) (sc_411 hS) rfl ?_
            refine s_callO (y := y_M_oddsOf) (Y' := Y_M_oddsOf) (as := [VR (some 382), VI (M16 411 (w32 ((0 : Int) + s13.2.1)).toNat)]) (r := fun q => some (VI q.1)) (M' := fun q => q.2) (kInvV (dt_M_year 135 _ _ _ rfl) kin_M_oddsOf 1 rfl (sc_382 hS) kse_M_oddsOf rfl) kl_M_425 md_M_oddsOf rfl rfl (fun q hq => c_M_oddsOf hS (M16 411 (w32 ((0 : Int) + s13.2.1)).toNat) M16 q hq) (fun q17 => ?_)
            refine s_if_icmp_lt (tgt := 230) (dt_M_year 136 _ _ _ rfl) rfl ?_ ?_
            · refine s_aload_n (dt_M_year 138 _ _ _ rfl) rfl ?_
              refine s_getR (c := 1) (j := 46) (o := (some 411)) (dt_M_year 139 _ _ _ rfl) (kf_M_101) (sc_382 hS) rfl rfl ?_
              refine s_bipush (dt_M_year 140 _ _ _ rfl) rfl ?_
              refine s_dup2 (dt_M_year 141 _ _ _ rfl) rfl rfl ?_
              refine s_iald (N := 171) (dt_M_year 142 _ _ _ rfl) (sc_411 hS) rfl ?_
              refine s_iconst (dt_M_year 143 _ _ _ rfl) rfl ?_
              refine s_iload_n (dt_M_year 144 _ _ _ rfl) rfl ?_
              refine s_ishl (dt_M_year 145 _ _ _ rfl) ?_
              refine s_isub (dt_M_year 146 _ _ _ rfl) ?_
              refine s_iast (N := 171) (dt_M_year 147 _ _ _ rfl) (sc_411 hS) rfl ?_
              refine s_letM (fun M18 => ?_)
              refine s_iinc (dt_M_year 148 _ _ _ rfl) rfl rfl ?_
              exact s_mask [true, true, true] (s_ret0 rfl)
            · refine s_goto (tgt := 246) (dt_M_year 137 _ _ _ rfl) rfl ?_
              exact s_mask [true, true, true] (s_ret0 rfl)
        refine s_iinc (dt_M_year 149 _ _ _ rfl) rfl rfl ?_
        refine s_goto (tgt := 158) (dt_M_year 150 _ _ _ rfl) rfl ?_
        exact s_mask [true, true, true] (s_ret0 rfl)
      · exact s_mask [false, true, false] (s_ret0 rfl)
    intro e20
    refine s_iload_n (dt_M_year 151 _ _ _ rfl) rfl ?_
    exact s_iret (dt_M_year 152 _ _ _ rfl) rfl rfl
theorem c_M_year {S : KS} (hS : KExt 435 S)   (M : KM) : ∀ q, f_M_year  M = some q → Ctr y_M_year Y_M_year [VR (some 382)] S M (some (VI q.1)) S (q.2) := fun q hq =>
  ctr_of md_M_year (Nat.le_of_ble_eq_true rfl) ⟨Nat.le_refl _, Nat.le_refl _⟩ 2 hq rfl (fun _ G => sim_M_year hS   M)
set_option maxRecDepth 100000 in
theorem sim_M_exchange {G : Gam} {S : KS} (hS : KExt 435 S)   (M : KM) : Sim G Y_M_exchange (f_M_exchange  M) (kC 0 [some (VR (some 382)), none, none] [] S M) (fun (q : KM) => Sum.inr (none, S, q)) := by
  unfold f_M_exchange
  refine s_iconst (dt_M_exchange 0 _ _ _ rfl) rfl ?_
  refine s_istore_n (dt_M_exchange 1 _ _ _ rfl) rfl ?_
  refine s_bd (κ := (fun (e5 : KM) => kC 59 [none, none, none] [] S e5)) (s_mask [true, true, false] (s_while (c := fun s1 => kC 2 [some (VR (some 382)), some (VI s1.1), none] [] S s1.2) (fun s1 => ?_) ((0 : Int), M))) ?_
  · refine s_iload_n (dt_M_exchange 2 _ _ _ rfl) rfl ?_
    refine s_sipush (dt_M_exchange 3 _ _ _ rfl) rfl ?_
    refine s_if_icmp_ge (tgt := 59) (dt_M_exchange 4 _ _ _ rfl) rfl ?_ ?_
    · refine s_aload_n (dt_M_exchange 5 _ _ _ rfl) rfl ?_
      refine s_getR (c := 1) (j := 47) (o := (some 412)) (dt_M_exchange 6 _ _ _ rfl) (kf_M_104) (sc_382 hS) rfl rfl ?_
      refine s_sipush (dt_M_exchange 7 _ _ _ rfl) rfl ?_
      refine s_aload_n (dt_M_exchange 8 _ _ _ rfl) rfl ?_
      refine s_getI (c := 1) (j := 48) (dt_M_exchange 9 _ _ _ rfl) (kf_M_392) (sc_382 hS) rfl ?_
      refine s_imul (dt_M_exchange 10 _ _ _ rfl) ?_
      refine s_iload_n (dt_M_exchange 11 _ _ _ rfl) rfl ?_
      refine s_iadd (dt_M_exchange 12 _ _ _ rfl) ?_
      refine s_iald (N := 7011) (dt_M_exchange 13 _ _ _ rfl) (sc_412 hS) rfl ?_
      refine s_letI (fun v2 => ?_)
      refine s_istore_n (dt_M_exchange 14 _ _ _ rfl) rfl ?_
      refine s_aload_n (dt_M_exchange 15 _ _ _ rfl) rfl ?_
      refine s_getR (c := 1) (j := 47) (o := (some 412)) (dt_M_exchange 16 _ _ _ rfl) (kf_M_104) (sc_382 hS) rfl rfl ?_
      refine s_sipush (dt_M_exchange 17 _ _ _ rfl) rfl ?_
      refine s_aload_n (dt_M_exchange 18 _ _ _ rfl) rfl ?_
      refine s_getI (c := 1) (j := 48) (dt_M_exchange 19 _ _ _ rfl) (kf_M_392) (sc_382 hS) rfl ?_
      refine s_imul (dt_M_exchange 20 _ _ _ rfl) ?_
      refine s_iload_n (dt_M_exchange 21 _ _ _ rfl) rfl ?_
      refine s_iadd (dt_M_exchange 22 _ _ _ rfl) ?_
      refine s_aload_n (dt_M_exchange 23 _ _ _ rfl) rfl ?_
      refine s_getR (c := 1) (j := 46) (o := (some 411)) (dt_M_exchange 24 _ _ _ rfl) (kf_M_101) (sc_382 hS) rfl rfl ?_
      refine s_iload_n (dt_M_exchange 25 _ _ _ rfl) rfl ?_
      refine s_iald (N := 171) (dt_M_exchange 26 _ _ _ rfl) (sc_411 hS) rfl ?_
      refine s_iast (N := 7011) (dt_M_exchange 27 _ _ _ rfl) (sc_412 hS) rfl ?_
      refine s_letM (fun M3 => ?_)
      refine s_aload_n (dt_M_exchange 28 _ _ _ rfl) rfl ?_
      refine s_getR (c := 1) (j := 46) (o := (some 411)) (dt_M_exchange 29 _ _ _ rfl) (kf_M_101) (sc_382 hS) rfl rfl ?_
      refine s_iload_n (dt_M_exchange 30 _ _ _ rfl) rfl ?_
      refine s_iload_n (dt_M_exchange 31 _ _ _ rfl) rfl ?_
      refine s_iast (N := 171) (dt_M_exchange 32 _ _ _ rfl) (sc_411 hS) rfl ?_
      refine s_letM (fun M4 => ?_)
      refine s_iinc (dt_M_exchange 33 _ _ _ rfl) rfl rfl ?_
      refine s_goto (tgt := 2) (dt_M_exchange 34 _ _ _ rfl) rfl ?_
      exact s_mask [true, true, false] (s_ret0 rfl)
    · exact s_mask [false, false, false] (s_ret0 rfl)
  intro e5
  exact s_vret (dt_M_exchange 35 _ _ _ rfl) rfl rfl
theorem c_M_exchange {S : KS} (hS : KExt 435 S)   (M : KM) : ∀ q, f_M_exchange  M = some q → Ctr y_M_exchange Y_M_exchange [VR (some 382)] S M (none) S (q) := fun q hq =>
  ctr_of md_M_exchange (Nat.le_of_ble_eq_true rfl) ⟨Nat.le_refl _, Nat.le_refl _⟩ 2 hq rfl (fun _ G => sim_M_exchange hS   M)
set_option maxRecDepth 100000 in
theorem sim_M_undo {G : Gam} {S : KS} (hS : KExt 435 S)   (M : KM) : Sim G Y_M_undo (f_M_undo  M) (kC 0 [some (VR (some 382))] [] S M) (fun (q : Int × KM) => Sum.inr (some (VI q.1), S, q.2)) := by
  unfold f_M_undo
  refine s_aload_n (dt_M_undo 0 _ _ _ rfl) rfl ?_
  refine s_getI (c := 1) (j := 48) (dt_M_undo 1 _ _ _ rfl) (kf_M_392) (sc_382 hS) rfl ?_
  refine s_if_ne (tgt := 9) (dt_M_undo 2 _ _ _ rfl) rfl ?_ ?_
  · refine s_iconst (dt_M_undo 3 _ _ _ rfl) rfl ?_
    exact s_zret01 (dt_M_undo 4 _ _ _ rfl) rfl rfl rfl
  · refine s_aload_n (dt_M_undo 5 _ _ _ rfl) rfl ?_
    refine s_dup (dt_M_undo 6 _ _ _ rfl) rfl ?_
    refine s_getI (c := 1) (j := 48) (dt_M_undo 7 _ _ _ rfl) (kf_M_392) (sc_382 hS) rfl ?_
    refine s_iconst (dt_M_undo 8 _ _ _ rfl) rfl ?_
    refine s_isub (dt_M_undo 9 _ _ _ rfl) ?_
    refine s_putI (c := 1) (j := 48) (dt_M_undo 10 _ _ _ rfl) kp_M_392 (sc_382 hS) ⟨rfl, rfl⟩ ?_
    refine s_letM (fun M1 => ?_)
    refine s_aload_n (dt_M_undo 11 _ _ _ rfl) rfl ?_
    refine s_dup (dt_M_undo 12 _ _ _ rfl) rfl ?_
    refine s_getI (c := 1) (j := 49) (dt_M_undo 13 _ _ _ rfl) (kf_M_395) (sc_382 hS) rfl ?_
    refine s_iconst (dt_M_undo 14 _ _ _ rfl) rfl ?_
    refine s_iadd (dt_M_undo 15 _ _ _ rfl) ?_
    refine s_putI (c := 1) (j := 49) (dt_M_undo 16 _ _ _ rfl) kp_M_395 (sc_382 hS) ⟨rfl, rfl⟩ ?_
    refine s_letM (fun M2 => ?_)
    refine s_aload_n (dt_M_undo 17 _ _ _ rfl) rfl ?_
    refine s_callO (y := y_M_exchange) (Y' := Y_M_exchange) (as := [VR (some 382)]) (r := fun q => none) (M' := fun q => q) (kInvV (dt_M_undo 18 _ _ _ rfl) kin_M_exchange 1 rfl (sc_382 hS) kse_M_exchange rfl) kl_M_448 md_M_exchange rfl rfl (fun q hq => c_M_exchange hS M2 q hq) (fun q3 => ?_)
    refine s_iconst (dt_M_undo 19 _ _ _ rfl) rfl ?_
    exact s_zret01 (dt_M_undo 20 _ _ _ rfl) rfl rfl rfl
theorem c_M_undo {S : KS} (hS : KExt 435 S)   (M : KM) : ∀ q, f_M_undo  M = some q → Ctr y_M_undo Y_M_undo [VR (some 382)] S M (some (VI q.1)) S (q.2) := fun q hq =>
  ctr_of md_M_undo (Nat.le_of_ble_eq_true rfl) ⟨Nat.le_refl _, Nat.le_refl _⟩ 0 hq rfl (fun _ G => sim_M_undo hS   M)
set_option maxRecDepth 100000 in
theorem sim_M_redo {G : Gam} {S : KS} (hS : KExt 435 S)   (M : KM) : Sim G Y_M_redo (f_M_redo  M) (kC 0 [some (VR (some 382))] [] S M) (fun (q : Int × KM) => Sum.inr (some (VI q.1), S, q.2)) := by
  unfold f_M_redo
  refine s_aload_n (dt_M_redo 0 _ _ _ rfl) rfl ?_
  refine s_getI (c := 1) (j := 49) (dt_M_redo 1 _ _ _ rfl) (kf_M_395) (sc_382 hS) rfl ?_
  refine s_if_ne (tgt := 9) (dt_M_redo 2 _ _ _ rfl) rfl ?_ ?_
  · refine s_iconst (dt_M_redo 3 _ _ _ rfl) rfl ?_
    exact s_zret01 (dt_M_redo 4 _ _ _ rfl) rfl rfl rfl
  · refine s_aload_n (dt_M_redo 5 _ _ _ rfl) rfl ?_
    refine s_callO (y := y_M_exchange) (Y' := Y_M_exchange) (as := [VR (some 382)]) (r := fun q => none) (M' := fun q => q) (kInvV (dt_M_redo 6 _ _ _ rfl) kin_M_exchange 1 rfl (sc_382 hS) kse_M_exchange rfl) kl_M_448 md_M_exchange rfl rfl (fun q hq => c_M_exchange hS M q hq) (fun q1 => ?_)
    refine s_aload_n (dt_M_redo 7 _ _ _ rfl) rfl ?_
    refine s_dup (dt_M_redo 8 _ _ _ rfl) rfl ?_
    refine s_getI (c := 1) (j := 48) (dt_M_redo 9 _ _ _ rfl) (kf_M_392) (sc_382 hS) rfl ?_
    refine s_iconst (dt_M_redo 10 _ _ _ rfl) rfl ?_
    refine s_iadd (dt_M_redo 11 _ _ _ rfl) ?_
    refine s_putI (c := 1) (j := 48) (dt_M_redo 12 _ _ _ rfl) kp_M_392 (sc_382 hS) ⟨rfl, rfl⟩ ?_
    refine s_letM (fun M2 => ?_)
    refine s_aload_n (dt_M_redo 13 _ _ _ rfl) rfl ?_
    refine s_dup (dt_M_redo 14 _ _ _ rfl) rfl ?_
    refine s_getI (c := 1) (j := 49) (dt_M_redo 15 _ _ _ rfl) (kf_M_395) (sc_382 hS) rfl ?_
    refine s_iconst (dt_M_redo 16 _ _ _ rfl) rfl ?_
    refine s_isub (dt_M_redo 17 _ _ _ rfl) ?_
    refine s_putI (c := 1) (j := 49) (dt_M_redo 18 _ _ _ rfl) kp_M_395 (sc_382 hS) ⟨rfl, rfl⟩ ?_
    refine s_letM (fun M3 => ?_)
    refine s_iconst (dt_M_redo 19 _ _ _ rfl) rfl ?_
    exact s_zret01 (dt_M_redo 20 _ _ _ rfl) rfl rfl rfl
theorem c_M_redo {S : KS} (hS : KExt 435 S)   (M : KM) : ∀ q, f_M_redo  M = some q → Ctr y_M_redo Y_M_redo [VR (some 382)] S M (some (VI q.1)) S (q.2) := fun q hq =>
  ctr_of md_M_redo (Nat.le_of_ble_eq_true rfl) ⟨Nat.le_refl _, Nat.le_refl _⟩ 0 hq rfl (fun _ G => sim_M_redo hS   M)
set_option maxRecDepth 100000 in
theorem sim_M_loan {G : Gam} {S : KS} (hS : KExt 435 S)  (a0 : Int) (a1 : Int) (M : KM) : Sim G Y_M_loan (f_M_loan a0 a1 M) (kC 0 [some (VR (some 382)), some (VI a0), some (VI a1)] [] S M) (fun (q : Int) => Sum.inr (some (VI q), S, M)) := by
  unfold f_M_loan
  refine s_iload_n (dt_M_loan 0 _ _ _ rfl) rfl ?_
  refine s_iconst (dt_M_loan 1 _ _ _ rfl) rfl ?_
  refine s_aload_n (dt_M_loan 2 _ _ _ rfl) rfl ?_
  refine s_getR (c := 1) (j := 46) (o := (some 411)) (dt_M_loan 3 _ _ _ rfl) (kf_M_101) (sc_382 hS) rfl rfl ?_
  refine s_bipush (dt_M_loan 4 _ _ _ rfl) rfl ?_
  refine s_iald (N := 171) (dt_M_loan 5 _ _ _ rfl) (sc_411 hS) rfl ?_
  refine s_iconst (dt_M_loan 6 _ _ _ rfl) rfl ?_
  refine s_isub (dt_M_loan 7 _ _ _ rfl) ?_
  refine s_callO (y := y_M_isIn) (Y' := Y_M_isIn) (as := [VI a0, VI (0 : Int), VI (w32 ((M 411 ((17 : Int)).toNat) - (1 : Int)))]) (r := fun q => some (VI q)) (M' := fun q => M) (kInvS (dt_M_loan 8 _ _ _ rfl) kst_M_isIn rfl) kl_M_388 md_M_isIn rfl rfl (fun q hq => c_M_isIn hS a0 (0 : Int) (w32 ((M 411 ((17 : Int)).toNat) - (1 : Int))) M q hq) (fun q1 => ?_)
  refine s_bd (κ := fun t3 => kC 43 [none, none, none] [VI t3] S M) ?_ (fun t3 => ?_)
  · refine s_if_eq (tgt := 42) (dt_M_loan 9 _ _ _ rfl) rfl ?_ ?_
    · refine s_iconst (dt_M_loan 26 _ _ _ rfl) rfl ?_
      exact s_mask [false, false, false] (s_ret0 rfl)
    · refine s_iload_n (dt_M_loan 10 _ _ _ rfl) rfl ?_
      refine s_iconst (dt_M_loan 11 _ _ _ rfl) rfl ?_
      refine s_iconst (dt_M_loan 12 _ _ _ rfl) rfl ?_
      refine s_callO (y := y_M_isIn) (Y' := Y_M_isIn) (as := [VI a1, VI (0 : Int), VI (4 : Int)]) (r := fun q => some (VI q)) (M' := fun q => M) (kInvS (dt_M_loan 13 _ _ _ rfl) kst_M_isIn rfl) kl_M_388 md_M_isIn rfl rfl (fun q hq => c_M_isIn hS a1 (0 : Int) (4 : Int) M q hq) (fun q2 => ?_)
      refine s_if_eq (tgt := 42) (dt_M_loan 14 _ _ _ rfl) rfl ?_ ?_
      · refine s_iconst (dt_M_loan 26 _ _ _ rfl) rfl ?_
        exact s_mask [false, false, false] (s_ret0 rfl)
      · refine s_aload_n (dt_M_loan 15 _ _ _ rfl) rfl ?_
        refine s_getR (c := 1) (j := 46) (o := (some 411)) (dt_M_loan 16 _ _ _ rfl) (kf_M_101) (sc_382 hS) rfl rfl ?_
        refine s_bipush (dt_M_loan 17 _ _ _ rfl) rfl ?_
        refine s_iconst (dt_M_loan 18 _ _ _ rfl) rfl ?_
        refine s_iload_n (dt_M_loan 19 _ _ _ rfl) rfl ?_
        refine s_imul (dt_M_loan 20 _ _ _ rfl) ?_
        refine s_iadd (dt_M_loan 21 _ _ _ rfl) ?_
        refine s_iload_n (dt_M_loan 22 _ _ _ rfl) rfl ?_
        refine s_iadd (dt_M_loan 23 _ _ _ rfl) ?_
        refine s_iald (N := 171) (dt_M_loan 24 _ _ _ rfl) (sc_411 hS) rfl ?_
        refine s_goto (tgt := 43) (dt_M_loan 25 _ _ _ rfl) rfl ?_
        exact s_mask [false, false, false] (s_ret0 rfl)
  exact s_iret (dt_M_loan 27 _ _ _ rfl) rfl rfl
theorem c_M_loan {S : KS} (hS : KExt 435 S)  (a0 : Int) (a1 : Int) (M : KM) : ∀ q, f_M_loan a0 a1 M = some q → Ctr y_M_loan Y_M_loan [VR (some 382), VI a0, VI a1] S M (some (VI q)) S (M) := fun q hq =>
  ctr_of md_M_loan (Nat.le_of_ble_eq_true rfl) ⟨Nat.le_refl _, Nat.le_refl _⟩ 0 hq rfl (fun _ G => sim_M_loan hS  a0 a1 M)
set_option maxRecDepth 100000 in
theorem sim_M_targets {G : Gam} {S : KS} (hS : KExt 435 S)   (M : KM) : Sim G Y_M_targets (f_M_targets  M) (kC 0 [some (VR (some 382)), none, none] [] S M) (fun (q : Int) => Sum.inr (some (VI q), S, M)) := by
  unfold f_M_targets
  refine s_iconst (dt_M_targets 0 _ _ _ rfl) rfl ?_
  refine s_istore_n (dt_M_targets 1 _ _ _ rfl) rfl ?_
  refine s_iconst (dt_M_targets 2 _ _ _ rfl) rfl ?_
  refine s_istore_n (dt_M_targets 3 _ _ _ rfl) rfl ?_
  refine s_bd (κ := (fun (e4 : Int) => kC 33 [none, some (VI e4), none] [] S M)) (s_mask [true, true, true] (s_while (c := fun s1 => kC 4 [some (VR (some 382)), some (VI s1.1), some (VI s1.2)] [] S M) (fun s1 => ?_) ((0 : Int), (0 : Int)))) ?_
  · refine s_iload_n (dt_M_targets 4 _ _ _ rfl) rfl ?_
    refine s_bipush (dt_M_targets 5 _ _ _ rfl) rfl ?_
    refine s_if_icmp_ge (tgt := 33) (dt_M_targets 6 _ _ _ rfl) rfl ?_ ?_
    · refine s_iload_n (dt_M_targets 7 _ _ _ rfl) rfl ?_
      refine s_aload_n (dt_M_targets 8 _ _ _ rfl) rfl ?_
      refine s_getR (c := 1) (j := 51) (o := (some 414)) (dt_M_targets 9 _ _ _ rfl) (kf_M_110) (sc_382 hS) rfl rfl ?_
      refine s_iload_n (dt_M_targets 10 _ _ _ rfl) rfl ?_
      refine s_iald (N := 8) (dt_M_targets 11 _ _ _ rfl) (sc_414 hS) rfl ?_
      refine s_bd (κ := fun t2 => kC 25 [some (VR (some 382)), none, some (VI s1.2)] [VI t2, VI s1.1] S M) ?_ (fun t2 => ?_)
      · refine s_if_lt (tgt := 24) (dt_M_targets 12 _ _ _ rfl) rfl ?_ ?_
        · refine s_iconst (dt_M_targets 15 _ _ _ rfl) rfl ?_
          exact s_mask [true, false, true] (s_ret0 rfl)
        · refine s_iconst (dt_M_targets 13 _ _ _ rfl) rfl ?_
          refine s_goto (tgt := 25) (dt_M_targets 14 _ _ _ rfl) rfl ?_
          exact s_mask [true, false, true] (s_ret0 rfl)
      refine s_iadd (dt_M_targets 16 _ _ _ rfl) ?_
      refine s_letI (fun v3 => ?_)
      refine s_istore_n (dt_M_targets 17 _ _ _ rfl) rfl ?_
      refine s_iinc (dt_M_targets 18 _ _ _ rfl) rfl rfl ?_
      refine s_goto (tgt := 4) (dt_M_targets 19 _ _ _ rfl) rfl ?_
      exact s_mask [true, true, true] (s_ret0 rfl)
    · exact s_mask [false, true, false] (s_ret0 rfl)
  intro e4
  refine s_iload_n (dt_M_targets 20 _ _ _ rfl) rfl ?_
  exact s_iret (dt_M_targets 21 _ _ _ rfl) rfl rfl
theorem c_M_targets {S : KS} (hS : KExt 435 S)   (M : KM) : ∀ q, f_M_targets  M = some q → Ctr y_M_targets Y_M_targets [VR (some 382)] S M (some (VI q)) S (M) := fun q hq =>
  ctr_of md_M_targets (Nat.le_of_ble_eq_true rfl) ⟨Nat.le_refl _, Nat.le_refl _⟩ 2 hq rfl (fun _ G => sim_M_targets hS   M)
set_option maxRecDepth 100000 in
theorem sim_M_target {G : Gam} {S : KS} (hS : KExt 435 S)  (a0 : Int) (a1 : Int) (M : KM) : Sim G Y_M_target (f_M_target a0 a1 M) (kC 0 [some (VR (some 382)), some (VI a0), some (VI a1)] [] S M) (fun (q : Int × KM) => Sum.inr (some (VI q.1), S, q.2)) := by
  unfold f_M_target
  refine s_aload_n (dt_M_target 0 _ _ _ rfl) rfl ?_
  refine s_iload_n (dt_M_target 1 _ _ _ rfl) rfl ?_
  refine s_callO (y := y_M_isPerson) (Y' := Y_M_isPerson) (as := [VR (some 382), VI a0]) (r := fun q => some (VI q)) (M' := fun q => M) (kInvV (dt_M_target 2 _ _ _ rfl) kin_M_isPerson 1 rfl (sc_382 hS) kse_M_isPerson rfl) kl_M_413 md_M_isPerson rfl rfl (fun q hq => c_M_isPerson hS a0 M q hq) (fun q1 => ?_)
  refine s_if_eq (tgt := 16) (dt_M_target 3 _ _ _ rfl) rfl ?_ ?_
  · refine s_iconst (dt_M_target 8 _ _ _ rfl) rfl ?_
    exact s_iret (dt_M_target 9 _ _ _ rfl) rfl rfl
  · refine s_aload_n (dt_M_target 4 _ _ _ rfl) rfl ?_
    refine s_iload_n (dt_M_target 5 _ _ _ rfl) rfl ?_
    refine s_callO (y := y_M_isAge) (Y' := Y_M_isAge) (as := [VR (some 382), VI a1]) (r := fun q => some (VI q)) (M' := fun q => M) (kInvV (dt_M_target 6 _ _ _ rfl) kin_M_isAge 1 rfl (sc_382 hS) kse_M_isAge rfl) kl_M_422 md_M_isAge rfl rfl (fun q hq => c_M_isAge hS a1 M q hq) (fun q2 => ?_)
    refine s_if_ne (tgt := 18) (dt_M_target 7 _ _ _ rfl) rfl ?_ ?_
    · refine s_iconst (dt_M_target 8 _ _ _ rfl) rfl ?_
      exact s_iret (dt_M_target 9 _ _ _ rfl) rfl rfl
    · refine s_aload_n (dt_M_target 10 _ _ _ rfl) rfl ?_
      refine s_getR (c := 1) (j := 51) (o := (some 414)) (dt_M_target 11 _ _ _ rfl) (kf_M_110) (sc_382 hS) rfl rfl ?_
      refine s_iload_n (dt_M_target 12 _ _ _ rfl) rfl ?_
      refine s_iload_n (dt_M_target 13 _ _ _ rfl) rfl ?_
      refine s_iast (N := 8) (dt_M_target 14 _ _ _ rfl) (sc_414 hS) rfl ?_
      refine s_letM (fun M3 => ?_)
      refine s_aload_n (dt_M_target 15 _ _ _ rfl) rfl ?_
      refine s_callO (y := y_M_targets) (Y' := Y_M_targets) (as := [VR (some 382)]) (r := fun q => some (VI q)) (M' := fun q => M3) (kInvV (dt_M_target 16 _ _ _ rfl) kin_M_targets 1 rfl (sc_382 hS) kse_M_targets rfl) kl_M_452 md_M_targets rfl rfl (fun q hq => c_M_targets hS M3 q hq) (fun q4 => ?_)
      exact s_iret (dt_M_target 17 _ _ _ rfl) rfl rfl
theorem c_M_target {S : KS} (hS : KExt 435 S)  (a0 : Int) (a1 : Int) (M : KM) : ∀ q, f_M_target a0 a1 M = some q → Ctr y_M_target Y_M_target [VR (some 382), VI a0, VI a1] S M (some (VI q.1)) S (q.2) := fun q hq =>
  ctr_of md_M_target (Nat.le_of_ble_eq_true rfl) ⟨Nat.le_refl _, Nat.le_refl _⟩ 0 hq rfl (fun _ G => sim_M_target hS  a0 a1 M)
set_option maxRecDepth 100000 in
theorem sim_M_hush {G : Gam} {S : KS} (hS : KExt 435 S)   (M : KM) : Sim G Y_M_hush (f_M_hush  M) (kC 0 [some (VR (some 382)), none, none] [] S M) (fun (q : Int × KM) => Sum.inr (some (VI q.1), S, q.2)) := by
  unfold f_M_hush
  refine s_aload_n (dt_M_hush 0 _ _ _ rfl) rfl ?_
  refine s_callO (y := y_M_targets) (Y' := Y_M_targets) (as := [VR (some 382)]) (r := fun q => some (VI q)) (M' := fun q => M) (kInvV (dt_M_hush 1 _ _ _ rfl) kin_M_targets 1 rfl (sc_382 hS) kse_M_targets rfl) kl_M_452 md_M_targets rfl rfl (fun q hq => c_M_targets hS M q hq) (fun q1 => ?_)
  refine s_istore_n (dt_M_hush 2 _ _ _ rfl) rfl ?_
  refine s_iconst (dt_M_hush 3 _ _ _ rfl) rfl ?_
  refine s_istore_n (dt_M_hush 4 _ _ _ rfl) rfl ?_
  refine s_bd (κ := (fun (e4 : KM) => kC 26 [none, some (VI q1), none] [] S e4)) (s_mask [true, true, true] (s_while (c := fun s2 => kC 7 [some (VR (some 382)), some (VI q1), some (VI s2.1)] [] S s2.2) (fun s2 => ?_) ((0 : Int), M))) ?_
  · refine s_iload_n (dt_M_hush 5 _ _ _ rfl) rfl ?_
    refine s_bipush (dt_M_hush 6 _ _ _ rfl) rfl ?_
    refine s_if_icmp_ge (tgt := 26) (dt_M_hush 7 _ _ _ rfl) rfl ?_ ?_
    · refine s_aload_n (dt_M_hush 8 _ _ _ rfl) rfl ?_
      refine s_getR (c := 1) (j := 51) (o := (some 414)) (dt_M_hush 9 _ _ _ rfl) (kf_M_110) (sc_382 hS) rfl rfl ?_
      refine s_iload_n (dt_M_hush 10 _ _ _ rfl) rfl ?_
      refine s_iconst (dt_M_hush 11 _ _ _ rfl) rfl ?_
      refine s_iast (N := 8) (dt_M_hush 12 _ _ _ rfl) (sc_414 hS) rfl ?_
      refine s_letM (fun M3 => ?_)
      refine s_iinc (dt_M_hush 13 _ _ _ rfl) rfl rfl ?_
      refine s_goto (tgt := 7) (dt_M_hush 14 _ _ _ rfl) rfl ?_
      exact s_mask [true, true, true] (s_ret0 rfl)
    · exact s_mask [false, true, false] (s_ret0 rfl)
  intro e4
  refine s_iload_n (dt_M_hush 15 _ _ _ rfl) rfl ?_
  exact s_iret (dt_M_hush 16 _ _ _ rfl) rfl rfl
theorem c_M_hush {S : KS} (hS : KExt 435 S)   (M : KM) : ∀ q, f_M_hush  M = some q → Ctr y_M_hush Y_M_hush [VR (some 382)] S M (some (VI q.1)) S (q.2) := fun q hq =>
  ctr_of md_M_hush (Nat.le_of_ble_eq_true rfl) ⟨Nat.le_refl _, Nat.le_refl _⟩ 2 hq rfl (fun _ G => sim_M_hush hS   M)
set_option maxRecDepth 100000 in
theorem sim_M_missing {G : Gam} {S : KS} (hS : KExt 435 S)  (a0 : Int) (M : KM) : Sim G Y_M_missing (f_M_missing a0 M) (kC 0 [some (VR (some 382)), some (VI a0)] [] S M) (fun (q : Int) => Sum.inr (some (VI q), S, M)) := by
  unfold f_M_missing
  refine s_aload_n (dt_M_missing 0 _ _ _ rfl) rfl ?_
  refine s_getR (c := 1) (j := 51) (o := (some 414)) (dt_M_missing 1 _ _ _ rfl) (kf_M_110) (sc_382 hS) rfl rfl ?_
  refine s_iload_n (dt_M_missing 2 _ _ _ rfl) rfl ?_
  refine s_iald (N := 8) (dt_M_missing 3 _ _ _ rfl) (sc_414 hS) rfl ?_
  refine s_bd (κ := fun t2 => kC 36 [none, none] [VI t2] S M) ?_ (fun t2 => ?_)
  · refine s_if_lt (tgt := 35) (dt_M_missing 4 _ _ _ rfl) rfl ?_ ?_
    · refine s_iconst (dt_M_missing 21 _ _ _ rfl) rfl ?_
      exact s_mask [false, false] (s_ret0 rfl)
    · refine s_aload_n (dt_M_missing 5 _ _ _ rfl) rfl ?_
      refine s_iload_n (dt_M_missing 6 _ _ _ rfl) rfl ?_
      refine s_callO (y := y_M_isAlive) (Y' := Y_M_isAlive) (as := [VR (some 382), VI a0]) (r := fun q => some (VI q)) (M' := fun q => M) (kInvV (dt_M_missing 7 _ _ _ rfl) kin_M_isAlive 1 rfl (sc_382 hS) kse_M_isAlive rfl) kl_M_404 md_M_isAlive rfl rfl (fun q hq => c_M_isAlive hS a0 M q hq) (fun q1 => ?_)
      refine s_if_eq (tgt := 35) (dt_M_missing 8 _ _ _ rfl) rfl ?_ ?_
      · refine s_iconst (dt_M_missing 21 _ _ _ rfl) rfl ?_
        exact s_mask [false, false] (s_ret0 rfl)
      · refine s_aload_n (dt_M_missing 9 _ _ _ rfl) rfl ?_
        refine s_getR (c := 1) (j := 51) (o := (some 414)) (dt_M_missing 10 _ _ _ rfl) (kf_M_110) (sc_382 hS) rfl rfl ?_
        refine s_iload_n (dt_M_missing 11 _ _ _ rfl) rfl ?_
        refine s_iald (N := 8) (dt_M_missing 12 _ _ _ rfl) (sc_414 hS) rfl ?_
        refine s_aload_n (dt_M_missing 13 _ _ _ rfl) rfl ?_
        refine s_getR (c := 1) (j := 46) (o := (some 411)) (dt_M_missing 14 _ _ _ rfl) (kf_M_101) (sc_382 hS) rfl rfl ?_
        refine s_iconst (dt_M_missing 15 _ _ _ rfl) rfl ?_
        refine s_iload_n (dt_M_missing 16 _ _ _ rfl) rfl ?_
        refine s_iadd (dt_M_missing 17 _ _ _ rfl) ?_
        refine s_iald (N := 171) (dt_M_missing 18 _ _ _ rfl) (sc_411 hS) rfl ?_
        refine s_isub (dt_M_missing 19 _ _ _ rfl) ?_
        refine s_goto (tgt := 36) (dt_M_missing 20 _ _ _ rfl) rfl ?_
        exact s_mask [false, false] (s_ret0 rfl)
  exact s_iret (dt_M_missing 22 _ _ _ rfl) rfl rfl
theorem c_M_missing {S : KS} (hS : KExt 435 S)  (a0 : Int) (M : KM) : ∀ q, f_M_missing a0 M = some q → Ctr y_M_missing Y_M_missing [VR (some 382), VI a0] S M (some (VI q)) S (M) := fun q hq =>
  ctr_of md_M_missing (Nat.le_of_ble_eq_true rfl) ⟨Nat.le_refl _, Nat.le_refl _⟩ 0 hq rfl (fun _ G => sim_M_missing hS  a0 M)
set_option maxRecDepth 100000 in
theorem sim_M_carry {G : Gam} {S : KS} (hS : KExt 435 S)  (a0 : Int) (M : KM) : Sim G Y_M_carry (f_M_carry a0 M) (kC 0 [some (VR (some 382)), some (VI a0), none, none, none] [] S M) (fun (q : Int × KM) => Sum.inr (some (VI q.1), S, q.2)) := by
  unfold f_M_carry
  refine s_aload_n (dt_M_carry 0 _ _ _ rfl) rfl ?_
  refine s_getR (c := 1) (j := 52) (o := (some 415)) (dt_M_carry 1 _ _ _ rfl) (kf_M_113) (sc_382 hS) rfl rfl ?_
  refine s_iload_n (dt_M_carry 2 _ _ _ rfl) rfl ?_
  refine s_iald (N := 8) (dt_M_carry 3 _ _ _ rfl) (sc_415 hS) rfl ?_
  refine s_ineg (dt_M_carry 4 _ _ _ rfl) ?_
  refine s_letI (fun v1 => ?_)
  refine s_istore_n (dt_M_carry 5 _ _ _ rfl) rfl ?_
  refine s_iload_n (dt_M_carry 6 _ _ _ rfl) rfl ?_
  refine s_istore_n (dt_M_carry 7 _ _ _ rfl) rfl ?_
  refine s_bd (κ := (fun (e7 : Int × Int) => kC 70 [some (VR (some 382)), some (VI a0), some (VI e7.1), some (VI e7.2), none] [] S M)) (s_mask [true, true, true, true, false] (s_while (c := fun s2 => kC 10 [some (VR (some 382)), some (VI a0), some (VI s2.1), some (VI s2.2), none] [] S M) (fun s2 => ?_) (v1, a0))) ?_
  · refine s_aload_n (dt_M_carry 8 _ _ _ rfl) rfl ?_
    refine s_getR (c := 1) (j := 55) (o := (some 418)) (dt_M_carry 9 _ _ _ rfl) (kf_M_122) (sc_382 hS) rfl rfl ?_
    refine s_iload_n (dt_M_carry 10 _ _ _ rfl) rfl ?_
    refine s_iald (N := 8) (dt_M_carry 11 _ _ _ rfl) (sc_418 hS) rfl ?_
    refine s_if_lt (tgt := 70) (dt_M_carry 12 _ _ _ rfl) rfl ?_ ?_
    · exact s_mask [true, true, true, true, false] (s_ret0 rfl)
    · refine s_aload_n (dt_M_carry 13 _ _ _ rfl) rfl ?_
      refine s_getR (c := 1) (j := 55) (o := (some 418)) (dt_M_carry 14 _ _ _ rfl) (kf_M_122) (sc_382 hS) rfl rfl ?_
      refine s_iload_n (dt_M_carry 15 _ _ _ rfl) rfl ?_
      refine s_iald (N := 8) (dt_M_carry 16 _ _ _ rfl) (sc_418 hS) rfl ?_
      refine s_letI (fun v3 => ?_)
      refine s_istore (dt_M_carry 17 _ _ _ rfl) rfl ?_
      refine s_aload_n (dt_M_carry 18 _ _ _ rfl) rfl ?_
      refine s_iload_n (dt_M_carry 19 _ _ _ rfl) rfl ?_
      refine s_callO (y := y_M_missing) (Y' := Y_M_missing) (as := [VR (some 382), VI s2.2]) (r := fun q => some (VI q)) (M' := fun q => M) (kInvV (dt_M_carry 20 _ _ _ rfl) kin_M_missing 1 rfl (sc_382 hS) kse_M_missing rfl) kl_M_455 md_M_missing rfl rfl (fun q hq => c_M_missing hS s2.2 M q hq) (fun q4 => ?_)
      refine s_bd (κ := fun t6 => kC 64 [some (VR (some 382)), some (VI a0), some (VI t6), none, some (VI v3)] [] S M) ?_ (fun t6 => ?_)
      · refine s_if_ge (tgt := 64) (dt_M_carry 21 _ _ _ rfl) rfl ?_ ?_
        · refine s_aload_n (dt_M_carry 22 _ _ _ rfl) rfl ?_
          refine s_getR (c := 1) (j := 53) (o := (some 416)) (dt_M_carry 23 _ _ _ rfl) (kf_M_116) (sc_382 hS) rfl rfl ?_
          refine s_bipush (dt_M_carry 24 _ _ _ rfl) rfl ?_
          refine s_iload_n (dt_M_carry 25 _ _ _ rfl) rfl ?_
          refine s_imul (dt_M_carry 26 _ _ _ rfl) ?_
          refine s_iload (dt_M_carry 27 _ _ _ rfl) rfl ?_
          refine s_iadd (dt_M_carry 28 _ _ _ rfl) ?_
          refine s_iald (N := 64) (dt_M_carry 29 _ _ _ rfl) (sc_416 hS) rfl ?_
          refine s_iload_n (dt_M_carry 30 _ _ _ rfl) rfl ?_
          refine s_if_icmp_ge (tgt := 64) (dt_M_carry 31 _ _ _ rfl) rfl ?_ ?_
          · refine s_aload_n (dt_M_carry 32 _ _ _ rfl) rfl ?_
            refine s_getR (c := 1) (j := 53) (o := (some 416)) (dt_M_carry 33 _ _ _ rfl) (kf_M_116) (sc_382 hS) rfl rfl ?_
            refine s_bipush (dt_M_carry 34 _ _ _ rfl) rfl ?_
            refine s_iload_n (dt_M_carry 35 _ _ _ rfl) rfl ?_
            refine s_imul (dt_M_carry 36 _ _ _ rfl) ?_
            refine s_iload (dt_M_carry 37 _ _ _ rfl) rfl ?_
            refine s_iadd (dt_M_carry 38 _ _ _ rfl) ?_
            refine s_iald (N := 64) (dt_M_carry 39 _ _ _ rfl) (sc_416 hS) rfl ?_
            refine s_letI (fun v5 => ?_)
            refine s_istore_n (dt_M_carry 40 _ _ _ rfl) rfl ?_
            exact s_mask [true, true, true, false, true] (s_ret0 rfl)
          · exact s_mask [true, true, true, false, true] (s_ret0 rfl)
        · exact s_mask [true, true, true, false, true] (s_ret0 rfl)
      refine s_iload (dt_M_carry 41 _ _ _ rfl) rfl ?_
      refine s_istore_n (dt_M_carry 42 _ _ _ rfl) rfl ?_
      refine s_goto (tgt := 10) (dt_M_carry 43 _ _ _ rfl) rfl ?_
      exact s_mask [true, true, true, true, false] (s_ret0 rfl)
  intro e7
  refine s_aload_n (dt_M_carry 44 _ _ _ rfl) rfl ?_
  refine s_getR (c := 1) (j := 52) (o := (some 415)) (dt_M_carry 45 _ _ _ rfl) (kf_M_113) (sc_382 hS) rfl rfl ?_
  refine s_iload_n (dt_M_carry 46 _ _ _ rfl) rfl ?_
  refine s_iald (N := 8) (dt_M_carry 47 _ _ _ rfl) (sc_415 hS) rfl ?_
  refine s_iload_n (dt_M_carry 48 _ _ _ rfl) rfl ?_
  refine s_bd (κ := fun t9 => kC 87 [some (VR (some 382)), some (VI a0), some (VI t9), some (VI e7.2), none] [] S M) ?_ (fun t9 => ?_)
  · refine s_if_icmp_ge (tgt := 87) (dt_M_carry 49 _ _ _ rfl) rfl ?_ ?_
    · refine s_aload_n (dt_M_carry 50 _ _ _ rfl) rfl ?_
      refine s_getR (c := 1) (j := 52) (o := (some 415)) (dt_M_carry 51 _ _ _ rfl) (kf_M_113) (sc_382 hS) rfl rfl ?_
      refine s_iload_n (dt_M_carry 52 _ _ _ rfl) rfl ?_
      refine s_iald (N := 8) (dt_M_carry 53 _ _ _ rfl) (sc_415 hS) rfl ?_
      refine s_letI (fun v8 => ?_)
      refine s_istore_n (dt_M_carry 54 _ _ _ rfl) rfl ?_
      exact s_mask [true, true, true, true, false] (s_ret0 rfl)
    · exact s_mask [true, true, true, true, false] (s_ret0 rfl)
  refine s_aload_n (dt_M_carry 55 _ _ _ rfl) rfl ?_
  refine s_getR (c := 1) (j := 52) (o := (some 415)) (dt_M_carry 56 _ _ _ rfl) (kf_M_113) (sc_382 hS) rfl rfl ?_
  refine s_iload_n (dt_M_carry 57 _ _ _ rfl) rfl ?_
  refine s_dup2 (dt_M_carry 58 _ _ _ rfl) rfl rfl ?_
  refine s_iald (N := 8) (dt_M_carry 59 _ _ _ rfl) (sc_415 hS) rfl ?_
  refine s_iload_n (dt_M_carry 60 _ _ _ rfl) rfl ?_
  refine s_isub (dt_M_carry 61 _ _ _ rfl) ?_
  refine s_iast (N := 8) (dt_M_carry 62 _ _ _ rfl) (sc_415 hS) rfl ?_
  refine s_letM (fun M10 => ?_)
  refine s_aload_n (dt_M_carry 63 _ _ _ rfl) rfl ?_
  refine s_getR (c := 1) (j := 52) (o := (some 415)) (dt_M_carry 64 _ _ _ rfl) (kf_M_113) (sc_382 hS) rfl rfl ?_
  refine s_iload_n (dt_M_carry 65 _ _ _ rfl) rfl ?_
  refine s_dup2 (dt_M_carry 66 _ _ _ rfl) rfl rfl ?_
  refine s_iald (N := 8) (dt_M_carry 67 _ _ _ rfl) (sc_415 hS) rfl ?_
  refine s_iload_n (dt_M_carry 68 _ _ _ rfl) rfl ?_
  refine s_iadd (dt_M_carry 69 _ _ _ rfl) ?_
  refine s_iast (N := 8) (dt_M_carry 70 _ _ _ rfl) (sc_415 hS) rfl ?_
  refine s_letM (fun M11 => ?_)
  refine s_iload_n (dt_M_carry 71 _ _ _ rfl) rfl ?_
  refine s_istore_n (dt_M_carry 72 _ _ _ rfl) rfl ?_
  refine s_bd (κ := (fun (e18 : KM) => kC 175 [none, none, some (VI t9), none, none] [] S e18)) (s_mask [true, false, true, true, false] (s_while (c := fun s12 => kC 109 [some (VR (some 382)), none, some (VI t9), some (VI s12.1), none] [] S s12.2) (fun s12 => ?_) (a0, M11))) ?_
  · refine s_aload_n (dt_M_carry 73 _ _ _ rfl) rfl ?_
    refine s_getR (c := 1) (j := 55) (o := (some 418)) (dt_M_carry 74 _ _ _ rfl) (kf_M_122) (sc_382 hS) rfl rfl ?_
    refine s_iload_n (dt_M_carry 75 _ _ _ rfl) rfl ?_
    refine s_iald (N := 8) (dt_M_carry 76 _ _ _ rfl) (sc_418 hS) rfl ?_
    refine s_if_lt (tgt := 175) (dt_M_carry 77 _ _ _ rfl) rfl ?_ ?_
    · exact s_mask [false, false, true, false, false] (s_ret0 rfl)
    · refine s_aload_n (dt_M_carry 78 _ _ _ rfl) rfl ?_
      refine s_getR (c := 1) (j := 55) (o := (some 418)) (dt_M_carry 79 _ _ _ rfl) (kf_M_122) (sc_382 hS) rfl rfl ?_
      refine s_iload_n (dt_M_carry 80 _ _ _ rfl) rfl ?_
      refine s_iald (N := 8) (dt_M_carry 81 _ _ _ rfl) (sc_418 hS) rfl ?_
      refine s_letI (fun v13 => ?_)
      refine s_istore (dt_M_carry 82 _ _ _ rfl) rfl ?_
      refine s_aload_n (dt_M_carry 83 _ _ _ rfl) rfl ?_
      refine s_iload_n (dt_M_carry 84 _ _ _ rfl) rfl ?_
      refine s_callO (y := y_M_missing) (Y' := Y_M_missing) (as := [VR (some 382), VI s12.1]) (r := fun q => some (VI q)) (M' := fun q => s12.2) (kInvV (dt_M_carry 85 _ _ _ rfl) kin_M_missing 1 rfl (sc_382 hS) kse_M_missing rfl) kl_M_455 md_M_missing rfl rfl (fun q hq => c_M_missing hS s12.1 s12.2 q hq) (fun q14 => ?_)
      refine s_bd (κ := fun t17 => kC 169 [some (VR (some 382)), none, some (VI t9), none, some (VI v13)] [] S t17) ?_ (fun t17 => ?_)
      · refine s_if_le (tgt := 153) (dt_M_carry 86 _ _ _ rfl) rfl ?_ ?_
        · refine s_aload_n (dt_M_carry 100 _ _ _ rfl) rfl ?_
          refine s_getR (c := 1) (j := 53) (o := (some 416)) (dt_M_carry 101 _ _ _ rfl) (kf_M_116) (sc_382 hS) rfl rfl ?_
          refine s_bipush (dt_M_carry 102 _ _ _ rfl) rfl ?_
          refine s_iload_n (dt_M_carry 103 _ _ _ rfl) rfl ?_
          refine s_imul (dt_M_carry 104 _ _ _ rfl) ?_
          refine s_iload (dt_M_carry 105 _ _ _ rfl) rfl ?_
          refine s_iadd (dt_M_carry 106 _ _ _ rfl) ?_
          refine s_dup2 (dt_M_carry 107 _ _ _ rfl) rfl rfl ?_
          refine s_iald (N := 64) (dt_M_carry 108 _ _ _ rfl) (sc_416 hS) rfl ?_
          refine s_iload_n (dt_M_carry 109 _ _ _ rfl) rfl ?_
          refine s_isub (dt_M_carry 110 _ _ _ rfl) ?_
          refine s_iast (N := 64) (dt_M_carry 111 _ _ _ rfl) (sc_416 hS) rfl ?_
          refine s_letM (fun M15 => ?_)
          exact s_mask [true, false, true, false, true] (s_ret0 rfl)
        · refine s_aload_n (dt_M_carry 87 _ _ _ rfl) rfl ?_
          refine s_getR (c := 1) (j := 53) (o := (some 416)) (dt_M_carry 88 _ _ _ rfl) (kf_M_116) (sc_382 hS) rfl rfl ?_
          refine s_bipush (dt_M_carry 89 _ _ _ rfl) rfl ?_
          refine s_iload (dt_M_carry 90 _ _ _ rfl) rfl ?_
          refine s_imul (dt_M_carry 91 _ _ _ rfl) ?_
          refine s_iload_n (dt_M_carry 92 _ _ _ rfl) rfl ?_
          refine s_iadd (dt_M_carry 93 _ _ _ rfl) ?_
          refine s_dup2 (dt_M_carry 94 _ _ _ rfl) rfl rfl ?_
          refine s_iald (N := 64) (dt_M_carry 95 _ _ _ rfl) (sc_416 hS) rfl ?_
          refine s_iload_n (dt_M_carry 96 _ _ _ rfl) rfl ?_
          refine s_iadd (dt_M_carry 97 _ _ _ rfl) ?_
          refine s_iast (N := 64) (dt_M_carry 98 _ _ _ rfl) (sc_416 hS) rfl ?_
          refine s_letM (fun M16 => ?_)
          refine s_goto (tgt := 169) (dt_M_carry 99 _ _ _ rfl) rfl ?_
          exact s_mask [true, false, true, false, true] (s_ret0 rfl)
      refine s_iload (dt_M_carry 112 _ _ _ rfl) rfl ?_
      refine s_istore_n (dt_M_carry 113 _ _ _ rfl) rfl ?_
      refine s_goto (tgt := 109) (dt_M_carry 114 _ _ _ rfl) rfl ?_
      exact s_mask [true, false, true, true, false] (s_ret0 rfl)
  intro e18
  refine s_iload_n (dt_M_carry 115 _ _ _ rfl) rfl ?_
  exact s_iret (dt_M_carry 116 _ _ _ rfl) rfl rfl
theorem c_M_carry {S : KS} (hS : KExt 435 S)  (a0 : Int) (M : KM) : ∀ q, f_M_carry a0 M = some q → Ctr y_M_carry Y_M_carry [VR (some 382), VI a0] S M (some (VI q.1)) S (q.2) := fun q hq =>
  ctr_of md_M_carry (Nat.le_of_ble_eq_true rfl) ⟨Nat.le_refl _, Nat.le_refl _⟩ 3 hq rfl (fun _ G => sim_M_carry hS  a0 M)
