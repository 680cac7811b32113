set_option maxRecDepth 100000 in
theorem sim_M_layCheap {G : Gam} {S : KS} (hS : KExt 435 S)   (M : KM) : Sim G Y_M_layCheap (f_M_layCheap  M) (kC 0 [some (VR (some 382)), none, none, none, none] [] S M) (fun (q : KM) => Sum.inr (none, S, q)) := by
  unfold f_M_layCheap
  refine s_iconst (dt_M_layCheap 0 _ _ _ rfl) rfl ?_
  refine s_istore_n (dt_M_layCheap 1 _ _ _ rfl) rfl ?_
  refine s_bd (κ := (fun (e5 : KM) => kC 43 [some (VR (some 382)), none, none, none, none] [] S e5)) (s_mask [true, true, false, false, false] (s_while (c := fun s1 => kC 2 [some (VR (some 382)), some (VI s1.1), none, none, none] [] S s1.2) (fun s1 => ?_) ((0 : Int), M))) ?_
  · refine s_iload_n (dt_M_layCheap 2 _ _ _ rfl) rfl ?_
    refine s_bipush (dt_M_layCheap 3 _ _ _ rfl) rfl ?_
    refine s_if_icmp_ge (tgt := 43) (dt_M_layCheap 4 _ _ _ rfl) rfl ?_ ?_
    · refine s_aload_n (dt_M_layCheap 5 _ _ _ rfl) rfl ?_
      refine s_getR (c := 1) (j := 54) (o := (some 417)) (dt_M_layCheap 6 _ _ _ rfl) (kf_M_119) (sc_382 hS) rfl rfl ?_
      refine s_iload_n (dt_M_layCheap 7 _ _ _ rfl) rfl ?_
      refine s_aload_n (dt_M_layCheap 8 _ _ _ rfl) rfl ?_
      refine s_getR (c := 1) (j := 52) (o := (some 415)) (dt_M_layCheap 9 _ _ _ rfl) (kf_M_113) (sc_382 hS) rfl rfl ?_
      refine s_iload_n (dt_M_layCheap 10 _ _ _ rfl) rfl ?_
      refine s_iald (N := 8) (dt_M_layCheap 11 _ _ _ rfl) (sc_415 hS) rfl ?_
      refine s_bd (κ := fun t2 => kC 29 [some (VR (some 382)), some (VI s1.1), none, none, none] [VI t2, VI s1.1, VR (some 417)] S s1.2) ?_ (fun t2 => ?_)
      · refine s_if_le (tgt := 26) (dt_M_layCheap 12 _ _ _ rfl) rfl ?_ ?_
        · refine s_ldcw (n := (100000000 : Int)) (kc_M_451) (dt_M_layCheap 15 _ _ _ rfl) rfl ?_
          exact s_mask [true, true, false, false, false] (s_ret0 rfl)
        · refine s_iconst (dt_M_layCheap 13 _ _ _ rfl) rfl ?_
          refine s_goto (tgt := 29) (dt_M_layCheap 14 _ _ _ rfl) rfl ?_
          exact s_mask [true, true, false, false, false] (s_ret0 rfl)
      refine s_iast (N := 8) (dt_M_layCheap 16 _ _ _ rfl) (sc_417 hS) rfl ?_
      refine s_letM (fun M3 => ?_)
      refine s_aload_n (dt_M_layCheap 17 _ _ _ rfl) rfl ?_
      refine s_getR (c := 1) (j := 55) (o := (some 418)) (dt_M_layCheap 18 _ _ _ rfl) (kf_M_122) (sc_382 hS) rfl rfl ?_
      refine s_iload_n (dt_M_layCheap 19 _ _ _ rfl) rfl ?_
      refine s_iconst (dt_M_layCheap 20 _ _ _ rfl) rfl ?_
      refine s_iast (N := 8) (dt_M_layCheap 21 _ _ _ rfl) (sc_418 hS) rfl ?_
      refine s_letM (fun M4 => ?_)
      refine s_iinc (dt_M_layCheap 22 _ _ _ rfl) rfl rfl ?_
      refine s_goto (tgt := 2) (dt_M_layCheap 23 _ _ _ rfl) rfl ?_
      exact s_mask [true, true, false, false, false] (s_ret0 rfl)
    · exact s_mask [true, false, false, false, false] (s_ret0 rfl)
  intro e5
  refine s_iconst (dt_M_layCheap 24 _ _ _ rfl) rfl ?_
  refine s_istore_n (dt_M_layCheap 25 _ _ _ rfl) rfl ?_
  refine s_bd (κ := (fun (e20 : KM) => kC 231 [none, none, none, none, none] [] S e20)) (s_mask [true, true, false, false, false] (s_while (c := fun s6 => kC 45 [some (VR (some 382)), some (VI s6.1), none, none, none] [] S s6.2) (fun s6 => ?_) ((0 : Int), e5))) ?_
  · refine s_iload_n (dt_M_layCheap 26 _ _ _ rfl) rfl ?_
    refine s_bipush (dt_M_layCheap 27 _ _ _ rfl) rfl ?_
    refine s_if_icmp_ge (tgt := 231) (dt_M_layCheap 28 _ _ _ rfl) rfl ?_ ?_
    · refine s_iconst (dt_M_layCheap 29 _ _ _ rfl) rfl ?_
      refine s_istore_n (dt_M_layCheap 30 _ _ _ rfl) rfl ?_
      refine s_bd (κ := (fun (e19 : KM) => kC 225 [some (VR (some 382)), some (VI s6.1), none, none, none] [] S e19)) (s_mask [true, true, true, false, false] (s_while (c := fun s7 => kC 53 [some (VR (some 382)), some (VI s6.1), some (VI s7.1), none, none] [] S s7.2) (fun s7 => ?_) ((0 : Int), s6.2))) ?_
      · refine s_iload_n (dt_M_layCheap 31 _ _ _ rfl) rfl ?_
        refine s_bipush (dt_M_layCheap 32 _ _ _ rfl) rfl ?_
        refine s_if_icmp_ge (tgt := 225) (dt_M_layCheap 33 _ _ _ rfl) rfl ?_ ?_
        · refine s_iconst (dt_M_layCheap 34 _ _ _ rfl) rfl ?_
          refine s_istore_n (dt_M_layCheap 35 _ _ _ rfl) rfl ?_
          refine s_bd (κ := (fun (e18 : KM) => kC 219 [some (VR (some 382)), some (VI s6.1), some (VI s7.1), none, none] [] S e18)) (s_mask [true, true, true, true, false] (s_while (c := fun s8 => kC 61 [some (VR (some 382)), some (VI s6.1), some (VI s7.1), some (VI s8.1), none] [] S s8.2) (fun s8 => ?_) ((0 : Int), s7.2))) ?_
          · refine s_iload_n (dt_M_layCheap 36 _ _ _ rfl) rfl ?_
            refine s_bipush (dt_M_layCheap 37 _ _ _ rfl) rfl ?_
            refine s_if_icmp_ge (tgt := 219) (dt_M_layCheap 38 _ _ _ rfl) rfl ?_ ?_
            · refine s_aload_n (dt_M_layCheap 39 _ _ _ rfl) rfl ?_
              refine s_iload_n (dt_M_layCheap 40 _ _ _ rfl) rfl ?_
              refine s_callO (y := y_M_missing) (Y' := Y_M_missing) (as := [VR (some 382), VI s7.1]) (r := fun q => some (VI q)) (M' := fun q => s8.2) (kInvV (dt_M_layCheap 41 _ _ _ rfl) kin_M_missing 1 rfl (sc_382 hS) kse_M_missing rfl) kl_M_455 md_M_missing rfl rfl (fun q hq => c_M_missing hS s7.1 s8.2 q hq) (fun q9 => ?_)
              refine s_bd (κ := fun t17 => kC 213 [some (VR (some 382)), some (VI s6.1), some (VI s7.1), some (VI s8.1), none] [] S t17) ?_ (fun t17 => ?_)
              · refine s_if_ge (tgt := 213) (dt_M_layCheap 42 _ _ _ rfl) rfl ?_ ?_
                · refine s_aload_n (dt_M_layCheap 43 _ _ _ rfl) rfl ?_
                  refine s_iload_n (dt_M_layCheap 44 _ _ _ rfl) rfl ?_
                  refine s_callO (y := y_M_missing) (Y' := Y_M_missing) (as := [VR (some 382), VI s8.1]) (r := fun q => some (VI q)) (M' := fun q => s8.2) (kInvV (dt_M_layCheap 45 _ _ _ rfl) kin_M_missing 1 rfl (sc_382 hS) kse_M_missing rfl) kl_M_455 md_M_missing rfl rfl (fun q hq => c_M_missing hS s8.1 s8.2 q hq) (fun q10 => ?_)
                  refine s_if_gt (tgt := 86) (dt_M_layCheap 46 _ _ _ rfl) rfl ?_ ?_
                  · refine s_goto (tgt := 213) (dt_M_layCheap 47 _ _ _ rfl) rfl ?_
                    exact s_mask [true, true, true, true, false] (s_ret0 rfl)
                  · refine s_aload_n (dt_M_layCheap 48 _ _ _ rfl) rfl ?_
                    refine s_getR (c := 1) (j := 50) (o := (some 413)) (dt_M_layCheap 49 _ _ _ rfl) (kf_M_107) (sc_382 hS) rfl rfl ?_
                    refine s_bipush (dt_M_layCheap 50 _ _ _ rfl) rfl ?_
                    refine s_iload_n (dt_M_layCheap 51 _ _ _ rfl) rfl ?_
                    refine s_imul (dt_M_layCheap 52 _ _ _ rfl) ?_
                    refine s_iload_n (dt_M_layCheap 53 _ _ _ rfl) rfl ?_
                    refine s_iadd (dt_M_layCheap 54 _ _ _ rfl) ?_
                    refine s_iald (N := 64) (dt_M_layCheap 55 _ _ _ rfl) (sc_413 hS) rfl ?_
                    refine s_letI (fun v11 => ?_)
                    refine s_istore (dt_M_layCheap 56 _ _ _ rfl) rfl ?_
                    refine s_iload (dt_M_layCheap 57 _ _ _ rfl) rfl ?_
                    refine s_ldcw (n := (100000000 : Int)) (kc_M_451) (dt_M_layCheap 58 _ _ _ rfl) rfl ?_
                    refine s_bd (κ := fun t14 => kC 147 [some (VR (some 382)), some (VI s6.1), some (VI s7.1), some (VI s8.1), some (VI v11)] [] S t14) ?_ (fun t14 => ?_)
                    · refine s_if_icmp_ge (tgt := 147) (dt_M_layCheap 59 _ _ _ rfl) rfl ?_ ?_
                      · refine s_aload_n (dt_M_layCheap 60 _ _ _ rfl) rfl ?_
                        refine s_getR (c := 1) (j := 54) (o := (some 417)) (dt_M_layCheap 61 _ _ _ rfl) (kf_M_119) (sc_382 hS) rfl rfl ?_
                        refine s_iload_n (dt_M_layCheap 62 _ _ _ rfl) rfl ?_
                        refine s_iald (N := 8) (dt_M_layCheap 63 _ _ _ rfl) (sc_417 hS) rfl ?_
                        refine s_iload (dt_M_layCheap 64 _ _ _ rfl) rfl ?_
                        refine s_iadd (dt_M_layCheap 65 _ _ _ rfl) ?_
                        refine s_aload_n (dt_M_layCheap 66 _ _ _ rfl) rfl ?_
                        refine s_getR (c := 1) (j := 54) (o := (some 417)) (dt_M_layCheap 67 _ _ _ rfl) (kf_M_119) (sc_382 hS) rfl rfl ?_
                        refine s_iload_n (dt_M_layCheap 68 _ _ _ rfl) rfl ?_
                        refine s_iald (N := 8) (dt_M_layCheap 69 _ _ _ rfl) (sc_417 hS) rfl ?_
                        refine s_if_icmp_ge (tgt := 147) (dt_M_layCheap 70 _ _ _ rfl) rfl ?_ ?_
                        · refine s_aload_n (dt_M_layCheap 71 _ _ _ rfl) rfl ?_
                          refine s_getR (c := 1) (j := 54) (o := (some 417)) (dt_M_layCheap 72 _ _ _ rfl) (kf_M_119) (sc_382 hS) rfl rfl ?_
                          refine s_iload_n (dt_M_layCheap 73 _ _ _ rfl) rfl ?_
                          refine s_aload_n (dt_M_layCheap 74 _ _ _ rfl) rfl ?_
                          refine s_getR (c := 1) (j := 54) (o := (some 417)) (dt_M_layCheap 75 _ _ _ rfl) (kf_M_119) (sc_382 hS) rfl rfl ?_
                          refine s_iload_n (dt_M_layCheap 76 _ _ _ rfl) rfl ?_
                          refine s_iald (N := 8) (dt_M_layCheap 77 _ _ _ rfl) (sc_417 hS) rfl ?_
                          refine s_iload (dt_M_layCheap 78 _ _ _ rfl) rfl ?_
                          refine s_iadd (dt_M_layCheap 79 _ _ _ rfl) ?_
                          refine s_iast (N := 8) (dt_M_layCheap 80 _ _ _ rfl) (sc_417 hS) rfl ?_
                          refine s_letM (fun M12 => ?_)
                          refine s_aload_n (dt_M_layCheap 81 _ _ _ rfl) rfl ?_
                          refine s_getR (c := 1) (j := 55) (o := (some 418)) (dt_M_layCheap 82 _ _ _ rfl) (kf_M_122) (sc_382 hS) rfl rfl ?_
                          refine s_iload_n (dt_M_layCheap 83 _ _ _ rfl) rfl ?_
                          refine s_iload_n (dt_M_layCheap 84 _ _ _ rfl) rfl ?_
                          refine s_iast (N := 8) (dt_M_layCheap 85 _ _ _ rfl) (sc_418 hS) rfl ?_
                          refine s_letM (fun M13 => ?_)
                          exact s_mask [true, true, true, true, true] (s_ret0 rfl)
                        · exact s_mask [true, true, true, true, true] (s_ret0 rfl)
                      · exact s_mask [true, true, true, true, true] (s_ret0 rfl)
                    refine s_aload_n (dt_M_layCheap 86 _ _ _ rfl) rfl ?_
                    refine s_getR (c := 1) (j := 53) (o := (some 416)) (dt_M_layCheap 87 _ _ _ rfl) (kf_M_116) (sc_382 hS) rfl rfl ?_
                    refine s_bipush (dt_M_layCheap 88 _ _ _ rfl) rfl ?_
                    refine s_iload_n (dt_M_layCheap 89 _ _ _ rfl) rfl ?_
                    refine s_imul (dt_M_layCheap 90 _ _ _ rfl) ?_
                    refine s_iload_n (dt_M_layCheap 91 _ _ _ rfl) rfl ?_
                    refine s_iadd (dt_M_layCheap 92 _ _ _ rfl) ?_
                    refine s_iald (N := 64) (dt_M_layCheap 93 _ _ _ rfl) (sc_416 hS) rfl ?_
                    refine s_if_le (tgt := 213) (dt_M_layCheap 94 _ _ _ rfl) rfl ?_ ?_
                    · exact s_mask [true, true, true, true, false] (s_ret0 rfl)
                    · refine s_aload_n (dt_M_layCheap 95 _ _ _ rfl) rfl ?_
                      refine s_getR (c := 1) (j := 54) (o := (some 417)) (dt_M_layCheap 96 _ _ _ rfl) (kf_M_119) (sc_382 hS) rfl rfl ?_
                      refine s_iload_n (dt_M_layCheap 97 _ _ _ rfl) rfl ?_
                      refine s_iald (N := 8) (dt_M_layCheap 98 _ _ _ rfl) (sc_417 hS) rfl ?_
                      refine s_ldcw (n := (100000000 : Int)) (kc_M_451) (dt_M_layCheap 99 _ _ _ rfl) rfl ?_
                      refine s_if_icmp_ge (tgt := 213) (dt_M_layCheap 100 _ _ _ rfl) rfl ?_ ?_
                      · refine s_aload_n (dt_M_layCheap 101 _ _ _ rfl) rfl ?_
                        refine s_getR (c := 1) (j := 54) (o := (some 417)) (dt_M_layCheap 102 _ _ _ rfl) (kf_M_119) (sc_382 hS) rfl rfl ?_
                        refine s_iload_n (dt_M_layCheap 103 _ _ _ rfl) rfl ?_
                        refine s_iald (N := 8) (dt_M_layCheap 104 _ _ _ rfl) (sc_417 hS) rfl ?_
                        refine s_iload (dt_M_layCheap 105 _ _ _ rfl) rfl ?_
                        refine s_isub (dt_M_layCheap 106 _ _ _ rfl) ?_
                        refine s_aload_n (dt_M_layCheap 107 _ _ _ rfl) rfl ?_
                        refine s_getR (c := 1) (j := 54) (o := (some 417)) (dt_M_layCheap 108 _ _ _ rfl) (kf_M_119) (sc_382 hS) rfl rfl ?_
                        refine s_iload_n (dt_M_layCheap 109 _ _ _ rfl) rfl ?_
                        refine s_iald (N := 8) (dt_M_layCheap 110 _ _ _ rfl) (sc_417 hS) rfl ?_
                        refine s_if_icmp_ge (tgt := 213) (dt_M_layCheap 111 _ _ _ rfl) rfl ?_ ?_
                        · refine s_aload_n (dt_M_layCheap 112 _ _ _ rfl) rfl ?_
                          refine s_getR (c := 1) (j := 54) (o := (some 417)) (dt_M_layCheap 113 _ _ _ rfl) (kf_M_119) (sc_382 hS) rfl rfl ?_
                          refine s_iload_n (dt_M_layCheap 114 _ _ _ rfl) rfl ?_
                          refine s_aload_n (dt_M_layCheap 115 _ _ _ rfl) rfl ?_
                          refine s_getR (c := 1) (j := 54) (o := (some 417)) (dt_M_layCheap 116 _ _ _ rfl) (kf_M_119) (sc_382 hS) rfl rfl ?_
                          refine s_iload_n (dt_M_layCheap 117 _ _ _ rfl) rfl ?_
                          refine s_iald (N := 8) (dt_M_layCheap 118 _ _ _ rfl) (sc_417 hS) rfl ?_
                          refine s_iload (dt_M_layCheap 119 _ _ _ rfl) rfl ?_
                          refine s_isub (dt_M_layCheap 120 _ _ _ rfl) ?_
                          refine s_iast (N := 8) (dt_M_layCheap 121 _ _ _ rfl) (sc_417 hS) rfl ?_
                          refine s_letM (fun M15 => ?_)
                          refine s_aload_n (dt_M_layCheap 122 _ _ _ rfl) rfl ?_
                          refine s_getR (c := 1) (j := 55) (o := (some 418)) (dt_M_layCheap 123 _ _ _ rfl) (kf_M_122) (sc_382 hS) rfl rfl ?_
                          refine s_iload_n (dt_M_layCheap 124 _ _ _ rfl) rfl ?_
                          refine s_iload_n (dt_M_layCheap 125 _ _ _ rfl) rfl ?_
                          refine s_iast (N := 8) (dt_M_layCheap 126 _ _ _ rfl) (sc_418 hS) rfl ?_
                          refine s_letM (fun M16 => ?_)
                          exact s_mask [true, true, true, true, false] (s_ret0 rfl)
                        · exact s_mask [true, true, true, true, false] (s_ret0 rfl)
                      · exact s_mask [true, true, true, true, false] (s_ret0 rfl)
                · exact s_mask [true, true, true, true, false] (s_ret0 rfl)
              refine s_iinc (dt_M_layCheap 127 _ _ _ rfl) rfl rfl ?_
              refine s_goto (tgt := 61) (dt_M_layCheap 128 _ _ _ rfl) rfl ?_
              exact s_mask [true, true, true, true, false] (s_ret0 rfl)
            · exact s_mask [true, true, true, false, false] (s_ret0 rfl)
          intro e18
          refine s_iinc (dt_M_layCheap 129 _ _ _ rfl) rfl rfl ?_
          refine s_goto (tgt := 53) (dt_M_layCheap 130 _ _ _ rfl) rfl ?_
          exact s_mask [true, true, true, false, false] (s_ret0 rfl)
        · exact s_mask [true, true, false, false, false] (s_ret0 rfl)
      intro e19
      refine s_iinc (dt_M_layCheap 131 _ _ _ rfl) rfl rfl ?_
      refine s_goto (tgt := 45) (dt_M_layCheap 132 _ _ _ rfl) rfl ?_
      exact s_mask [true, true, false, false, false] (s_ret0 rfl)
    · exact s_mask [false, false, false, false, false] (s_ret0 rfl)
  intro e20
  exact s_vret (dt_M_layCheap 133 _ _ _ rfl) rfl rfl
theorem c_M_layCheap {S : KS} (hS : KExt 435 S)   (M : KM) : ∀ q, f_M_layCheap  M = some q → Ctr y_M_layCheap Y_M_layCheap [VR (some 382)] S M (none) S (q) := fun q hq =>
  ctr_of md_M_layCheap (Nat.le_of_ble_eq_true rfl) ⟨Nat.le_refl _, Nat.le_refl _⟩ 4 hq rfl (fun _ G => sim_M_layCheap hS   M)
set_option maxRecDepth 100000 in
theorem sim_M_layRoads {G : Gam} {S : KS} (hS : KExt 435 S)   (M : KM) : Sim G Y_M_layRoads (f_M_layRoads  M) (kC 0 [some (VR (some 382)), none, none, none, none] [] S M) (fun (q : KM) => Sum.inr (none, S, q)) := by
  unfold f_M_layRoads
  refine s_iconst (dt_M_layRoads 0 _ _ _ rfl) rfl ?_
  refine s_istore_n (dt_M_layRoads 1 _ _ _ rfl) rfl ?_
  refine s_bd (κ := (fun (e4 : KM) => kC 38 [some (VR (some 382)), none, none, none, none] [] S e4)) (s_mask [true, true, false, false, false] (s_while (c := fun s1 => kC 2 [some (VR (some 382)), some (VI s1.1), none, none, none] [] S s1.2) (fun s1 => ?_) ((0 : Int), M))) ?_
  · refine s_iload_n (dt_M_layRoads 2 _ _ _ rfl) rfl ?_
    refine s_bipush (dt_M_layRoads 3 _ _ _ rfl) rfl ?_
    refine s_if_icmp_ge (tgt := 38) (dt_M_layRoads 4 _ _ _ rfl) rfl ?_ ?_
    · refine s_aload_n (dt_M_layRoads 5 _ _ _ rfl) rfl ?_
      refine s_getR (c := 1) (j := 50) (o := (some 413)) (dt_M_layRoads 6 _ _ _ rfl) (kf_M_107) (sc_382 hS) rfl rfl ?_
      refine s_iload_n (dt_M_layRoads 7 _ _ _ rfl) rfl ?_
      refine s_iload_n (dt_M_layRoads 8 _ _ _ rfl) rfl ?_
      refine s_bipush (dt_M_layRoads 9 _ _ _ rfl) rfl ?_
      refine s_idiv (dt_M_layRoads 10 _ _ _ rfl) ?_
      refine s_iload_n (dt_M_layRoads 11 _ _ _ rfl) rfl ?_
      refine s_bipush (dt_M_layRoads 12 _ _ _ rfl) rfl ?_
      refine s_irem (dt_M_layRoads 13 _ _ _ rfl) ?_
      refine s_bd (κ := fun t2 => kC 31 [some (VR (some 382)), some (VI s1.1), none, none, none] [VI t2, VI s1.1, VR (some 413)] S s1.2) ?_ (fun t2 => ?_)
      · refine s_if_icmp_ne (tgt := 28) (dt_M_layRoads 14 _ _ _ rfl) rfl ?_ ?_
        · refine s_iconst (dt_M_layRoads 15 _ _ _ rfl) rfl ?_
          refine s_goto (tgt := 31) (dt_M_layRoads 16 _ _ _ rfl) rfl ?_
          exact s_mask [true, true, false, false, false] (s_ret0 rfl)
        · refine s_ldcw (n := (100000000 : Int)) (kc_M_451) (dt_M_layRoads 17 _ _ _ rfl) rfl ?_
          exact s_mask [true, true, false, false, false] (s_ret0 rfl)
      refine s_iast (N := 64) (dt_M_layRoads 18 _ _ _ rfl) (sc_413 hS) rfl ?_
      refine s_letM (fun M3 => ?_)
      refine s_iinc (dt_M_layRoads 19 _ _ _ rfl) rfl rfl ?_
      refine s_goto (tgt := 2) (dt_M_layRoads 20 _ _ _ rfl) rfl ?_
      exact s_mask [true, true, false, false, false] (s_ret0 rfl)
    · exact s_mask [true, false, false, false, false] (s_ret0 rfl)
  intro e4
  refine s_bipush (dt_M_layRoads 21 _ _ _ rfl) rfl ?_
  refine s_aload_n (dt_M_layRoads 22 _ _ _ rfl) rfl ?_
  refine s_getI (c := 1) (j := 37) (dt_M_layRoads 23 _ _ _ rfl) (kf_M_288) (sc_382 hS) rfl ?_
  refine s_imul (dt_M_layRoads 24 _ _ _ rfl) ?_
  refine s_letI (fun v5 => ?_)
  refine s_istore_n (dt_M_layRoads 25 _ _ _ rfl) rfl ?_
  refine s_bd (κ := (fun (e11 : KM) => kC 126 [some (VR (some 382)), none, none, none, none] [] S e11)) (s_mask [true, true, false, false, false] (s_while (c := fun s6 => kC 46 [some (VR (some 382)), some (VI s6.1), none, none, none] [] S s6.2) (fun s6 => ?_) (v5, e4))) ?_
  · refine s_iload_n (dt_M_layRoads 26 _ _ _ rfl) rfl ?_
    refine s_bipush (dt_M_layRoads 27 _ _ _ rfl) rfl ?_
    refine s_aload_n (dt_M_layRoads 28 _ _ _ rfl) rfl ?_
    refine s_getI (c := 1) (j := 37) (dt_M_layRoads 29 _ _ _ rfl) (kf_M_288) (sc_382 hS) rfl ?_
    refine s_imul (dt_M_layRoads 30 _ _ _ rfl) ?_
    refine s_aload_n (dt_M_layRoads 31 _ _ _ rfl) rfl ?_
    refine s_getR (c := 1) (j := 12) (o := (some 386)) (dt_M_layRoads 32 _ _ _ rfl) (kf_M_24) (sc_382 hS) rfl rfl ?_
    refine s_aload_n (dt_M_layRoads 33 _ _ _ rfl) rfl ?_
    refine s_getI (c := 1) (j := 37) (dt_M_layRoads 34 _ _ _ rfl) (kf_M_288) (sc_382 hS) rfl ?_
    refine s_iald (N := 2) (dt_M_layRoads 35 _ _ _ rfl) (sc_386 hS) rfl ?_
    refine s_iadd (dt_M_layRoads 36 _ _ _ rfl) ?_
    refine s_if_icmp_ge (tgt := 126) (dt_M_layRoads 37 _ _ _ rfl) rfl ?_ ?_
    · refine s_aload_n (dt_M_layRoads 38 _ _ _ rfl) rfl ?_
      refine s_aload_n (dt_M_layRoads 39 _ _ _ rfl) rfl ?_
      refine s_getR (c := 1) (j := 23) (o := (some 397)) (dt_M_layRoads 40 _ _ _ rfl) (kf_M_57) (sc_382 hS) rfl rfl ?_
      refine s_iload_n (dt_M_layRoads 41 _ _ _ rfl) rfl ?_
      refine s_iald (N := 40) (dt_M_layRoads 42 _ _ _ rfl) (sc_397 hS) rfl ?_
      refine s_callO (y := y_M_isAlive) (Y' := Y_M_isAlive) (as := [VR (some 382), VI (s6.2 397 (s6.1).toNat)]) (r := fun q => some (VI q)) (M' := fun q => s6.2) (kInvV (dt_M_layRoads 43 _ _ _ rfl) kin_M_isAlive 1 rfl (sc_382 hS) kse_M_isAlive rfl) kl_M_404 md_M_isAlive rfl rfl (fun q hq => c_M_isAlive hS (s6.2 397 (s6.1).toNat) s6.2 q hq) (fun q7 => ?_)
      refine s_bd (κ := fun t10 => kC 120 [some (VR (some 382)), some (VI s6.1), none, none, none] [] S t10) ?_ (fun t10 => ?_)
      · refine s_if_eq (tgt := 120) (dt_M_layRoads 44 _ _ _ rfl) rfl ?_ ?_
        · exact s_mask [true, true, false, false, false] (s_ret0 rfl)
        · refine s_aload_n (dt_M_layRoads 45 _ _ _ rfl) rfl ?_
          refine s_aload_n (dt_M_layRoads 46 _ _ _ rfl) rfl ?_
          refine s_getR (c := 1) (j := 24) (o := (some 398)) (dt_M_layRoads 47 _ _ _ rfl) (kf_M_60) (sc_382 hS) rfl rfl ?_
          refine s_iload_n (dt_M_layRoads 48 _ _ _ rfl) rfl ?_
          refine s_iald (N := 40) (dt_M_layRoads 49 _ _ _ rfl) (sc_398 hS) rfl ?_
          refine s_callO (y := y_M_isAlive) (Y' := Y_M_isAlive) (as := [VR (some 382), VI (s6.2 398 (s6.1).toNat)]) (r := fun q => some (VI q)) (M' := fun q => s6.2) (kInvV (dt_M_layRoads 50 _ _ _ rfl) kin_M_isAlive 1 rfl (sc_382 hS) kse_M_isAlive rfl) kl_M_404 md_M_isAlive rfl rfl (fun q hq => c_M_isAlive hS (s6.2 398 (s6.1).toNat) s6.2 q hq) (fun q8 => ?_)
          refine s_if_eq (tgt := 120) (dt_M_layRoads 51 _ _ _ rfl) rfl ?_ ?_
          · exact s_mask [true, true, false, false, false] (s_ret0 rfl)
          · refine s_aload_n (dt_M_layRoads 52 _ _ _ rfl) rfl ?_
            refine s_getR (c := 1) (j := 50) (o := (some 413)) (dt_M_layRoads 53 _ _ _ rfl) (kf_M_107) (sc_382 hS) rfl rfl ?_
            refine s_bipush (dt_M_layRoads 54 _ _ _ rfl) rfl ?_
            refine s_aload_n (dt_M_layRoads 55 _ _ _ rfl) rfl ?_
            refine s_getR (c := 1) (j := 23) (o := (some 397)) (dt_M_layRoads 56 _ _ _ rfl) (kf_M_57) (sc_382 hS) rfl rfl ?_
            refine s_iload_n (dt_M_layRoads 57 _ _ _ rfl) rfl ?_
            refine s_iald (N := 40) (dt_M_layRoads 58 _ _ _ rfl) (sc_397 hS) rfl ?_
            refine s_imul (dt_M_layRoads 59 _ _ _ rfl) ?_
            refine s_aload_n (dt_M_layRoads 60 _ _ _ rfl) rfl ?_
            refine s_getR (c := 1) (j := 24) (o := (some 398)) (dt_M_layRoads 61 _ _ _ rfl) (kf_M_60) (sc_382 hS) rfl rfl ?_
            refine s_iload_n (dt_M_layRoads 62 _ _ _ rfl) rfl ?_
            refine s_iald (N := 40) (dt_M_layRoads 63 _ _ _ rfl) (sc_398 hS) rfl ?_
            refine s_iadd (dt_M_layRoads 64 _ _ _ rfl) ?_
            refine s_aload_n (dt_M_layRoads 65 _ _ _ rfl) rfl ?_
            refine s_getR (c := 1) (j := 25) (o := (some 399)) (dt_M_layRoads 66 _ _ _ rfl) (kf_M_63) (sc_382 hS) rfl rfl ?_
            refine s_iload_n (dt_M_layRoads 67 _ _ _ rfl) rfl ?_
            refine s_iald (N := 40) (dt_M_layRoads 68 _ _ _ rfl) (sc_399 hS) rfl ?_
            refine s_iast (N := 64) (dt_M_layRoads 69 _ _ _ rfl) (sc_413 hS) rfl ?_
            refine s_letM (fun M9 => ?_)
            exact s_mask [true, true, false, false, false] (s_ret0 rfl)
      refine s_iinc (dt_M_layRoads 70 _ _ _ rfl) rfl rfl ?_
      refine s_goto (tgt := 46) (dt_M_layRoads 71 _ _ _ rfl) rfl ?_
      exact s_mask [true, true, false, false, false] (s_ret0 rfl)
    · exact s_mask [true, false, false, false, false] (s_ret0 rfl)
  intro e11
  refine s_iconst (dt_M_layRoads 72 _ _ _ rfl) rfl ?_
  refine s_istore_n (dt_M_layRoads 73 _ _ _ rfl) rfl ?_
  refine s_bd (κ := (fun (e20 : KM) => kC 222 [none, none, none, none, none] [] S e20)) (s_mask [true, true, false, false, false] (s_while (c := fun s12 => kC 128 [some (VR (some 382)), some (VI s12.1), none, none, none] [] S s12.2) (fun s12 => ?_) ((0 : Int), e11))) ?_
  · refine s_iload_n (dt_M_layRoads 74 _ _ _ rfl) rfl ?_
    refine s_bipush (dt_M_layRoads 75 _ _ _ rfl) rfl ?_
    refine s_if_icmp_ge (tgt := 222) (dt_M_layRoads 76 _ _ _ rfl) rfl ?_ ?_
    · refine s_iconst (dt_M_layRoads 77 _ _ _ rfl) rfl ?_
      refine s_istore_n (dt_M_layRoads 78 _ _ _ rfl) rfl ?_
      refine s_bd (κ := (fun (e19 : KM) => kC 216 [some (VR (some 382)), some (VI s12.1), none, none, none] [] S e19)) (s_mask [true, true, true, false, false] (s_while (c := fun s13 => kC 136 [some (VR (some 382)), some (VI s12.1), some (VI s13.1), none, none] [] S s13.2) (fun s13 => ?_) ((0 : Int), s12.2))) ?_
      · refine s_iload_n (dt_M_layRoads 79 _ _ _ rfl) rfl ?_
        refine s_bipush (dt_M_layRoads 80 _ _ _ rfl) rfl ?_
        refine s_if_icmp_ge (tgt := 216) (dt_M_layRoads 81 _ _ _ rfl) rfl ?_ ?_
        · refine s_iconst (dt_M_layRoads 82 _ _ _ rfl) rfl ?_
          refine s_istore_n (dt_M_layRoads 83 _ _ _ rfl) rfl ?_
          refine s_bd (κ := (fun (e18 : KM) => kC 210 [some (VR (some 382)), some (VI s12.1), some (VI s13.1), none, none] [] S e18)) (s_mask [true, true, true, true, false] (s_while (c := fun s14 => kC 144 [some (VR (some 382)), some (VI s12.1), some (VI s13.1), some (VI s14.1), none] [] S s14.2) (fun s14 => ?_) ((0 : Int), s13.2))) ?_
          · refine s_iload_n (dt_M_layRoads 84 _ _ _ rfl) rfl ?_
            refine s_bipush (dt_M_layRoads 85 _ _ _ rfl) rfl ?_
            refine s_if_icmp_ge (tgt := 210) (dt_M_layRoads 86 _ _ _ rfl) rfl ?_ ?_
            · refine s_aload_n (dt_M_layRoads 87 _ _ _ rfl) rfl ?_
              refine s_getR (c := 1) (j := 50) (o := (some 413)) (dt_M_layRoads 88 _ _ _ rfl) (kf_M_107) (sc_382 hS) rfl rfl ?_
              refine s_bipush (dt_M_layRoads 89 _ _ _ rfl) rfl ?_
              refine s_iload_n (dt_M_layRoads 90 _ _ _ rfl) rfl ?_
              refine s_imul (dt_M_layRoads 91 _ _ _ rfl) ?_
              refine s_iload_n (dt_M_layRoads 92 _ _ _ rfl) rfl ?_
              refine s_iadd (dt_M_layRoads 93 _ _ _ rfl) ?_
              refine s_iald (N := 64) (dt_M_layRoads 94 _ _ _ rfl) (sc_413 hS) rfl ?_
              refine s_aload_n (dt_M_layRoads 95 _ _ _ rfl) rfl ?_
              refine s_getR (c := 1) (j := 50) (o := (some 413)) (dt_M_layRoads 96 _ _ _ rfl) (kf_M_107) (sc_382 hS) rfl rfl ?_
              refine s_bipush (dt_M_layRoads 97 _ _ _ rfl) rfl ?_
              refine s_iload_n (dt_M_layRoads 98 _ _ _ rfl) rfl ?_
              refine s_imul (dt_M_layRoads 99 _ _ _ rfl) ?_
              refine s_iload_n (dt_M_layRoads 100 _ _ _ rfl) rfl ?_
              refine s_iadd (dt_M_layRoads 101 _ _ _ rfl) ?_
              refine s_iald (N := 64) (dt_M_layRoads 102 _ _ _ rfl) (sc_413 hS) rfl ?_
              refine s_iadd (dt_M_layRoads 103 _ _ _ rfl) ?_
              refine s_letI (fun v15 => ?_)
              refine s_istore (dt_M_layRoads 104 _ _ _ rfl) rfl ?_
              refine s_iload (dt_M_layRoads 105 _ _ _ rfl) rfl ?_
              refine s_aload_n (dt_M_layRoads 106 _ _ _ rfl) rfl ?_
              refine s_getR (c := 1) (j := 50) (o := (some 413)) (dt_M_layRoads 107 _ _ _ rfl) (kf_M_107) (sc_382 hS) rfl rfl ?_
              refine s_bipush (dt_M_layRoads 108 _ _ _ rfl) rfl ?_
              refine s_iload_n (dt_M_layRoads 109 _ _ _ rfl) rfl ?_
              refine s_imul (dt_M_layRoads 110 _ _ _ rfl) ?_
              refine s_iload_n (dt_M_layRoads 111 _ _ _ rfl) rfl ?_
              refine s_iadd (dt_M_layRoads 112 _ _ _ rfl) ?_
              refine s_iald (N := 64) (dt_M_layRoads 113 _ _ _ rfl) (sc_413 hS) rfl ?_
              refine s_bd (κ := fun t17 => kC 204 [some (VR (some 382)), some (VI s12.1), some (VI s13.1), some (VI s14.1), none] [] S t17) ?_ (fun t17 => ?_)
              · refine s_if_icmp_ge (tgt := 204) (dt_M_layRoads 114 _ _ _ rfl) rfl ?_ ?_
                · refine s_aload_n (dt_M_layRoads 115 _ _ _ rfl) rfl ?_
                  refine s_getR (c := 1) (j := 50) (o := (some 413)) (dt_M_layRoads 116 _ _ _ rfl) (kf_M_107) (sc_382 hS) rfl rfl ?_
                  refine s_bipush (dt_M_layRoads 117 _ _ _ rfl) rfl ?_
                  refine s_iload_n (dt_M_layRoads 118 _ _ _ rfl) rfl ?_
                  refine s_imul (dt_M_layRoads 119 _ _ _ rfl) ?_
                  refine s_iload_n (dt_M_layRoads 120 _ _ _ rfl) rfl ?_
                  refine s_iadd (dt_M_layRoads 121 _ _ _ rfl) ?_
                  refine s_iload (dt_M_layRoads 122 _ _ _ rfl) rfl ?_
                  refine s_iast (N := 64) (dt_M_layRoads 123 _ _ _ rfl) (sc_413 hS) rfl ?_
                  refine s_letM (fun M16 => ?_)
                  exact s_mask [true, true, true, true, false] (s_ret0 rfl)
                · exact s_mask [true, true, true, true, false] (s_ret0 rfl)
              refine s_iinc (dt_M_layRoads 124 _ _ _ rfl) rfl rfl ?_
              refine s_goto (tgt := 144) (dt_M_layRoads 125 _ _ _ rfl) rfl ?_
              exact s_mask [true, true, true, true, false] (s_ret0 rfl)
            · exact s_mask [true, true, true, false, false] (s_ret0 rfl)
          intro e18
          refine s_iinc (dt_M_layRoads 126 _ _ _ rfl) rfl rfl ?_
          refine s_goto (tgt := 136) (dt_M_layRoads 127 _ _ _ rfl) rfl ?_
          exact s_mask [true, true, true, false, false] (s_ret0 rfl)
        · exact s_mask [true, true, false, false, false] (s_ret0 rfl)
      intro e19
      refine s_iinc (dt_M_layRoads 128 _ _ _ rfl) rfl rfl ?_
      refine s_goto (tgt := 128) (dt_M_layRoads 129 _ _ _ rfl) rfl ?_
      exact s_mask [true, true, false, false, false] (s_ret0 rfl)
    · exact s_mask [false, false, false, false, false] (s_ret0 rfl)
  intro e20
  exact s_vret (dt_M_layRoads 130 _ _ _ rfl) rfl rfl
theorem c_M_layRoads {S : KS} (hS : KExt 435 S)   (M : KM) : ∀ q, f_M_layRoads  M = some q → Ctr y_M_layRoads Y_M_layRoads [VR (some 382)] S M (none) S (q) := fun q hq =>
  ctr_of md_M_layRoads (Nat.le_of_ble_eq_true rfl) ⟨Nat.le_refl _, Nat.le_refl _⟩ 4 hq rfl (fun _ G => sim_M_layRoads hS   M)
set_option maxRecDepth 100000 in
theorem sim_M_cheapest {G : Gam} {S : KS} (hS : KExt 435 S)   (M : KM) : Sim G Y_M_cheapest (f_M_cheapest  M) (kC 0 [some (VR (some 382)), none, none, none, none, none] [] S M) (fun (q : Int × KM) => Sum.inr (some (VI q.1), S, q.2)) := by
  unfold f_M_cheapest
  refine s_aload_n (dt_M_cheapest 0 _ _ _ rfl) rfl ?_
  refine s_callO (y := y_M_layRoads) (Y' := Y_M_layRoads) (as := [VR (some 382)]) (r := fun q => none) (M' := fun q => q) (kInvV (dt_M_cheapest 1 _ _ _ rfl) kin_M_layRoads 1 rfl (sc_382 hS) kse_M_layRoads rfl) kl_M_458 md_M_layRoads rfl rfl (fun q hq => c_M_layRoads hS M q hq) (fun q1 => ?_)
  refine s_iconst (dt_M_cheapest 2 _ _ _ rfl) rfl ?_
  refine s_istore_n (dt_M_cheapest 3 _ _ _ rfl) rfl ?_
  refine s_iconst (dt_M_cheapest 4 _ _ _ rfl) rfl ?_
  refine s_istore_n (dt_M_cheapest 5 _ _ _ rfl) rfl ?_
  refine s_bd (κ := (fun (e6 : Int × KM) => kC 41 [some (VR (some 382)), some (VI e6.1), none, none, none, none] [] S e6.2)) (s_mask [true, true, true, false, false, false] (s_while (c := fun s2 => kC 8 [some (VR (some 382)), some (VI s2.1), some (VI s2.2.1), none, none, none] [] S s2.2.2) (fun s2 => ?_) ((0 : Int), (0 : Int), q1))) ?_
  · refine s_iload_n (dt_M_cheapest 6 _ _ _ rfl) rfl ?_
    refine s_bipush (dt_M_cheapest 7 _ _ _ rfl) rfl ?_
    refine s_if_icmp_ge (tgt := 41) (dt_M_cheapest 8 _ _ _ rfl) rfl ?_ ?_
    · refine s_aload_n (dt_M_cheapest 9 _ _ _ rfl) rfl ?_
      refine s_getR (c := 1) (j := 52) (o := (some 415)) (dt_M_cheapest 10 _ _ _ rfl) (kf_M_113) (sc_382 hS) rfl rfl ?_
      refine s_iload_n (dt_M_cheapest 11 _ _ _ rfl) rfl ?_
      refine s_aload_n (dt_M_cheapest 12 _ _ _ rfl) rfl ?_
      refine s_iload_n (dt_M_cheapest 13 _ _ _ rfl) rfl ?_
      refine s_callO (y := y_M_missing) (Y' := Y_M_missing) (as := [VR (some 382), VI s2.2.1]) (r := fun q => some (VI q)) (M' := fun q => s2.2.2) (kInvV (dt_M_cheapest 14 _ _ _ rfl) kin_M_missing 1 rfl (sc_382 hS) kse_M_missing rfl) kl_M_455 md_M_missing rfl rfl (fun q hq => c_M_missing hS s2.2.1 s2.2.2 q hq) (fun q3 => ?_)
      refine s_ineg (dt_M_cheapest 15 _ _ _ rfl) ?_
      refine s_iast (N := 8) (dt_M_cheapest 16 _ _ _ rfl) (sc_415 hS) rfl ?_
      refine s_letM (fun M4 => ?_)
      refine s_iload_n (dt_M_cheapest 17 _ _ _ rfl) rfl ?_
      refine s_aload_n (dt_M_cheapest 18 _ _ _ rfl) rfl ?_
      refine s_getR (c := 1) (j := 52) (o := (some 415)) (dt_M_cheapest 19 _ _ _ rfl) (kf_M_113) (sc_382 hS) rfl rfl ?_
      refine s_iload_n (dt_M_cheapest 20 _ _ _ rfl) rfl ?_
      refine s_iald (N := 8) (dt_M_cheapest 21 _ _ _ rfl) (sc_415 hS) rfl ?_
      refine s_iadd (dt_M_cheapest 22 _ _ _ rfl) ?_
      refine s_letI (fun v5 => ?_)
      refine s_istore_n (dt_M_cheapest 23 _ _ _ rfl) rfl ?_
      refine s_iinc (dt_M_cheapest 24 _ _ _ rfl) rfl rfl ?_
      refine s_goto (tgt := 8) (dt_M_cheapest 25 _ _ _ rfl) rfl ?_
      exact s_mask [true, true, true, false, false, false] (s_ret0 rfl)
    · exact s_mask [true, true, false, false, false, false] (s_ret0 rfl)
  intro e6
  refine s_iload_n (dt_M_cheapest 26 _ _ _ rfl) rfl ?_
  refine s_if_eq (tgt := 47) (dt_M_cheapest 27 _ _ _ rfl) rfl ?_ ?_
  · refine s_iconst (dt_M_cheapest 30 _ _ _ rfl) rfl ?_
    refine s_istore_n (dt_M_cheapest 31 _ _ _ rfl) rfl ?_
    refine s_bd (κ := (fun (e9 : KM) => kC 68 [some (VR (some 382)), none, none, none, none, none] [] S e9)) (s_mask [true, false, true, false, false, false] (s_while (c := fun s7 => kC 49 [some (VR (some 382)), none, some (VI s7.1), none, none, none] [] S s7.2) (fun s7 => ?_) ((0 : Int), e6.2))) ?_
    · refine s_iload_n (dt_M_cheapest 32 _ _ _ rfl) rfl ?_
      refine s_bipush (dt_M_cheapest 33 _ _ _ rfl) rfl ?_
      refine s_if_icmp_ge (tgt := 68) (dt_M_cheapest 34 _ _ _ rfl) rfl ?_ ?_
      · refine s_aload_n (dt_M_cheapest 35 _ _ _ rfl) rfl ?_
        refine s_getR (c := 1) (j := 53) (o := (some 416)) (dt_M_cheapest 36 _ _ _ rfl) (kf_M_116) (sc_382 hS) rfl rfl ?_
        refine s_iload_n (dt_M_cheapest 37 _ _ _ rfl) rfl ?_
        refine s_iconst (dt_M_cheapest 38 _ _ _ rfl) rfl ?_
        refine s_iast (N := 64) (dt_M_cheapest 39 _ _ _ rfl) (sc_416 hS) rfl ?_
        refine s_letM (fun M8 => ?_)
        refine s_iinc (dt_M_cheapest 40 _ _ _ rfl) rfl rfl ?_
        refine s_goto (tgt := 49) (dt_M_cheapest 41 _ _ _ rfl) rfl ?_
        exact s_mask [true, false, true, false, false, false] (s_ret0 rfl)
      · exact s_mask [true, false, false, false, false, false] (s_ret0 rfl)
    intro e9
    refine s_iconst (dt_M_cheapest 42 _ _ _ rfl) rfl ?_
    refine s_istore_n (dt_M_cheapest 43 _ _ _ rfl) rfl ?_
    refine s_bd (κ := (Sum.elim (fun (e18 : Int × KM) => kC 152 [none, none, some (VI e18.1), none, none, none] [] S e18.2) (fun (e19 : KM) => kC 158 [none, none, none, none, none, none] [] S e19))) (s_mask [true, false, true, false, false, false] (s_while (c := fun s10 => kC 70 [some (VR (some 382)), none, some (VI s10.1), none, none, none] [] S s10.2) (fun s10 => ?_) ((0 : Int), e9))) ?_
    · refine s_aload_n (dt_M_cheapest 44 _ _ _ rfl) rfl ?_
      refine s_callO (y := y_M_layCheap) (Y' := Y_M_layCheap) (as := [VR (some 382)]) (r := fun q => none) (M' := fun q => q) (kInvV (dt_M_cheapest 45 _ _ _ rfl) kin_M_layCheap 1 rfl (sc_382 hS) kse_M_layCheap rfl) kl_M_461 md_M_layCheap rfl rfl (fun q hq => c_M_layCheap hS s10.2 q hq) (fun q11 => ?_)
      refine s_iconst (dt_M_cheapest 46 _ _ _ rfl) rfl ?_
      refine s_istore_n (dt_M_cheapest 47 _ _ _ rfl) rfl ?_
      refine s_iconst (dt_M_cheapest 48 _ _ _ rfl) rfl ?_
      refine s_istore (dt_M_cheapest 49 _ _ _ rfl) rfl ?_
      refine s_iconst (dt_M_cheapest 50 _ _ _ rfl) rfl ?_
      refine s_istore (dt_M_cheapest 51 _ _ _ rfl) rfl ?_
      refine s_bd (κ := (fun (e14 : Int × Int) => kC 147 [some (VR (some 382)), none, some (VI s10.1), some (VI e14.1), some (VI e14.2), none] [] S q11)) (s_mask [true, false, true, true, true, true] (s_while (c := fun s12 => kC 82 [some (VR (some 382)), none, some (VI s10.1), some (VI s12.1), some (VI s12.2.1), some (VI s12.2.2)] [] S q11) (fun s12 => ?_) ((-1 : Int), (0 : Int), (0 : Int)))) ?_
      · refine s_iload (dt_M_cheapest 52 _ _ _ rfl) rfl ?_
        refine s_bipush (dt_M_cheapest 53 _ _ _ rfl) rfl ?_
        refine s_if_icmp_ge (tgt := 147) (dt_M_cheapest 54 _ _ _ rfl) rfl ?_ ?_
        · refine s_aload_n (dt_M_cheapest 55 _ _ _ rfl) rfl ?_
          refine s_getR (c := 1) (j := 52) (o := (some 415)) (dt_M_cheapest 56 _ _ _ rfl) (kf_M_113) (sc_382 hS) rfl rfl ?_
          refine s_iload (dt_M_cheapest 57 _ _ _ rfl) rfl ?_
          refine s_iald (N := 8) (dt_M_cheapest 58 _ _ _ rfl) (sc_415 hS) rfl ?_
          refine s_bd (κ := fun t13 => kC 141 [some (VR (some 382)), none, some (VI s10.1), some (VI t13.1), some (VI t13.2), some (VI s12.2.2)] [] S q11) ?_ (fun t13 => ?_)
          · refine s_if_lt (tgt := 102) (dt_M_cheapest 59 _ _ _ rfl) rfl ?_ ?_
            · refine s_iconst (dt_M_cheapest 61 _ _ _ rfl) rfl ?_
              refine s_istore (dt_M_cheapest 62 _ _ _ rfl) rfl ?_
              refine s_aload_n (dt_M_cheapest 63 _ _ _ rfl) rfl ?_
              refine s_getR (c := 1) (j := 54) (o := (some 417)) (dt_M_cheapest 64 _ _ _ rfl) (kf_M_119) (sc_382 hS) rfl rfl ?_
              refine s_iload (dt_M_cheapest 65 _ _ _ rfl) rfl ?_
              refine s_iald (N := 8) (dt_M_cheapest 66 _ _ _ rfl) (sc_417 hS) rfl ?_
              refine s_ldcw (n := (100000000 : Int)) (kc_M_451) (dt_M_cheapest 67 _ _ _ rfl) rfl ?_
              refine s_if_icmp_ge (tgt := 141) (dt_M_cheapest 68 _ _ _ rfl) rfl ?_ ?_
              · refine s_iload_n (dt_M_cheapest 69 _ _ _ rfl) rfl ?_
                refine s_if_lt (tgt := 138) (dt_M_cheapest 70 _ _ _ rfl) rfl ?_ ?_
                · refine s_iload (dt_M_cheapest 80 _ _ _ rfl) rfl ?_
                  refine s_istore_n (dt_M_cheapest 81 _ _ _ rfl) rfl ?_
                  exact s_mask [true, false, true, true, true, true] (s_ret0 rfl)
                · refine s_aload_n (dt_M_cheapest 71 _ _ _ rfl) rfl ?_
                  refine s_getR (c := 1) (j := 54) (o := (some 417)) (dt_M_cheapest 72 _ _ _ rfl) (kf_M_119) (sc_382 hS) rfl rfl ?_
                  refine s_iload (dt_M_cheapest 73 _ _ _ rfl) rfl ?_
                  refine s_iald (N := 8) (dt_M_cheapest 74 _ _ _ rfl) (sc_417 hS) rfl ?_
                  refine s_aload_n (dt_M_cheapest 75 _ _ _ rfl) rfl ?_
                  refine s_getR (c := 1) (j := 54) (o := (some 417)) (dt_M_cheapest 76 _ _ _ rfl) (kf_M_119) (sc_382 hS) rfl rfl ?_
                  refine s_iload_n (dt_M_cheapest 77 _ _ _ rfl) rfl ?_
                  refine s_iald (N := 8) (dt_M_cheapest 78 _ _ _ rfl) (sc_417 hS) rfl ?_
                  refine s_if_icmp_ge (tgt := 141) (dt_M_cheapest 79 _ _ _ rfl) rfl ?_ ?_
                  · refine s_iload (dt_M_cheapest 80 _ _ _ rfl) rfl ?_
                    refine s_istore_n (dt_M_cheapest 81 _ _ _ rfl) rfl ?_
                    exact s_mask [true, false, true, true, true, true] (s_ret0 rfl)
                  · exact s_mask [true, false, true, true, true, true] (s_ret0 rfl)
              · exact s_mask [true, false, true, true, true, true] (s_ret0 rfl)
            · refine s_goto (tgt := 141) (dt_M_cheapest 60 _ _ _ rfl) rfl ?_
              exact s_mask [true, false, true, true, true, true] (s_ret0 rfl)
          refine s_iinc (dt_M_cheapest 82 _ _ _ rfl) rfl rfl ?_
          refine s_goto (tgt := 82) (dt_M_cheapest 83 _ _ _ rfl) rfl ?_
          exact s_mask [true, false, true, true, true, true] (s_ret0 rfl)
        · exact s_mask [true, false, true, true, true, false] (s_ret0 rfl)
      intro e14
      refine s_iload (dt_M_cheapest 84 _ _ _ rfl) rfl ?_
      refine s_if_ne (tgt := 154) (dt_M_cheapest 85 _ _ _ rfl) rfl ?_ ?_
      · exact s_mask [false, false, true, false, false, false] (s_ret0 rfl)
      · refine s_iload_n (dt_M_cheapest 88 _ _ _ rfl) rfl ?_
        refine s_if_ge (tgt := 160) (dt_M_cheapest 89 _ _ _ rfl) rfl ?_ ?_
        · exact s_mask [false, false, false, false, false, false] (s_ret0 rfl)
        · refine s_aload_n (dt_M_cheapest 92 _ _ _ rfl) rfl ?_
          refine s_getR (c := 1) (j := 54) (o := (some 417)) (dt_M_cheapest 93 _ _ _ rfl) (kf_M_119) (sc_382 hS) rfl rfl ?_
          refine s_iload_n (dt_M_cheapest 94 _ _ _ rfl) rfl ?_
          refine s_iald (N := 8) (dt_M_cheapest 95 _ _ _ rfl) (sc_417 hS) rfl ?_
          refine s_letI (fun v15 => ?_)
          refine s_istore (dt_M_cheapest 96 _ _ _ rfl) rfl ?_
          refine s_iload_n (dt_M_cheapest 97 _ _ _ rfl) rfl ?_
          refine s_iload (dt_M_cheapest 98 _ _ _ rfl) rfl ?_
          refine s_aload_n (dt_M_cheapest 99 _ _ _ rfl) rfl ?_
          refine s_iload_n (dt_M_cheapest 100 _ _ _ rfl) rfl ?_
          refine s_callO (y := y_M_carry) (Y' := Y_M_carry) (as := [VR (some 382), VI e14.1]) (r := fun q => some (VI q.1)) (M' := fun q => q.2) (kInvV (dt_M_cheapest 101 _ _ _ rfl) kin_M_carry 1 rfl (sc_382 hS) kse_M_carry rfl) kl_M_464 md_M_carry rfl rfl (fun q hq => c_M_carry hS e14.1 q11 q hq) (fun q16 => ?_)
          refine s_imul (dt_M_cheapest 102 _ _ _ rfl) ?_
          refine s_iadd (dt_M_cheapest 103 _ _ _ rfl) ?_
          refine s_letI (fun v17 => ?_)
          refine s_istore_n (dt_M_cheapest 104 _ _ _ rfl) rfl ?_
          refine s_goto (tgt := 70) (dt_M_cheapest 105 _ _ _ rfl) rfl ?_
          exact s_mask [true, false, true, false, false, false] (s_ret0 rfl)
    refine s_elim (fun e18 => ?_) ?_
    · refine s_iload_n (dt_M_cheapest 86 _ _ _ rfl) rfl ?_
      exact s_iret (dt_M_cheapest 87 _ _ _ rfl) rfl rfl
    intro e19
    refine s_iconst (dt_M_cheapest 90 _ _ _ rfl) rfl ?_
    exact s_iret (dt_M_cheapest 91 _ _ _ rfl) rfl rfl
  · refine s_iconst (dt_M_cheapest 28 _ _ _ rfl) rfl ?_
    exact s_iret (dt_M_cheapest 29 _ _ _ rfl) rfl rfl
theorem c_M_cheapest {S : KS} (hS : KExt 435 S)   (M : KM) : ∀ q, f_M_cheapest  M = some q → Ctr y_M_cheapest Y_M_cheapest [VR (some 382)] S M (some (VI q.1)) S (q.2) := fun q hq =>
  ctr_of md_M_cheapest (Nat.le_of_ble_eq_true rfl) ⟨Nat.le_refl _, Nat.le_refl _⟩ 5 hq rfl (fun _ G => sim_M_cheapest hS   M)
set_option maxRecDepth 100000 in
theorem sim_M_canCome {G : Gam} {S : KS} (hS : KExt 435 S)  (a0 : Int) (M : KM) : Sim G Y_M_canCome (f_M_canCome a0 M) (kC 0 [some (VR (some 382)), some (VI a0), none, none] [] S M) (fun (q : Int) => Sum.inr (some (VI q), S, M)) := by
  unfold f_M_canCome
  refine s_iconst (dt_M_canCome 0 _ _ _ rfl) rfl ?_
  refine s_istore_n (dt_M_canCome 1 _ _ _ rfl) rfl ?_
  refine s_iconst (dt_M_canCome 2 _ _ _ rfl) rfl ?_
  refine s_istore_n (dt_M_canCome 3 _ _ _ rfl) rfl ?_
  refine s_bd (κ := (fun (e6 : Int) => kC 69 [none, none, some (VI e6), none] [] S M)) (s_mask [true, true, true, true] (s_while (c := fun s1 => kC 4 [some (VR (some 382)), some (VI a0), some (VI s1.1), some (VI s1.2)] [] S M) (fun s1 => ?_) ((0 : Int), (0 : Int)))) ?_
  · refine s_iload_n (dt_M_canCome 4 _ _ _ rfl) rfl ?_
    refine s_aload_n (dt_M_canCome 5 _ _ _ rfl) rfl ?_
    refine s_callO (y := y_M_many) (Y' := Y_M_many) (as := [VR (some 382)]) (r := fun q => some (VI q)) (M' := fun q => M) (kInvV (dt_M_canCome 6 _ _ _ rfl) kin_M_many 1 rfl (sc_382 hS) kse_M_many rfl) kl_M_385 md_M_many rfl rfl (fun q hq => c_M_many hS M q hq) (fun q2 => ?_)
    refine s_if_icmp_ge (tgt := 69) (dt_M_canCome 7 _ _ _ rfl) rfl ?_ ?_
    · refine s_iload_n (dt_M_canCome 8 _ _ _ rfl) rfl ?_
      refine s_iload_n (dt_M_canCome 9 _ _ _ rfl) rfl ?_
      refine s_bd (κ := fun t5 => kC 63 [some (VR (some 382)), some (VI a0), some (VI t5), some (VI s1.2)] [] S M) ?_ (fun t5 => ?_)
      · refine s_if_icmp_eq (tgt := 63) (dt_M_canCome 10 _ _ _ rfl) rfl ?_ ?_
        · exact s_mask [true, true, true, true] (s_ret0 rfl)
        · refine s_aload_n (dt_M_canCome 11 _ _ _ rfl) rfl ?_
          refine s_iload_n (dt_M_canCome 12 _ _ _ rfl) rfl ?_
          refine s_callO (y := y_M_isAlive) (Y' := Y_M_isAlive) (as := [VR (some 382), VI s1.2]) (r := fun q => some (VI q)) (M' := fun q => M) (kInvV (dt_M_canCome 13 _ _ _ rfl) kin_M_isAlive 1 rfl (sc_382 hS) kse_M_isAlive rfl) kl_M_404 md_M_isAlive rfl rfl (fun q hq => c_M_isAlive hS s1.2 M q hq) (fun q3 => ?_)
          refine s_if_eq (tgt := 63) (dt_M_canCome 14 _ _ _ rfl) rfl ?_ ?_
          · exact s_mask [true, true, true, true] (s_ret0 rfl)
          · refine s_aload_n (dt_M_canCome 15 _ _ _ rfl) rfl ?_
            refine s_getR (c := 1) (j := 50) (o := (some 413)) (dt_M_canCome 16 _ _ _ rfl) (kf_M_107) (sc_382 hS) rfl rfl ?_
            refine s_bipush (dt_M_canCome 17 _ _ _ rfl) rfl ?_
            refine s_iload_n (dt_M_canCome 18 _ _ _ rfl) rfl ?_
            refine s_imul (dt_M_canCome 19 _ _ _ rfl) ?_
            refine s_iload_n (dt_M_canCome 20 _ _ _ rfl) rfl ?_
            refine s_iadd (dt_M_canCome 21 _ _ _ rfl) ?_
            refine s_iald (N := 64) (dt_M_canCome 22 _ _ _ rfl) (sc_413 hS) rfl ?_
            refine s_ldcw (n := (100000000 : Int)) (kc_M_451) (dt_M_canCome 23 _ _ _ rfl) rfl ?_
            refine s_if_icmp_ge (tgt := 63) (dt_M_canCome 24 _ _ _ rfl) rfl ?_ ?_
            · refine s_iload_n (dt_M_canCome 25 _ _ _ rfl) rfl ?_
              refine s_aload_n (dt_M_canCome 26 _ _ _ rfl) rfl ?_
              refine s_getR (c := 1) (j := 46) (o := (some 411)) (dt_M_canCome 27 _ _ _ rfl) (kf_M_101) (sc_382 hS) rfl rfl ?_
              refine s_iconst (dt_M_canCome 28 _ _ _ rfl) rfl ?_
              refine s_iload_n (dt_M_canCome 29 _ _ _ rfl) rfl ?_
              refine s_iadd (dt_M_canCome 30 _ _ _ rfl) ?_
              refine s_iald (N := 171) (dt_M_canCome 31 _ _ _ rfl) (sc_411 hS) rfl ?_
              refine s_aload_n (dt_M_canCome 32 _ _ _ rfl) rfl ?_
              refine s_getR (c := 1) (j := 16) (o := (some 390)) (dt_M_canCome 33 _ _ _ rfl) (kf_M_36) (sc_382 hS) rfl rfl ?_
              refine s_aload_n (dt_M_canCome 34 _ _ _ rfl) rfl ?_
              refine s_getI (c := 1) (j := 37) (dt_M_canCome 35 _ _ _ rfl) (kf_M_288) (sc_382 hS) rfl ?_
              refine s_iald (N := 2) (dt_M_canCome 36 _ _ _ rfl) (sc_390 hS) rfl ?_
              refine s_isub (dt_M_canCome 37 _ _ _ rfl) ?_
              refine s_iadd (dt_M_canCome 38 _ _ _ rfl) ?_
              refine s_letI (fun v4 => ?_)
              refine s_istore_n (dt_M_canCome 39 _ _ _ rfl) rfl ?_
              exact s_mask [true, true, true, true] (s_ret0 rfl)
            · exact s_mask [true, true, true, true] (s_ret0 rfl)
      refine s_iinc (dt_M_canCome 40 _ _ _ rfl) rfl rfl ?_
      refine s_goto (tgt := 4) (dt_M_canCome 41 _ _ _ rfl) rfl ?_
      exact s_mask [true, true, true, true] (s_ret0 rfl)
    · exact s_mask [false, false, true, false] (s_ret0 rfl)
  intro e6
  refine s_iload_n (dt_M_canCome 42 _ _ _ rfl) rfl ?_
  exact s_iret (dt_M_canCome 43 _ _ _ rfl) rfl rfl
theorem c_M_canCome {S : KS} (hS : KExt 435 S)  (a0 : Int) (M : KM) : ∀ q, f_M_canCome a0 M = some q → Ctr y_M_canCome Y_M_canCome [VR (some 382), VI a0] S M (some (VI q)) S (M) := fun q hq =>
  ctr_of md_M_canCome (Nat.le_of_ble_eq_true rfl) ⟨Nat.le_refl _, Nat.le_refl _⟩ 2 hq rfl (fun _ G => sim_M_canCome hS  a0 M)
