set_option maxRecDepth 100000 in
theorem sim_M_goOn {G : Gam} {S : KS} (hS : KExt 435 S)   (M : KM) : Sim G Y_M_goOn (f_M_goOn  M) (kC 0 [some (VR (some 382)), none, none] [] S M) (fun (q : KM) => Sum.inr (none, S, q)) := by
  unfold f_M_goOn
  refine s_aload_n (dt_M_goOn 0 _ _ _ rfl) rfl ?_
  refine s_aload_n (dt_M_goOn 1 _ _ _ rfl) rfl ?_
  refine s_getI (c := 1) (j := 7) (dt_M_goOn 2 _ _ _ rfl) (kf_M_220) (sc_382 hS) rfl ?_
  refine s_putI (c := 1) (j := 6) (dt_M_goOn 3 _ _ _ rfl) kp_M_223 (sc_382 hS) ⟨rfl, rfl⟩ ?_
  refine s_letM (fun M1 => ?_)
  refine s_bd (κ := (fun (e7 : KM) => kC 58 [some (VR (some 382)), none, none] [] S e7)) (s_mask [true, false, false] (s_while (c := fun s2 => kC 8 [some (VR (some 382)), none, none] [] S s2) (fun s2 => ?_) M1)) ?_
  · refine s_aload_n (dt_M_goOn 4 _ _ _ rfl) rfl ?_
    refine s_getI (c := 1) (j := 6) (dt_M_goOn 5 _ _ _ rfl) (kf_M_223) (sc_382 hS) rfl ?_
    refine s_aload_n (dt_M_goOn 6 _ _ _ rfl) rfl ?_
    refine s_getI (c := 1) (j := 3) (dt_M_goOn 7 _ _ _ rfl) (kf_M_182) (sc_382 hS) rfl ?_
    refine s_if_icmp_ge (tgt := 58) (dt_M_goOn 8 _ _ _ rfl) rfl ?_ ?_
    · refine s_aload_n (dt_M_goOn 9 _ _ _ rfl) rfl ?_
      refine s_aload_n (dt_M_goOn 10 _ _ _ rfl) rfl ?_
      refine s_getI (c := 1) (j := 6) (dt_M_goOn 11 _ _ _ rfl) (kf_M_223) (sc_382 hS) rfl ?_
      refine s_callO (y := y_M_sign) (Y' := Y_M_sign) (as := [VR (some 382), VI (s2 382 6)]) (r := fun q => some (VI q)) (M' := fun q => s2) (kInvV (dt_M_goOn 12 _ _ _ rfl) kin_M_sign 1 rfl (sc_382 hS) kse_M_sign rfl) kl_M_226 md_M_sign rfl rfl (fun q hq => c_M_sign hS (s2 382 6) s2 q hq) (fun q3 => ?_)
      refine s_bipush (dt_M_goOn 13 _ _ _ rfl) rfl ?_
      refine s_if_icmp_eq (tgt := 45) (dt_M_goOn 14 _ _ _ rfl) rfl ?_ ?_
      · refine s_aload_n (dt_M_goOn 21 _ _ _ rfl) rfl ?_
        refine s_dup (dt_M_goOn 22 _ _ _ rfl) rfl ?_
        refine s_getI (c := 1) (j := 6) (dt_M_goOn 23 _ _ _ rfl) (kf_M_223) (sc_382 hS) rfl ?_
        refine s_iconst (dt_M_goOn 24 _ _ _ rfl) rfl ?_
        refine s_iadd (dt_M_goOn 25 _ _ _ rfl) ?_
        refine s_putI (c := 1) (j := 6) (dt_M_goOn 26 _ _ _ rfl) kp_M_223 (sc_382 hS) ⟨rfl, rfl⟩ ?_
        refine s_letM (fun M4 => ?_)
        refine s_goto (tgt := 8) (dt_M_goOn 27 _ _ _ rfl) rfl ?_
        exact s_mask [true, false, false] (s_ret0 rfl)
      · refine s_aload_n (dt_M_goOn 15 _ _ _ rfl) rfl ?_
        refine s_aload_n (dt_M_goOn 16 _ _ _ rfl) rfl ?_
        refine s_getI (c := 1) (j := 6) (dt_M_goOn 17 _ _ _ rfl) (kf_M_223) (sc_382 hS) rfl ?_
        refine s_callO (y := y_M_sign) (Y' := Y_M_sign) (as := [VR (some 382), VI (s2 382 6)]) (r := fun q => some (VI q)) (M' := fun q => s2) (kInvV (dt_M_goOn 18 _ _ _ rfl) kin_M_sign 1 rfl (sc_382 hS) kse_M_sign rfl) kl_M_226 md_M_sign rfl rfl (fun q hq => c_M_sign hS (s2 382 6) s2 q hq) (fun q5 => ?_)
        refine s_bipush (dt_M_goOn 19 _ _ _ rfl) rfl ?_
        refine s_if_icmp_ne (tgt := 58) (dt_M_goOn 20 _ _ _ rfl) rfl ?_ ?_
        · refine s_aload_n (dt_M_goOn 21 _ _ _ rfl) rfl ?_
          refine s_dup (dt_M_goOn 22 _ _ _ rfl) rfl ?_
          refine s_getI (c := 1) (j := 6) (dt_M_goOn 23 _ _ _ rfl) (kf_M_223) (sc_382 hS) rfl ?_
          refine s_iconst (dt_M_goOn 24 _ _ _ rfl) rfl ?_
          refine s_iadd (dt_M_goOn 25 _ _ _ rfl) ?_
          refine s_putI (c := 1) (j := 6) (dt_M_goOn 26 _ _ _ rfl) kp_M_223 (sc_382 hS) ⟨rfl, rfl⟩ ?_
          refine s_letM (fun M6 => ?_)
          refine s_goto (tgt := 8) (dt_M_goOn 27 _ _ _ rfl) rfl ?_
          exact s_mask [true, false, false] (s_ret0 rfl)
        · exact s_mask [true, false, false] (s_ret0 rfl)
    · exact s_mask [true, false, false] (s_ret0 rfl)
  intro e7
  refine s_aload_n (dt_M_goOn 28 _ _ _ rfl) rfl ?_
  refine s_aload_n (dt_M_goOn 29 _ _ _ rfl) rfl ?_
  refine s_getI (c := 1) (j := 6) (dt_M_goOn 30 _ _ _ rfl) (kf_M_223) (sc_382 hS) rfl ?_
  refine s_callO (y := y_M_sign) (Y' := Y_M_sign) (as := [VR (some 382), VI (e7 382 6)]) (r := fun q => some (VI q)) (M' := fun q => e7) (kInvV (dt_M_goOn 31 _ _ _ rfl) kin_M_sign 1 rfl (sc_382 hS) kse_M_sign rfl) kl_M_226 md_M_sign rfl rfl (fun q hq => c_M_sign hS (e7 382 6) e7 q hq) (fun q8 => ?_)
  refine s_istore_n (dt_M_goOn 32 _ _ _ rfl) rfl ?_
  refine s_aload_n (dt_M_goOn 33 _ _ _ rfl) rfl ?_
  refine s_aload_n (dt_M_goOn 34 _ _ _ rfl) rfl ?_
  refine s_getI (c := 1) (j := 6) (dt_M_goOn 35 _ _ _ rfl) (kf_M_223) (sc_382 hS) rfl ?_
  refine s_iconst (dt_M_goOn 36 _ _ _ rfl) rfl ?_
  refine s_iadd (dt_M_goOn 37 _ _ _ rfl) ?_
  refine s_putI (c := 1) (j := 7) (dt_M_goOn 38 _ _ _ rfl) kp_M_220 (sc_382 hS) ⟨rfl, rfl⟩ ?_
  refine s_letM (fun M9 => ?_)
  refine s_aload_n (dt_M_goOn 39 _ _ _ rfl) rfl ?_
  refine s_getI (c := 1) (j := 6) (dt_M_goOn 40 _ _ _ rfl) (kf_M_223) (sc_382 hS) rfl ?_
  refine s_aload_n (dt_M_goOn 41 _ _ _ rfl) rfl ?_
  refine s_getI (c := 1) (j := 3) (dt_M_goOn 42 _ _ _ rfl) (kf_M_182) (sc_382 hS) rfl ?_
  refine s_bd (κ := fun t46 => kC 377 [none, none, none] [] S t46) ?_ (fun t46 => ?_)
  · refine s_if_icmp_lt (tgt := 112) (dt_M_goOn 43 _ _ _ rfl) rfl ?_ ?_
    · refine s_iload_n (dt_M_goOn 56 _ _ _ rfl) rfl ?_
      refine s_callO (y := y_M_isLetter) (Y' := Y_M_isLetter) (as := [VI q8]) (r := fun q => some (VI q)) (M' := fun q => M9) (kInvS (dt_M_goOn 57 _ _ _ rfl) kst_M_isLetter rfl) kl_M_233 md_M_isLetter rfl rfl (fun q hq => c_M_isLetter hS q8 M9 q hq) (fun q10 => ?_)
      refine s_if_eq (tgt := 239) (dt_M_goOn 58 _ _ _ rfl) rfl ?_ ?_
      · refine s_iload_n (dt_M_goOn 120 _ _ _ rfl) rfl ?_
        refine s_callO (y := y_M_isDigit) (Y' := Y_M_isDigit) (as := [VI q8]) (r := fun q => some (VI q)) (M' := fun q => M9) (kInvS (dt_M_goOn 121 _ _ _ rfl) kst_M_isDigit rfl) kl_M_245 md_M_isDigit rfl rfl (fun q hq => c_M_isDigit hS q8 M9 q hq) (fun q11 => ?_)
        refine s_if_eq (tgt := 361) (dt_M_goOn 122 _ _ _ rfl) rfl ?_ ?_
        · refine s_aload_n (dt_M_goOn 182 _ _ _ rfl) rfl ?_
          refine s_iload_n (dt_M_goOn 183 _ _ _ rfl) rfl ?_
          refine s_callO (y := y_M_isSign) (Y' := Y_M_isSign) (as := [VI q8]) (r := fun q => some (VI q)) (M' := fun q => M9) (kInvS (dt_M_goOn 184 _ _ _ rfl) kst_M_isSign rfl) kl_M_251 md_M_isSign rfl rfl (fun q hq => c_M_isSign hS q8 M9 q hq) (fun q12 => ?_)
          refine s_bd (κ := fun t13 => kC 374 [none, none, none] [VI t13, VR (some 382)] S M9) ?_ (fun t13 => ?_)
          · refine s_if_eq (tgt := 373) (dt_M_goOn 185 _ _ _ rfl) rfl ?_ ?_
            · refine s_iconst (dt_M_goOn 188 _ _ _ rfl) rfl ?_
              exact s_mask [false, false, false] (s_ret0 rfl)
            · refine s_iconst (dt_M_goOn 186 _ _ _ rfl) rfl ?_
              refine s_goto (tgt := 374) (dt_M_goOn 187 _ _ _ rfl) rfl ?_
              exact s_mask [false, false, false] (s_ret0 rfl)
          refine s_putI (c := 1) (j := 8) (dt_M_goOn 189 _ _ _ rfl) kp_M_230 (sc_382 hS) ⟨rfl, rfl⟩ ?_
          refine s_letM (fun M14 => ?_)
          exact s_mask [false, false, false] (s_ret0 rfl)
        · refine s_aload_n (dt_M_goOn 123 _ _ _ rfl) rfl ?_
          refine s_iconst (dt_M_goOn 124 _ _ _ rfl) rfl ?_
          refine s_putI (c := 1) (j := 9) (dt_M_goOn 125 _ _ _ rfl) kp_M_248 (sc_382 hS) ⟨rfl, rfl⟩ ?_
          refine s_letM (fun M15 => ?_)
          refine s_aload_n (dt_M_goOn 126 _ _ _ rfl) rfl ?_
          refine s_aload_n (dt_M_goOn 127 _ _ _ rfl) rfl ?_
          refine s_getI (c := 1) (j := 6) (dt_M_goOn 128 _ _ _ rfl) (kf_M_223) (sc_382 hS) rfl ?_
          refine s_putI (c := 1) (j := 7) (dt_M_goOn 129 _ _ _ rfl) kp_M_220 (sc_382 hS) ⟨rfl, rfl⟩ ?_
          refine s_letM (fun M16 => ?_)
          refine s_bd (κ := (fun (e24 : KM) => kC 322 [some (VR (some 382)), none, none] [] S e24)) (s_mask [true, false, false] (s_while (c := fun s17 => kC 259 [some (VR (some 382)), none, none] [] S s17) (fun s17 => ?_) M16)) ?_
          · refine s_aload_n (dt_M_goOn 130 _ _ _ rfl) rfl ?_
            refine s_aload_n (dt_M_goOn 131 _ _ _ rfl) rfl ?_
            refine s_getI (c := 1) (j := 7) (dt_M_goOn 132 _ _ _ rfl) (kf_M_220) (sc_382 hS) rfl ?_
            refine s_callO (y := y_M_sign) (Y' := Y_M_sign) (as := [VR (some 382), VI (s17 382 7)]) (r := fun q => some (VI q)) (M' := fun q => s17) (kInvV (dt_M_goOn 133 _ _ _ rfl) kin_M_sign 1 rfl (sc_382 hS) kse_M_sign rfl) kl_M_226 md_M_sign rfl rfl (fun q hq => c_M_sign hS (s17 382 7) s17 q hq) (fun q18 => ?_)
            refine s_callO (y := y_M_isDigit) (Y' := Y_M_isDigit) (as := [VI q18]) (r := fun q => some (VI q)) (M' := fun q => s17) (kInvS (dt_M_goOn 134 _ _ _ rfl) kst_M_isDigit rfl) kl_M_245 md_M_isDigit rfl rfl (fun q hq => c_M_isDigit hS q18 s17 q hq) (fun q19 => ?_)
            refine s_if_eq (tgt := 322) (dt_M_goOn 135 _ _ _ rfl) rfl ?_ ?_
            · exact s_mask [true, false, false] (s_ret0 rfl)
            · refine s_aload_n (dt_M_goOn 136 _ _ _ rfl) rfl ?_
              refine s_getI (c := 1) (j := 7) (dt_M_goOn 137 _ _ _ rfl) (kf_M_220) (sc_382 hS) rfl ?_
              refine s_aload_n (dt_M_goOn 138 _ _ _ rfl) rfl ?_
              refine s_getI (c := 1) (j := 6) (dt_M_goOn 139 _ _ _ rfl) (kf_M_223) (sc_382 hS) rfl ?_
              refine s_isub (dt_M_goOn 140 _ _ _ rfl) ?_
              refine s_iconst (dt_M_goOn 141 _ _ _ rfl) rfl ?_
              refine s_bd (κ := fun t22 => kC 309 [some (VR (some 382)), none, none] [] S t22) ?_ (fun t22 => ?_)
              · refine s_if_icmp_ge (tgt := 309) (dt_M_goOn 142 _ _ _ rfl) rfl ?_ ?_
                · refine s_aload_n (dt_M_goOn 143 _ _ _ rfl) rfl ?_
                  refine s_bipush (dt_M_goOn 144 _ _ _ rfl) rfl ?_
                  refine s_aload_n (dt_M_goOn 145 _ _ _ rfl) rfl ?_
                  refine s_getI (c := 1) (j := 9) (dt_M_goOn 146 _ _ _ rfl) (kf_M_248) (sc_382 hS) rfl ?_
                  refine s_imul (dt_M_goOn 147 _ _ _ rfl) ?_
                  refine s_aload_n (dt_M_goOn 148 _ _ _ rfl) rfl ?_
                  refine s_aload_n (dt_M_goOn 149 _ _ _ rfl) rfl ?_
                  refine s_getI (c := 1) (j := 7) (dt_M_goOn 150 _ _ _ rfl) (kf_M_220) (sc_382 hS) rfl ?_
                  refine s_callO (y := y_M_sign) (Y' := Y_M_sign) (as := [VR (some 382), VI (s17 382 7)]) (r := fun q => some (VI q)) (M' := fun q => s17) (kInvV (dt_M_goOn 151 _ _ _ rfl) kin_M_sign 1 rfl (sc_382 hS) kse_M_sign rfl) kl_M_226 md_M_sign rfl rfl (fun q hq => c_M_sign hS (s17 382 7) s17 q hq) (fun q20 => ?_)
                  refine s_iadd (dt_M_goOn 152 _ _ _ rfl) ?_
                  refine s_bipush (dt_M_goOn 153 _ _ _ rfl) rfl ?_
                  refine s_isub (dt_M_goOn 154 _ _ _ rfl) ?_
                  refine s_putI (c := 1) (j := 9) (dt_M_goOn 155 _ _ _ rfl) kp_M_248 (sc_382 hS) ⟨rfl, rfl⟩ ?_
                  refine s_letM (fun M21 => ?_)
                  exact s_mask [true, false, false] (s_ret0 rfl)
                · exact s_mask [true, false, false] (s_ret0 rfl)
              refine s_aload_n (dt_M_goOn 156 _ _ _ rfl) rfl ?_
              refine s_dup (dt_M_goOn 157 _ _ _ rfl) rfl ?_
              refine s_getI (c := 1) (j := 7) (dt_M_goOn 158 _ _ _ rfl) (kf_M_220) (sc_382 hS) rfl ?_
              refine s_iconst (dt_M_goOn 159 _ _ _ rfl) rfl ?_
              refine s_iadd (dt_M_goOn 160 _ _ _ rfl) ?_
              refine s_putI (c := 1) (j := 7) (dt_M_goOn 161 _ _ _ rfl) kp_M_220 (sc_382 hS) ⟨rfl, rfl⟩ ?_
              refine s_letM (fun M23 => ?_)
              refine s_goto (tgt := 259) (dt_M_goOn 162 _ _ _ rfl) rfl ?_
              exact s_mask [true, false, false] (s_ret0 rfl)
          intro e24
          refine s_aload_n (dt_M_goOn 163 _ _ _ rfl) rfl ?_
          refine s_aload_n (dt_M_goOn 164 _ _ _ rfl) rfl ?_
          refine s_getI (c := 1) (j := 7) (dt_M_goOn 165 _ _ _ rfl) (kf_M_220) (sc_382 hS) rfl ?_
          refine s_aload_n (dt_M_goOn 166 _ _ _ rfl) rfl ?_
          refine s_getI (c := 1) (j := 6) (dt_M_goOn 167 _ _ _ rfl) (kf_M_223) (sc_382 hS) rfl ?_
          refine s_isub (dt_M_goOn 168 _ _ _ rfl) ?_
          refine s_iconst (dt_M_goOn 169 _ _ _ rfl) rfl ?_
          refine s_bd (κ := fun t27 => kC 355 [none, none, none] [VI t27, VR (some 382)] S e24) ?_ (fun t27 => ?_)
          · refine s_if_icmp_gt (tgt := 350) (dt_M_goOn 170 _ _ _ rfl) rfl ?_ ?_
            · refine s_aload_n (dt_M_goOn 171 _ _ _ rfl) rfl ?_
              refine s_aload_n (dt_M_goOn 172 _ _ _ rfl) rfl ?_
              refine s_getI (c := 1) (j := 7) (dt_M_goOn 173 _ _ _ rfl) (kf_M_220) (sc_382 hS) rfl ?_
              refine s_callO (y := y_M_sign) (Y' := Y_M_sign) (as := [VR (some 382), VI (e24 382 7)]) (r := fun q => some (VI q)) (M' := fun q => e24) (kInvV (dt_M_goOn 174 _ _ _ rfl) kin_M_sign 1 rfl (sc_382 hS) kse_M_sign rfl) kl_M_226 md_M_sign rfl rfl (fun q hq => c_M_sign hS (e24 382 7) e24 q hq) (fun q25 => ?_)
              refine s_callO (y := y_M_isLetter) (Y' := Y_M_isLetter) (as := [VI q25]) (r := fun q => some (VI q)) (M' := fun q => e24) (kInvS (dt_M_goOn 175 _ _ _ rfl) kst_M_isLetter rfl) kl_M_233 md_M_isLetter rfl rfl (fun q hq => c_M_isLetter hS q25 e24 q hq) (fun q26 => ?_)
              refine s_if_eq (tgt := 354) (dt_M_goOn 176 _ _ _ rfl) rfl ?_ ?_
              · refine s_iconst (dt_M_goOn 179 _ _ _ rfl) rfl ?_
                exact s_mask [false, false, false] (s_ret0 rfl)
              · refine s_iconst (dt_M_goOn 177 _ _ _ rfl) rfl ?_
                refine s_goto (tgt := 355) (dt_M_goOn 178 _ _ _ rfl) rfl ?_
                exact s_mask [false, false, false] (s_ret0 rfl)
            · refine s_iconst (dt_M_goOn 177 _ _ _ rfl) rfl ?_
              refine s_goto (tgt := 355) (dt_M_goOn 178 _ _ _ rfl) rfl ?_
              exact s_mask [false, false, false] (s_ret0 rfl)
          refine s_putI (c := 1) (j := 8) (dt_M_goOn 180 _ _ _ rfl) kp_M_230 (sc_382 hS) ⟨rfl, rfl⟩ ?_
          refine s_letM (fun M28 => ?_)
          refine s_goto (tgt := 377) (dt_M_goOn 181 _ _ _ rfl) rfl ?_
          exact s_mask [false, false, false] (s_ret0 rfl)
      · refine s_bd (κ := (fun (e33 : KM) => kC 146 [some (VR (some 382)), none, none] [] S e33)) (s_mask [true, false, false] (s_while (c := fun s29 => kC 119 [some (VR (some 382)), none, none] [] S s29) (fun s29 => ?_) M9)) ?_
        · refine s_aload_n (dt_M_goOn 59 _ _ _ rfl) rfl ?_
          refine s_aload_n (dt_M_goOn 60 _ _ _ rfl) rfl ?_
          refine s_getI (c := 1) (j := 7) (dt_M_goOn 61 _ _ _ rfl) (kf_M_220) (sc_382 hS) rfl ?_
          refine s_callO (y := y_M_sign) (Y' := Y_M_sign) (as := [VR (some 382), VI (s29 382 7)]) (r := fun q => some (VI q)) (M' := fun q => s29) (kInvV (dt_M_goOn 62 _ _ _ rfl) kin_M_sign 1 rfl (sc_382 hS) kse_M_sign rfl) kl_M_226 md_M_sign rfl rfl (fun q hq => c_M_sign hS (s29 382 7) s29 q hq) (fun q30 => ?_)
          refine s_callO (y := y_M_isLetter) (Y' := Y_M_isLetter) (as := [VI q30]) (r := fun q => some (VI q)) (M' := fun q => s29) (kInvS (dt_M_goOn 63 _ _ _ rfl) kst_M_isLetter rfl) kl_M_233 md_M_isLetter rfl rfl (fun q hq => c_M_isLetter hS q30 s29 q hq) (fun q31 => ?_)
          refine s_if_eq (tgt := 146) (dt_M_goOn 64 _ _ _ rfl) rfl ?_ ?_
          · exact s_mask [true, false, false] (s_ret0 rfl)
          · refine s_aload_n (dt_M_goOn 65 _ _ _ rfl) rfl ?_
            refine s_dup (dt_M_goOn 66 _ _ _ rfl) rfl ?_
            refine s_getI (c := 1) (j := 7) (dt_M_goOn 67 _ _ _ rfl) (kf_M_220) (sc_382 hS) rfl ?_
            refine s_iconst (dt_M_goOn 68 _ _ _ rfl) rfl ?_
            refine s_iadd (dt_M_goOn 69 _ _ _ rfl) ?_
            refine s_putI (c := 1) (j := 7) (dt_M_goOn 70 _ _ _ rfl) kp_M_220 (sc_382 hS) ⟨rfl, rfl⟩ ?_
            refine s_letM (fun M32 => ?_)
            refine s_goto (tgt := 119) (dt_M_goOn 71 _ _ _ rfl) rfl ?_
            exact s_mask [true, false, false] (s_ret0 rfl)
        intro e33
        refine s_aload_n (dt_M_goOn 72 _ _ _ rfl) rfl ?_
        refine s_lconst0 (dt_M_goOn 73 _ _ _ rfl) ?_
        refine s_putJ (c := 1) (j := 10) (dt_M_goOn 74 _ _ _ rfl) kp_M_237 (sc_382 hS) ⟨rfl, rfl⟩ ?_
        refine s_letM (fun M34 => ?_)
        refine s_aload_n (dt_M_goOn 75 _ _ _ rfl) rfl ?_
        refine s_getI (c := 1) (j := 6) (dt_M_goOn 76 _ _ _ rfl) (kf_M_223) (sc_382 hS) rfl ?_
        refine s_letI (fun v35 => ?_)
        refine s_istore_n (dt_M_goOn 77 _ _ _ rfl) rfl ?_
        refine s_bd (κ := (fun (e39 : KM) => kC 199 [some (VR (some 382)), none, none] [] S e39)) (s_mask [true, false, true] (s_while (c := fun s36 => kC 156 [some (VR (some 382)), none, some (VI s36.1)] [] S s36.2) (fun s36 => ?_) (v35, M34))) ?_
        · refine s_iload_n (dt_M_goOn 78 _ _ _ rfl) rfl ?_
          refine s_aload_n (dt_M_goOn 79 _ _ _ rfl) rfl ?_
          refine s_getI (c := 1) (j := 7) (dt_M_goOn 80 _ _ _ rfl) (kf_M_220) (sc_382 hS) rfl ?_
          refine s_if_icmp_ge (tgt := 199) (dt_M_goOn 81 _ _ _ rfl) rfl ?_ ?_
          · refine s_iload_n (dt_M_goOn 82 _ _ _ rfl) rfl ?_
            refine s_aload_n (dt_M_goOn 83 _ _ _ rfl) rfl ?_
            refine s_getI (c := 1) (j := 6) (dt_M_goOn 84 _ _ _ rfl) (kf_M_223) (sc_382 hS) rfl ?_
            refine s_bipush (dt_M_goOn 85 _ _ _ rfl) rfl ?_
            refine s_iadd (dt_M_goOn 86 _ _ _ rfl) ?_
            refine s_if_icmp_ge (tgt := 199) (dt_M_goOn 87 _ _ _ rfl) rfl ?_ ?_
            · refine s_aload_n (dt_M_goOn 88 _ _ _ rfl) rfl ?_
              refine s_aload_n (dt_M_goOn 89 _ _ _ rfl) rfl ?_
              refine s_getJ (c := 1) (j := 10) (dt_M_goOn 90 _ _ _ rfl) (kf_M_237) (sc_382 hS) rfl ?_
              refine s_bipush (dt_M_goOn 91 _ _ _ rfl) rfl ?_
              refine s_lshl (dt_M_goOn 92 _ _ _ rfl) ?_
              refine s_aload_n (dt_M_goOn 93 _ _ _ rfl) rfl ?_
              refine s_iload_n (dt_M_goOn 94 _ _ _ rfl) rfl ?_
              refine s_callO (y := y_M_sign) (Y' := Y_M_sign) (as := [VR (some 382), VI s36.1]) (r := fun q => some (VI q)) (M' := fun q => s36.2) (kInvV (dt_M_goOn 95 _ _ _ rfl) kin_M_sign 1 rfl (sc_382 hS) kse_M_sign rfl) kl_M_226 md_M_sign rfl rfl (fun q hq => c_M_sign hS s36.1 s36.2 q hq) (fun q37 => ?_)
              refine s_i2l (dt_M_goOn 96 _ _ _ rfl) ?_
              refine s_lor (dt_M_goOn 97 _ _ _ rfl) ?_
              refine s_putJ (c := 1) (j := 10) (dt_M_goOn 98 _ _ _ rfl) kp_M_237 (sc_382 hS) ⟨rfl, rfl⟩ ?_
              refine s_letM (fun M38 => ?_)
              refine s_iinc (dt_M_goOn 99 _ _ _ rfl) rfl rfl ?_
              refine s_goto (tgt := 156) (dt_M_goOn 100 _ _ _ rfl) rfl ?_
              exact s_mask [true, false, true] (s_ret0 rfl)
            · exact s_mask [true, false, false] (s_ret0 rfl)
          · exact s_mask [true, false, false] (s_ret0 rfl)
        intro e39
        refine s_aload_n (dt_M_goOn 101 _ _ _ rfl) rfl ?_
        refine s_aload_n (dt_M_goOn 102 _ _ _ rfl) rfl ?_
        refine s_getI (c := 1) (j := 7) (dt_M_goOn 103 _ _ _ rfl) (kf_M_220) (sc_382 hS) rfl ?_
        refine s_aload_n (dt_M_goOn 104 _ _ _ rfl) rfl ?_
        refine s_getI (c := 1) (j := 6) (dt_M_goOn 105 _ _ _ rfl) (kf_M_223) (sc_382 hS) rfl ?_
        refine s_isub (dt_M_goOn 106 _ _ _ rfl) ?_
        refine s_bipush (dt_M_goOn 107 _ _ _ rfl) rfl ?_
        refine s_bd (κ := fun t41 => kC 233 [none, none, none] [VI t41, VR (some 382)] S e39) ?_ (fun t41 => ?_)
        · refine s_if_icmp_le (tgt := 218) (dt_M_goOn 108 _ _ _ rfl) rfl ?_ ?_
          · refine s_aload_n (dt_M_goOn 111 _ _ _ rfl) rfl ?_
            refine s_getJ (c := 1) (j := 10) (dt_M_goOn 112 _ _ _ rfl) (kf_M_237) (sc_382 hS) rfl ?_
            refine s_callO (y := y_M_isKept) (Y' := Y_M_isKept) (as := [VJ (e39 382 10)]) (r := fun q => some (VI q)) (M' := fun q => e39) (kInvS (dt_M_goOn 113 _ _ _ rfl) kst_M_isKept rfl) kl_M_241 md_M_isKept rfl rfl (fun q hq => c_M_isKept hS (e39 382 10) e39 q hq) (fun q40 => ?_)
            refine s_if_eq (tgt := 232) (dt_M_goOn 114 _ _ _ rfl) rfl ?_ ?_
            · refine s_iconst (dt_M_goOn 117 _ _ _ rfl) rfl ?_
              exact s_mask [false, false, false] (s_ret0 rfl)
            · refine s_iconst (dt_M_goOn 115 _ _ _ rfl) rfl ?_
              refine s_goto (tgt := 233) (dt_M_goOn 116 _ _ _ rfl) rfl ?_
              exact s_mask [false, false, false] (s_ret0 rfl)
          · refine s_iconst (dt_M_goOn 109 _ _ _ rfl) rfl ?_
            refine s_goto (tgt := 233) (dt_M_goOn 110 _ _ _ rfl) rfl ?_
            exact s_mask [false, false, false] (s_ret0 rfl)
        refine s_putI (c := 1) (j := 8) (dt_M_goOn 118 _ _ _ rfl) kp_M_230 (sc_382 hS) ⟨rfl, rfl⟩ ?_
        refine s_letM (fun M42 => ?_)
        refine s_goto (tgt := 377) (dt_M_goOn 119 _ _ _ rfl) rfl ?_
        exact s_mask [false, false, false] (s_ret0 rfl)
    · refine s_aload_n (dt_M_goOn 44 _ _ _ rfl) rfl ?_
      refine s_iconst (dt_M_goOn 45 _ _ _ rfl) rfl ?_
      refine s_putI (c := 1) (j := 8) (dt_M_goOn 46 _ _ _ rfl) kp_M_230 (sc_382 hS) ⟨rfl, rfl⟩ ?_
      refine s_letM (fun M43 => ?_)
      refine s_aload_n (dt_M_goOn 47 _ _ _ rfl) rfl ?_
      refine s_aload_n (dt_M_goOn 48 _ _ _ rfl) rfl ?_
      refine s_getI (c := 1) (j := 3) (dt_M_goOn 49 _ _ _ rfl) (kf_M_182) (sc_382 hS) rfl ?_
      refine s_putI (c := 1) (j := 6) (dt_M_goOn 50 _ _ _ rfl) kp_M_223 (sc_382 hS) ⟨rfl, rfl⟩ ?_
      refine s_letM (fun M44 => ?_)
      refine s_aload_n (dt_M_goOn 51 _ _ _ rfl) rfl ?_
      refine s_aload_n (dt_M_goOn 52 _ _ _ rfl) rfl ?_
      refine s_getI (c := 1) (j := 3) (dt_M_goOn 53 _ _ _ rfl) (kf_M_182) (sc_382 hS) rfl ?_
      refine s_putI (c := 1) (j := 7) (dt_M_goOn 54 _ _ _ rfl) kp_M_220 (sc_382 hS) ⟨rfl, rfl⟩ ?_
      refine s_letM (fun M45 => ?_)
      refine s_goto (tgt := 377) (dt_M_goOn 55 _ _ _ rfl) rfl ?_
      exact s_mask [false, false, false] (s_ret0 rfl)
  exact s_vret (dt_M_goOn 190 _ _ _ rfl) rfl rfl
theorem c_M_goOn {S : KS} (hS : KExt 435 S)   (M : KM) : ∀ q, f_M_goOn  M = some q → Ctr y_M_goOn Y_M_goOn [VR (some 382)] S M (none) S (q) := fun q hq =>
  ctr_of md_M_goOn (Nat.le_of_ble_eq_true rfl) ⟨Nat.le_refl _, Nat.le_refl _⟩ 2 hq rfl (fun _ G => sim_M_goOn hS   M)
set_option maxRecDepth 100000 in
theorem sim_M_isGood {G : Gam} {S : KS} (hS : KExt 435 S)   (M : KM) : Sim G Y_M_isGood (f_M_isGood  M) (kC 0 [some (VR (some 382))] [] S M) (fun (q : Int) => Sum.inr (some (VI q), S, M)) := by
  unfold f_M_isGood
  refine s_aload_n (dt_M_isGood 0 _ _ _ rfl) rfl ?_
  refine s_getI (c := 1) (j := 4) (dt_M_isGood 1 _ _ _ rfl) (kf_M_185) (sc_382 hS) rfl ?_
  refine s_bd (κ := fun t1 => kC 12 [none] [VI t1] S M) ?_ (fun t1 => ?_)
  · refine s_if_ne (tgt := 11) (dt_M_isGood 2 _ _ _ rfl) rfl ?_ ?_
    · refine s_iconst (dt_M_isGood 3 _ _ _ rfl) rfl ?_
      refine s_goto (tgt := 12) (dt_M_isGood 4 _ _ _ rfl) rfl ?_
      exact s_mask [false] (s_ret0 rfl)
    · refine s_iconst (dt_M_isGood 5 _ _ _ rfl) rfl ?_
      exact s_mask [false] (s_ret0 rfl)
  exact s_zret (dt_M_isGood 6 _ _ _ rfl) rfl rfl
theorem c_M_isGood {S : KS} (hS : KExt 435 S)   (M : KM) : ∀ q, f_M_isGood  M = some q → Ctr y_M_isGood Y_M_isGood [VR (some 382)] S M (some (VI q)) S (M) := fun q hq =>
  ctr_of md_M_isGood (Nat.le_of_ble_eq_true rfl) ⟨Nat.le_refl _, Nat.le_refl _⟩ 0 hq rfl (fun _ G => sim_M_isGood hS   M)
set_option maxRecDepth 100000 in
theorem sim_M_isWord {G : Gam} {S : KS} (hS : KExt 435 S)  (a0 : Int) (M : KM) : Sim G Y_M_isWord (f_M_isWord a0 M) (kC 0 [some (VR (some 382)), some (VJ a0), none] [] S M) (fun (q : Int) => Sum.inr (some (VI q), S, M)) := by
  unfold f_M_isWord
  refine s_aload_n (dt_M_isWord 0 _ _ _ rfl) rfl ?_
  refine s_getI (c := 1) (j := 8) (dt_M_isWord 1 _ _ _ rfl) (kf_M_230) (sc_382 hS) rfl ?_
  refine s_iconst (dt_M_isWord 2 _ _ _ rfl) rfl ?_
  refine s_bd (κ := fun t1 => kC 22 [none, none, none] [VI t1] S M) ?_ (fun t1 => ?_)
  · refine s_if_icmp_ne (tgt := 21) (dt_M_isWord 3 _ _ _ rfl) rfl ?_ ?_
    · refine s_aload_n (dt_M_isWord 4 _ _ _ rfl) rfl ?_
      refine s_getJ (c := 1) (j := 10) (dt_M_isWord 5 _ _ _ rfl) (kf_M_237) (sc_382 hS) rfl ?_
      refine s_lload_n (dt_M_isWord 6 _ _ _ rfl) rfl ?_
      refine s_lcmp (dt_M_isWord 7 _ _ _ rfl) ?_
      refine s_if_ne (tgt := 21) (dt_M_isWord 8 _ _ _ rfl) rfl ?_ ?_
      · refine s_iconst (dt_M_isWord 9 _ _ _ rfl) rfl ?_
        refine s_goto (tgt := 22) (dt_M_isWord 10 _ _ _ rfl) rfl ?_
        exact s_mask [false, false, false] (s_ret0 rfl)
      · refine s_iconst (dt_M_isWord 11 _ _ _ rfl) rfl ?_
        exact s_mask [false, false, false] (s_ret0 rfl)
    · refine s_iconst (dt_M_isWord 11 _ _ _ rfl) rfl ?_
      exact s_mask [false, false, false] (s_ret0 rfl)
  exact s_zret (dt_M_isWord 12 _ _ _ rfl) rfl rfl
theorem c_M_isWord {S : KS} (hS : KExt 435 S)  (a0 : Int) (M : KM) : ∀ q, f_M_isWord a0 M = some q → Ctr y_M_isWord Y_M_isWord [VR (some 382), VJ a0] S M (some (VI q)) S (M) := fun q hq =>
  ctr_of md_M_isWord (Nat.le_of_ble_eq_true rfl) ⟨Nat.le_refl _, Nat.le_refl _⟩ 0 hq rfl (fun _ G => sim_M_isWord hS  a0 M)
set_option maxRecDepth 100000 in
theorem sim_M_fails {G : Gam} {S : KS} (hS : KExt 435 S)  (a0 : Int) (a1 : Int) (M : KM) : Sim G Y_M_fails (f_M_fails a0 a1 M) (kC 0 [some (VR (some 382)), some (VI a0), some (VI a1)] [] S M) (fun (q : KM) => Sum.inr (none, S, q)) := by
  unfold f_M_fails
  refine s_aload_n (dt_M_fails 0 _ _ _ rfl) rfl ?_
  refine s_getI (c := 1) (j := 4) (dt_M_fails 1 _ _ _ rfl) (kf_M_185) (sc_382 hS) rfl ?_
  refine s_if_le (tgt := 8) (dt_M_fails 2 _ _ _ rfl) rfl ?_ ?_
  · refine s_aload_n (dt_M_fails 4 _ _ _ rfl) rfl ?_
    refine s_iload_n (dt_M_fails 5 _ _ _ rfl) rfl ?_
    refine s_putI (c := 1) (j := 4) (dt_M_fails 6 _ _ _ rfl) kp_M_185 (sc_382 hS) ⟨rfl, rfl⟩ ?_
    refine s_letM (fun M1 => ?_)
    refine s_aload_n (dt_M_fails 7 _ _ _ rfl) rfl ?_
    refine s_iload_n (dt_M_fails 8 _ _ _ rfl) rfl ?_
    refine s_putI (c := 1) (j := 5) (dt_M_fails 9 _ _ _ rfl) kp_M_16 (sc_382 hS) ⟨rfl, rfl⟩ ?_
    refine s_letM (fun M2 => ?_)
    exact s_vret (dt_M_fails 10 _ _ _ rfl) rfl rfl
  · exact s_vret (dt_M_fails 3 _ _ _ rfl) rfl rfl
theorem c_M_fails {S : KS} (hS : KExt 435 S)  (a0 : Int) (a1 : Int) (M : KM) : ∀ q, f_M_fails a0 a1 M = some q → Ctr y_M_fails Y_M_fails [VR (some 382), VI a0, VI a1] S M (none) S (q) := fun q hq =>
  ctr_of md_M_fails (Nat.le_of_ble_eq_true rfl) ⟨Nat.le_refl _, Nat.le_refl _⟩ 0 hq rfl (fun _ G => sim_M_fails hS  a0 a1 M)
set_option maxRecDepth 100000 in
theorem sim_M_misplaced {G : Gam} {S : KS} (hS : KExt 435 S)   (M : KM) : Sim G Y_M_misplaced (f_M_misplaced  M) (kC 0 [some (VR (some 382))] [] S M) (fun (q : KM) => Sum.inr (none, S, q)) := by
  unfold f_M_misplaced
  refine s_aload_n (dt_M_misplaced 0 _ _ _ rfl) rfl ?_
  refine s_aload_n (dt_M_misplaced 1 _ _ _ rfl) rfl ?_
  refine s_getI (c := 1) (j := 8) (dt_M_misplaced 2 _ _ _ rfl) (kf_M_230) (sc_382 hS) rfl ?_
  refine s_iconst (dt_M_misplaced 3 _ _ _ rfl) rfl ?_
  refine s_bd (κ := fun t1 => kC 14 [some (VR (some 382))] [VI t1, VR (some 382)] S M) ?_ (fun t1 => ?_)
  · refine s_if_icmp_ne (tgt := 13) (dt_M_misplaced 4 _ _ _ rfl) rfl ?_ ?_
    · refine s_iconst (dt_M_misplaced 5 _ _ _ rfl) rfl ?_
      refine s_goto (tgt := 14) (dt_M_misplaced 6 _ _ _ rfl) rfl ?_
      exact s_mask [true] (s_ret0 rfl)
    · refine s_iconst (dt_M_misplaced 7 _ _ _ rfl) rfl ?_
      exact s_mask [true] (s_ret0 rfl)
  refine s_aload_n (dt_M_misplaced 8 _ _ _ rfl) rfl ?_
  refine s_getI (c := 1) (j := 6) (dt_M_misplaced 9 _ _ _ rfl) (kf_M_223) (sc_382 hS) rfl ?_
  refine s_callO (y := y_M_fails) (Y' := Y_M_fails) (as := [VR (some 382), VI t1, VI (M 382 6)]) (r := fun q => none) (M' := fun q => q) (kInvV (dt_M_misplaced 10 _ _ _ rfl) kin_M_fails 1 rfl (sc_382 hS) kse_M_fails rfl) kl_M_254 md_M_fails rfl rfl (fun q hq => c_M_fails hS t1 (M 382 6) M q hq) (fun q2 => ?_)
  exact s_vret (dt_M_misplaced 11 _ _ _ rfl) rfl rfl
theorem c_M_misplaced {S : KS} (hS : KExt 435 S)   (M : KM) : ∀ q, f_M_misplaced  M = some q → Ctr y_M_misplaced Y_M_misplaced [VR (some 382)] S M (none) S (q) := fun q hq =>
  ctr_of md_M_misplaced (Nat.le_of_ble_eq_true rfl) ⟨Nat.le_refl _, Nat.le_refl _⟩ 0 hq rfl (fun _ G => sim_M_misplaced hS   M)
set_option maxRecDepth 100000 in
theorem sim_M_must {G : Gam} {S : KS} (hS : KExt 435 S)  (a0 : Int) (M : KM) : Sim G Y_M_must (f_M_must a0 M) (kC 0 [some (VR (some 382)), some (VI a0)] [] S M) (fun (q : KM) => Sum.inr (none, S, q)) := by
  unfold f_M_must
  refine s_aload_n (dt_M_must 0 _ _ _ rfl) rfl ?_
  refine s_callO (y := y_M_isGood) (Y' := Y_M_isGood) (as := [VR (some 382)]) (r := fun q => some (VI q)) (M' := fun q => M) (kInvV (dt_M_must 1 _ _ _ rfl) kin_M_isGood 1 rfl (sc_382 hS) kse_M_isGood rfl) kl_M_258 md_M_isGood rfl rfl (fun q hq => c_M_isGood hS M q hq) (fun q1 => ?_)
  refine s_if_ne (tgt := 8) (dt_M_must 2 _ _ _ rfl) rfl ?_ ?_
  · exact s_vret (dt_M_must 3 _ _ _ rfl) rfl rfl
  · refine s_iload_n (dt_M_must 4 _ _ _ rfl) rfl ?_
    refine s_bd (κ := fun t4 => kC 23 [none, none] [] S t4) ?_ (fun t4 => ?_)
    · refine s_if_eq (tgt := 19) (dt_M_must 5 _ _ _ rfl) rfl ?_ ?_
      · refine s_aload_n (dt_M_must 9 _ _ _ rfl) rfl ?_
        refine s_callO (y := y_M_misplaced) (Y' := Y_M_misplaced) (as := [VR (some 382)]) (r := fun q => none) (M' := fun q => q) (kInvV (dt_M_must 10 _ _ _ rfl) kin_M_misplaced 1 rfl (sc_382 hS) kse_M_misplaced rfl) kl_M_265 md_M_misplaced rfl rfl (fun q hq => c_M_misplaced hS M q hq) (fun q2 => ?_)
        exact s_mask [false, false] (s_ret0 rfl)
      · refine s_aload_n (dt_M_must 6 _ _ _ rfl) rfl ?_
        refine s_callO (y := y_M_goOn) (Y' := Y_M_goOn) (as := [VR (some 382)]) (r := fun q => none) (M' := fun q => q) (kInvV (dt_M_must 7 _ _ _ rfl) kin_M_goOn 1 rfl (sc_382 hS) kse_M_goOn rfl) kl_M_262 md_M_goOn rfl rfl (fun q hq => c_M_goOn hS M q hq) (fun q3 => ?_)
        refine s_goto (tgt := 23) (dt_M_must 8 _ _ _ rfl) rfl ?_
        exact s_mask [false, false] (s_ret0 rfl)
    exact s_vret (dt_M_must 11 _ _ _ rfl) rfl rfl
theorem c_M_must {S : KS} (hS : KExt 435 S)  (a0 : Int) (M : KM) : ∀ q, f_M_must a0 M = some q → Ctr y_M_must Y_M_must [VR (some 382), VI a0] S M (none) S (q) := fun q hq =>
  ctr_of md_M_must (Nat.le_of_ble_eq_true rfl) ⟨Nat.le_refl _, Nat.le_refl _⟩ 0 hq rfl (fun _ G => sim_M_must hS  a0 M)
set_option maxRecDepth 100000 in
theorem sim_M_numeral {G : Gam} {S : KS} (hS : KExt 435 S)  (a0 : Int) (a1 : Int) (M : KM) : Sim G Y_M_numeral (f_M_numeral a0 a1 M) (kC 0 [some (VR (some 382)), some (VI a0), some (VI a1), none] [] S M) (fun (q : Int × KM) => Sum.inr (some (VI q.1), S, q.2)) := by
  unfold f_M_numeral
  refine s_aload_n (dt_M_numeral 0 _ _ _ rfl) rfl ?_
  refine s_callO (y := y_M_isGood) (Y' := Y_M_isGood) (as := [VR (some 382)]) (r := fun q => some (VI q)) (M' := fun q => M) (kInvV (dt_M_numeral 1 _ _ _ rfl) kin_M_isGood 1 rfl (sc_382 hS) kse_M_isGood rfl) kl_M_258 md_M_isGood rfl rfl (fun q hq => c_M_isGood hS M q hq) (fun q1 => ?_)
  refine s_if_ne (tgt := 9) (dt_M_numeral 2 _ _ _ rfl) rfl ?_ ?_
  · refine s_iload_n (dt_M_numeral 3 _ _ _ rfl) rfl ?_
    exact s_iret (dt_M_numeral 4 _ _ _ rfl) rfl rfl
  · refine s_aload_n (dt_M_numeral 5 _ _ _ rfl) rfl ?_
    refine s_getI (c := 1) (j := 8) (dt_M_numeral 6 _ _ _ rfl) (kf_M_230) (sc_382 hS) rfl ?_
    refine s_iconst (dt_M_numeral 7 _ _ _ rfl) rfl ?_
    refine s_bd (κ := fun t3 => kC 21 [some (VR (some 382)), some (VI a0), some (VI a1), none] [] S t3) ?_ (fun t3 => ?_)
    · refine s_if_icmp_eq (tgt := 21) (dt_M_numeral 8 _ _ _ rfl) rfl ?_ ?_
      · exact s_mask [true, true, true, false] (s_ret0 rfl)
      · refine s_aload_n (dt_M_numeral 9 _ _ _ rfl) rfl ?_
        refine s_callO (y := y_M_misplaced) (Y' := Y_M_misplaced) (as := [VR (some 382)]) (r := fun q => none) (M' := fun q => q) (kInvV (dt_M_numeral 10 _ _ _ rfl) kin_M_misplaced 1 rfl (sc_382 hS) kse_M_misplaced rfl) kl_M_265 md_M_misplaced rfl rfl (fun q hq => c_M_misplaced hS M q hq) (fun q2 => ?_)
        exact s_mask [true, true, true, false] (s_ret0 rfl)
    refine s_aload_n (dt_M_numeral 11 _ _ _ rfl) rfl ?_
    refine s_callO (y := y_M_isGood) (Y' := Y_M_isGood) (as := [VR (some 382)]) (r := fun q => some (VI q)) (M' := fun q => t3) (kInvV (dt_M_numeral 12 _ _ _ rfl) kin_M_isGood 1 rfl (sc_382 hS) kse_M_isGood rfl) kl_M_258 md_M_isGood rfl rfl (fun q hq => c_M_isGood hS t3 q hq) (fun q4 => ?_)
    refine s_bd (κ := fun t7 => kC 53 [some (VR (some 382)), some (VI a0), none, none] [] S t7) ?_ (fun t7 => ?_)
    · refine s_if_eq (tgt := 53) (dt_M_numeral 13 _ _ _ rfl) rfl ?_ ?_
      · exact s_mask [true, true, false, false] (s_ret0 rfl)
      · refine s_aload_n (dt_M_numeral 14 _ _ _ rfl) rfl ?_
        refine s_getI (c := 1) (j := 9) (dt_M_numeral 15 _ _ _ rfl) (kf_M_248) (sc_382 hS) rfl ?_
        refine s_iload_n (dt_M_numeral 16 _ _ _ rfl) rfl ?_
        refine s_if_icmp_lt (tgt := 44) (dt_M_numeral 17 _ _ _ rfl) rfl ?_ ?_
        · refine s_aload_n (dt_M_numeral 22 _ _ _ rfl) rfl ?_
          refine s_iconst (dt_M_numeral 23 _ _ _ rfl) rfl ?_
          refine s_aload_n (dt_M_numeral 24 _ _ _ rfl) rfl ?_
          refine s_getI (c := 1) (j := 6) (dt_M_numeral 25 _ _ _ rfl) (kf_M_223) (sc_382 hS) rfl ?_
          refine s_callO (y := y_M_fails) (Y' := Y_M_fails) (as := [VR (some 382), VI (4 : Int), VI (t3 382 6)]) (r := fun q => none) (M' := fun q => q) (kInvV (dt_M_numeral 26 _ _ _ rfl) kin_M_fails 1 rfl (sc_382 hS) kse_M_fails rfl) kl_M_254 md_M_fails rfl rfl (fun q hq => c_M_fails hS (4 : Int) (t3 382 6) t3 q hq) (fun q5 => ?_)
          exact s_mask [true, true, false, false] (s_ret0 rfl)
        · refine s_aload_n (dt_M_numeral 18 _ _ _ rfl) rfl ?_
          refine s_getI (c := 1) (j := 9) (dt_M_numeral 19 _ _ _ rfl) (kf_M_248) (sc_382 hS) rfl ?_
          refine s_iload_n (dt_M_numeral 20 _ _ _ rfl) rfl ?_
          refine s_if_icmp_le (tgt := 53) (dt_M_numeral 21 _ _ _ rfl) rfl ?_ ?_
          · exact s_mask [true, true, false, false] (s_ret0 rfl)
          · refine s_aload_n (dt_M_numeral 22 _ _ _ rfl) rfl ?_
            refine s_iconst (dt_M_numeral 23 _ _ _ rfl) rfl ?_
            refine s_aload_n (dt_M_numeral 24 _ _ _ rfl) rfl ?_
            refine s_getI (c := 1) (j := 6) (dt_M_numeral 25 _ _ _ rfl) (kf_M_223) (sc_382 hS) rfl ?_
            refine s_callO (y := y_M_fails) (Y' := Y_M_fails) (as := [VR (some 382), VI (4 : Int), VI (t3 382 6)]) (r := fun q => none) (M' := fun q => q) (kInvV (dt_M_numeral 26 _ _ _ rfl) kin_M_fails 1 rfl (sc_382 hS) kse_M_fails rfl) kl_M_254 md_M_fails rfl rfl (fun q hq => c_M_fails hS (4 : Int) (t3 382 6) t3 q hq) (fun q6 => ?_)
            exact s_mask [true, true, false, false] (s_ret0 rfl)
    refine s_aload_n (dt_M_numeral 27 _ _ _ rfl) rfl ?_
    refine s_getI (c := 1) (j := 9) (dt_M_numeral 28 _ _ _ rfl) (kf_M_248) (sc_382 hS) rfl ?_
    refine s_letI (fun v8 => ?_)
    refine s_istore_n (dt_M_numeral 29 _ _ _ rfl) rfl ?_
    refine s_aload_n (dt_M_numeral 30 _ _ _ rfl) rfl ?_
    refine s_callO (y := y_M_isGood) (Y' := Y_M_isGood) (as := [VR (some 382)]) (r := fun q => some (VI q)) (M' := fun q => t7) (kInvV (dt_M_numeral 31 _ _ _ rfl) kin_M_isGood 1 rfl (sc_382 hS) kse_M_isGood rfl) kl_M_258 md_M_isGood rfl rfl (fun q hq => c_M_isGood hS t7 q hq) (fun q9 => ?_)
    refine s_bd (κ := fun t11 => kC 69 [some (VR (some 382)), some (VI a0), none, some (VI v8)] [] S t11) ?_ (fun t11 => ?_)
    · refine s_if_eq (tgt := 69) (dt_M_numeral 32 _ _ _ rfl) rfl ?_ ?_
      · exact s_mask [true, true, false, true] (s_ret0 rfl)
      · refine s_aload_n (dt_M_numeral 33 _ _ _ rfl) rfl ?_
        refine s_callO (y := y_M_goOn) (Y' := Y_M_goOn) (as := [VR (some 382)]) (r := fun q => none) (M' := fun q => q) (kInvV (dt_M_numeral 34 _ _ _ rfl) kin_M_goOn 1 rfl (sc_382 hS) kse_M_goOn rfl) kl_M_262 md_M_goOn rfl rfl (fun q hq => c_M_goOn hS t7 q hq) (fun q10 => ?_)
        exact s_mask [true, true, false, true] (s_ret0 rfl)
    refine s_aload_n (dt_M_numeral 35 _ _ _ rfl) rfl ?_
    refine s_callO (y := y_M_isGood) (Y' := Y_M_isGood) (as := [VR (some 382)]) (r := fun q => some (VI q)) (M' := fun q => t11) (kInvV (dt_M_numeral 36 _ _ _ rfl) kin_M_isGood 1 rfl (sc_382 hS) kse_M_isGood rfl) kl_M_258 md_M_isGood rfl rfl (fun q hq => c_M_isGood hS t11 q hq) (fun q12 => ?_)
    refine s_bd (κ := fun t13 => kC 81 [none, none, none, none] [VI t13] S t11) ?_ (fun t13 => ?_)
    · refine s_if_eq (tgt := 80) (dt_M_numeral 37 _ _ _ rfl) rfl ?_ ?_
      · refine s_iload_n (dt_M_numeral 40 _ _ _ rfl) rfl ?_
        exact s_mask [false, false, false, false] (s_ret0 rfl)
      · refine s_iload_n (dt_M_numeral 38 _ _ _ rfl) rfl ?_
        refine s_goto (tgt := 81) (dt_M_numeral 39 _ _ _ rfl) rfl ?_
        exact s_mask [false, false, false, false] (s_ret0 rfl)
    exact s_iret (dt_M_numeral 41 _ _ _ rfl) rfl rfl
theorem c_M_numeral {S : KS} (hS : KExt 435 S)  (a0 : Int) (a1 : Int) (M : KM) : ∀ q, f_M_numeral a0 a1 M = some q → Ctr y_M_numeral Y_M_numeral [VR (some 382), VI a0, VI a1] S M (some (VI q.1)) S (q.2) := fun q hq =>
  ctr_of md_M_numeral (Nat.le_of_ble_eq_true rfl) ⟨Nat.le_refl _, Nat.le_refl _⟩ 1 hq rfl (fun _ G => sim_M_numeral hS  a0 a1 M)
set_option maxRecDepth 100000 in
theorem sim_M_after {G : Gam} {S : KS} (hS : KExt 435 S)  (a0 : Int) (a1 : Int) (a2 : Int) (M : KM) : Sim G Y_M_after (f_M_after a0 a1 a2 M) (kC 0 [some (VR (some 382)), some (VJ a0), none, some (VI a1), some (VI a2)] [] S M) (fun (q : Int × KM) => Sum.inr (some (VI q.1), S, q.2)) := by
  unfold f_M_after
  refine s_aload_n (dt_M_after 0 _ _ _ rfl) rfl ?_
  refine s_aload_n (dt_M_after 1 _ _ _ rfl) rfl ?_
  refine s_lload_n (dt_M_after 2 _ _ _ rfl) rfl ?_
  refine s_callO (y := y_M_isWord) (Y' := Y_M_isWord) (as := [VR (some 382), VJ a0]) (r := fun q => some (VI q)) (M' := fun q => M) (kInvV (dt_M_after 3 _ _ _ rfl) kin_M_isWord 1 rfl (sc_382 hS) kse_M_isWord rfl) kl_M_268 md_M_isWord rfl rfl (fun q hq => c_M_isWord hS a0 M q hq) (fun q1 => ?_)
  refine s_callO (y := y_M_must) (Y' := Y_M_must) (as := [VR (some 382), VI q1]) (r := fun q => none) (M' := fun q => q) (kInvV (dt_M_after 4 _ _ _ rfl) kin_M_must 1 rfl (sc_382 hS) kse_M_must rfl) kl_M_271 md_M_must rfl rfl (fun q hq => c_M_must hS q1 M q hq) (fun q2 => ?_)
  refine s_aload_n (dt_M_after 5 _ _ _ rfl) rfl ?_
  refine s_iload_n (dt_M_after 6 _ _ _ rfl) rfl ?_
  refine s_iload (dt_M_after 7 _ _ _ rfl) rfl ?_
  refine s_callO (y := y_M_numeral) (Y' := Y_M_numeral) (as := [VR (some 382), VI a1, VI a2]) (r := fun q => some (VI q.1)) (M' := fun q => q.2) (kInvV (dt_M_after 8 _ _ _ rfl) kin_M_numeral 1 rfl (sc_382 hS) kse_M_numeral rfl) kl_M_275 md_M_numeral rfl rfl (fun q hq => c_M_numeral hS a1 a2 q2 q hq) (fun q3 => ?_)
  exact s_iret (dt_M_after 9 _ _ _ rfl) rfl rfl
theorem c_M_after {S : KS} (hS : KExt 435 S)  (a0 : Int) (a1 : Int) (a2 : Int) (M : KM) : ∀ q, f_M_after a0 a1 a2 M = some q → Ctr y_M_after Y_M_after [VR (some 382), VJ a0, VI a1, VI a2] S M (some (VI q.1)) S (q.2) := fun q hq =>
  ctr_of md_M_after (Nat.le_of_ble_eq_true rfl) ⟨Nat.le_refl _, Nat.le_refl _⟩ 0 hq rfl (fun _ G => sim_M_after hS  a0 a1 a2 M)
set_option maxRecDepth 100000 in
theorem sim_M_isFull {G : Gam} {S : KS} (hS : KExt 435 S)   (M : KM) : Sim G Y_M_isFull (f_M_isFull  M) (kC 0 [some (VR (some 382))] [] S M) (fun (q : Int) => Sum.inr (some (VI q), S, M)) := by
  unfold f_M_isFull
  refine s_aload_n (dt_M_isFull 0 _ _ _ rfl) rfl ?_
  refine s_ldc2 (n := (1634166131 : Int)) (kc_M_208) (dt_M_isFull 1 _ _ _ rfl) rfl ?_
  refine s_callO (y := y_M_isWord) (Y' := Y_M_isWord) (as := [VR (some 382), VJ (1634166131 : Int)]) (r := fun q => some (VI q)) (M' := fun q => M) (kInvV (dt_M_isFull 2 _ _ _ rfl) kin_M_isWord 1 rfl (sc_382 hS) kse_M_isWord rfl) kl_M_268 md_M_isWord rfl rfl (fun q hq => c_M_isWord hS (1634166131 : Int) M q hq) (fun q1 => ?_)
  refine s_if_eq (tgt := 28) (dt_M_isFull 3 _ _ _ rfl) rfl ?_ ?_
  · refine s_aload_n (dt_M_isFull 14 _ _ _ rfl) rfl ?_
    refine s_ldc2 (n := (123581014175598 : Int)) (kc_M_188) (dt_M_isFull 15 _ _ _ rfl) rfl ?_
    refine s_callO (y := y_M_isWord) (Y' := Y_M_isWord) (as := [VR (some 382), VJ (123581014175598 : Int)]) (r := fun q => some (VI q)) (M' := fun q => M) (kInvV (dt_M_isFull 16 _ _ _ rfl) kin_M_isWord 1 rfl (sc_382 hS) kse_M_isWord rfl) kl_M_268 md_M_isWord rfl rfl (fun q hq => c_M_isWord hS (123581014175598 : Int) M q hq) (fun q2 => ?_)
    refine s_if_eq (tgt := 58) (dt_M_isFull 17 _ _ _ rfl) rfl ?_ ?_
    · refine s_aload_n (dt_M_isFull 29 _ _ _ rfl) rfl ?_
      refine s_ldc2 (n := (112641580559972 : Int)) (kc_M_198) (dt_M_isFull 30 _ _ _ rfl) rfl ?_
      refine s_callO (y := y_M_isWord) (Y' := Y_M_isWord) (as := [VR (some 382), VJ (112641580559972 : Int)]) (r := fun q => some (VI q)) (M' := fun q => M) (kInvV (dt_M_isFull 31 _ _ _ rfl) kin_M_isWord 1 rfl (sc_382 hS) kse_M_isWord rfl) kl_M_268 md_M_isWord rfl rfl (fun q hq => c_M_isWord hS (112641580559972 : Int) M q hq) (fun q3 => ?_)
      refine s_if_eq (tgt := 88) (dt_M_isFull 32 _ _ _ rfl) rfl ?_ ?_
      · refine s_aload_n (dt_M_isFull 44 _ _ _ rfl) rfl ?_
        refine s_ldc2 (n := (491394656372 : Int)) (kc_M_204) (dt_M_isFull 45 _ _ _ rfl) rfl ?_
        refine s_callO (y := y_M_isWord) (Y' := Y_M_isWord) (as := [VR (some 382), VJ (491394656372 : Int)]) (r := fun q => some (VI q)) (M' := fun q => M) (kInvV (dt_M_isFull 46 _ _ _ rfl) kin_M_isWord 1 rfl (sc_382 hS) kse_M_isWord rfl) kl_M_268 md_M_isWord rfl rfl (fun q hq => c_M_isWord hS (491394656372 : Int) M q hq) (fun q4 => ?_)
        refine s_if_eq (tgt := 118) (dt_M_isFull 47 _ _ _ rfl) rfl ?_ ?_
        · refine s_aload_n (dt_M_isFull 59 _ _ _ rfl) rfl ?_
          refine s_ldc2 (n := (1868850291 : Int)) (kc_M_206) (dt_M_isFull 60 _ _ _ rfl) rfl ?_
          refine s_callO (y := y_M_isWord) (Y' := Y_M_isWord) (as := [VR (some 382), VJ (1868850291 : Int)]) (r := fun q => some (VI q)) (M' := fun q => M) (kInvV (dt_M_isFull 61 _ _ _ rfl) kin_M_isWord 1 rfl (sc_382 hS) kse_M_isWord rfl) kl_M_268 md_M_isWord rfl rfl (fun q hq => c_M_isWord hS (1868850291 : Int) M q hq) (fun q5 => ?_)
          refine s_if_eq (tgt := 144) (dt_M_isFull 62 _ _ _ rfl) rfl ?_ ?_
          · refine s_aload_n (dt_M_isFull 73 _ _ _ rfl) rfl ?_
            refine s_ldc2 (n := (1685217655 : Int)) (kc_M_210) (dt_M_isFull 74 _ _ _ rfl) rfl ?_
            refine s_callO (y := y_M_isWord) (Y' := Y_M_isWord) (as := [VR (some 382), VJ (1685217655 : Int)]) (r := fun q => some (VI q)) (M' := fun q => M) (kInvV (dt_M_isFull 75 _ _ _ rfl) kin_M_isWord 1 rfl (sc_382 hS) kse_M_isWord rfl) kl_M_268 md_M_isWord rfl rfl (fun q hq => c_M_isWord hS (1685217655 : Int) M q hq) (fun q6 => ?_)
            refine s_bd (κ := fun t7 => kC 171 [none] [VI t7] S M) ?_ (fun t7 => ?_)
            · refine s_if_eq (tgt := 166) (dt_M_isFull 76 _ _ _ rfl) rfl ?_ ?_
              · refine s_iconst (dt_M_isFull 83 _ _ _ rfl) rfl ?_
                refine s_goto (tgt := 171) (dt_M_isFull 84 _ _ _ rfl) rfl ?_
                exact s_mask [false] (s_ret0 rfl)
              · refine s_aload_n (dt_M_isFull 77 _ _ _ rfl) rfl ?_
                refine s_getR (c := 1) (j := 28) (o := (some 402)) (dt_M_isFull 78 _ _ _ rfl) (kf_M_72) (sc_382 hS) rfl rfl ?_
                refine s_aload_n (dt_M_isFull 79 _ _ _ rfl) rfl ?_
                refine s_getI (c := 1) (j := 38) (dt_M_isFull 80 _ _ _ rfl) (kf_M_279) (sc_382 hS) rfl ?_
                refine s_zald (N := 2) (dt_M_isFull 81 _ _ _ rfl) (sc_402 hS) rfl ?_
                refine s_if_eq (tgt := 170) (dt_M_isFull 82 _ _ _ rfl) rfl ?_ ?_
                · refine s_iconst (dt_M_isFull 85 _ _ _ rfl) rfl ?_
                  exact s_mask [false] (s_ret0 rfl)
                · refine s_iconst (dt_M_isFull 83 _ _ _ rfl) rfl ?_
                  refine s_goto (tgt := 171) (dt_M_isFull 84 _ _ _ rfl) rfl ?_
                  exact s_mask [false] (s_ret0 rfl)
            exact s_zret (dt_M_isFull 86 _ _ _ rfl) rfl rfl
          · refine s_aload_n (dt_M_isFull 63 _ _ _ rfl) rfl ?_
            refine s_getR (c := 1) (j := 29) (o := (some 403)) (dt_M_isFull 64 _ _ _ rfl) (kf_M_76) (sc_382 hS) rfl rfl ?_
            refine s_bipush (dt_M_isFull 65 _ _ _ rfl) rfl ?_
            refine s_aload_n (dt_M_isFull 66 _ _ _ rfl) rfl ?_
            refine s_getI (c := 1) (j := 38) (dt_M_isFull 67 _ _ _ rfl) (kf_M_279) (sc_382 hS) rfl ?_
            refine s_imul (dt_M_isFull 68 _ _ _ rfl) ?_
            refine s_bipush (dt_M_isFull 69 _ _ _ rfl) rfl ?_
            refine s_iadd (dt_M_isFull 70 _ _ _ rfl) ?_
            refine s_zald (N := 14) (dt_M_isFull 71 _ _ _ rfl) (sc_403 hS) rfl ?_
            exact s_zret (dt_M_isFull 72 _ _ _ rfl) rfl rfl
        · refine s_aload_n (dt_M_isFull 48 _ _ _ rfl) rfl ?_
          refine s_getR (c := 1) (j := 13) (o := (some 387)) (dt_M_isFull 49 _ _ _ rfl) (kf_M_27) (sc_382 hS) rfl rfl ?_
          refine s_aload_n (dt_M_isFull 50 _ _ _ rfl) rfl ?_
          refine s_getI (c := 1) (j := 38) (dt_M_isFull 51 _ _ _ rfl) (kf_M_279) (sc_382 hS) rfl ?_
          refine s_iald (N := 2) (dt_M_isFull 52 _ _ _ rfl) (sc_387 hS) rfl ?_
          refine s_bipush (dt_M_isFull 53 _ _ _ rfl) rfl ?_
          refine s_bd (κ := fun t8 => kC 117 [none] [VI t8] S M) ?_ (fun t8 => ?_)
          · refine s_if_icmp_ne (tgt := 116) (dt_M_isFull 54 _ _ _ rfl) rfl ?_ ?_
            · refine s_iconst (dt_M_isFull 55 _ _ _ rfl) rfl ?_
              refine s_goto (tgt := 117) (dt_M_isFull 56 _ _ _ rfl) rfl ?_
              exact s_mask [false] (s_ret0 rfl)
            · refine s_iconst (dt_M_isFull 57 _ _ _ rfl) rfl ?_
              exact s_mask [false] (s_ret0 rfl)
          exact s_zret (dt_M_isFull 58 _ _ _ rfl) rfl rfl
      · refine s_aload_n (dt_M_isFull 33 _ _ _ rfl) rfl ?_
        refine s_getR (c := 1) (j := 12) (o := (some 386)) (dt_M_isFull 34 _ _ _ rfl) (kf_M_24) (sc_382 hS) rfl rfl ?_
        refine s_aload_n (dt_M_isFull 35 _ _ _ rfl) rfl ?_
        refine s_getI (c := 1) (j := 38) (dt_M_isFull 36 _ _ _ rfl) (kf_M_279) (sc_382 hS) rfl ?_
        refine s_iald (N := 2) (dt_M_isFull 37 _ _ _ rfl) (sc_386 hS) rfl ?_
        refine s_bipush (dt_M_isFull 38 _ _ _ rfl) rfl ?_
        refine s_bd (κ := fun t9 => kC 87 [none] [VI t9] S M) ?_ (fun t9 => ?_)
        · refine s_if_icmp_ne (tgt := 86) (dt_M_isFull 39 _ _ _ rfl) rfl ?_ ?_
          · refine s_iconst (dt_M_isFull 40 _ _ _ rfl) rfl ?_
            refine s_goto (tgt := 87) (dt_M_isFull 41 _ _ _ rfl) rfl ?_
            exact s_mask [false] (s_ret0 rfl)
          · refine s_iconst (dt_M_isFull 42 _ _ _ rfl) rfl ?_
            exact s_mask [false] (s_ret0 rfl)
        exact s_zret (dt_M_isFull 43 _ _ _ rfl) rfl rfl
    · refine s_aload_n (dt_M_isFull 18 _ _ _ rfl) rfl ?_
      refine s_getR (c := 1) (j := 11) (o := (some 385)) (dt_M_isFull 19 _ _ _ rfl) (kf_M_20) (sc_382 hS) rfl rfl ?_
      refine s_aload_n (dt_M_isFull 20 _ _ _ rfl) rfl ?_
      refine s_getI (c := 1) (j := 38) (dt_M_isFull 21 _ _ _ rfl) (kf_M_279) (sc_382 hS) rfl ?_
      refine s_iald (N := 2) (dt_M_isFull 22 _ _ _ rfl) (sc_385 hS) rfl ?_
      refine s_bipush (dt_M_isFull 23 _ _ _ rfl) rfl ?_
      refine s_bd (κ := fun t10 => kC 57 [none] [VI t10] S M) ?_ (fun t10 => ?_)
      · refine s_if_icmp_ne (tgt := 56) (dt_M_isFull 24 _ _ _ rfl) rfl ?_ ?_
        · refine s_iconst (dt_M_isFull 25 _ _ _ rfl) rfl ?_
          refine s_goto (tgt := 57) (dt_M_isFull 26 _ _ _ rfl) rfl ?_
          exact s_mask [false] (s_ret0 rfl)
        · refine s_iconst (dt_M_isFull 27 _ _ _ rfl) rfl ?_
          exact s_mask [false] (s_ret0 rfl)
      exact s_zret (dt_M_isFull 28 _ _ _ rfl) rfl rfl
  · refine s_aload_n (dt_M_isFull 4 _ _ _ rfl) rfl ?_
    refine s_getR (c := 1) (j := 18) (o := (some 392)) (dt_M_isFull 5 _ _ _ rfl) (kf_M_42) (sc_382 hS) rfl rfl ?_
    refine s_aload_n (dt_M_isFull 6 _ _ _ rfl) rfl ?_
    refine s_getI (c := 1) (j := 38) (dt_M_isFull 7 _ _ _ rfl) (kf_M_279) (sc_382 hS) rfl ?_
    refine s_iald (N := 2) (dt_M_isFull 8 _ _ _ rfl) (sc_392 hS) rfl ?_
    refine s_bd (κ := fun t11 => kC 27 [none] [VI t11] S M) ?_ (fun t11 => ?_)
    · refine s_if_le (tgt := 26) (dt_M_isFull 9 _ _ _ rfl) rfl ?_ ?_
      · refine s_iconst (dt_M_isFull 12 _ _ _ rfl) rfl ?_
        exact s_mask [false] (s_ret0 rfl)
      · refine s_iconst (dt_M_isFull 10 _ _ _ rfl) rfl ?_
        refine s_goto (tgt := 27) (dt_M_isFull 11 _ _ _ rfl) rfl ?_
        exact s_mask [false] (s_ret0 rfl)
    exact s_zret (dt_M_isFull 13 _ _ _ rfl) rfl rfl
theorem c_M_isFull {S : KS} (hS : KExt 435 S)   (M : KM) : ∀ q, f_M_isFull  M = some q → Ctr y_M_isFull Y_M_isFull [VR (some 382)] S M (some (VI q)) S (M) := fun q hq =>
  ctr_of md_M_isFull (Nat.le_of_ble_eq_true rfl) ⟨Nat.le_refl _, Nat.le_refl _⟩ 0 hq rfl (fun _ G => sim_M_isFull hS   M)
set_option maxRecDepth 100000 in
theorem sim_M_isSignHere {G : Gam} {S : KS} (hS : KExt 435 S)  (a0 : Int) (M : KM) : Sim G Y_M_isSignHere (f_M_isSignHere a0 M) (kC 0 [some (VR (some 382)), some (VI a0)] [] S M) (fun (q : Int) => Sum.inr (some (VI q), S, M)) := by
  unfold f_M_isSignHere
  refine s_aload_n (dt_M_isSignHere 0 _ _ _ rfl) rfl ?_
  refine s_getI (c := 1) (j := 8) (dt_M_isSignHere 1 _ _ _ rfl) (kf_M_230) (sc_382 hS) rfl ?_
  refine s_iconst (dt_M_isSignHere 2 _ _ _ rfl) rfl ?_
  refine s_bd (κ := fun t2 => kC 25 [none, none] [VI t2] S M) ?_ (fun t2 => ?_)
  · refine s_if_icmp_ne (tgt := 24) (dt_M_isSignHere 3 _ _ _ rfl) rfl ?_ ?_
    · refine s_aload_n (dt_M_isSignHere 4 _ _ _ rfl) rfl ?_
      refine s_aload_n (dt_M_isSignHere 5 _ _ _ rfl) rfl ?_
      refine s_getI (c := 1) (j := 6) (dt_M_isSignHere 6 _ _ _ rfl) (kf_M_223) (sc_382 hS) rfl ?_
      refine s_callO (y := y_M_sign) (Y' := Y_M_sign) (as := [VR (some 382), VI (M 382 6)]) (r := fun q => some (VI q)) (M' := fun q => M) (kInvV (dt_M_isSignHere 7 _ _ _ rfl) kin_M_sign 1 rfl (sc_382 hS) kse_M_sign rfl) kl_M_226 md_M_sign rfl rfl (fun q hq => c_M_sign hS (M 382 6) M q hq) (fun q1 => ?_)
      refine s_iload_n (dt_M_isSignHere 8 _ _ _ rfl) rfl ?_
      refine s_if_icmp_ne (tgt := 24) (dt_M_isSignHere 9 _ _ _ rfl) rfl ?_ ?_
      · refine s_iconst (dt_M_isSignHere 10 _ _ _ rfl) rfl ?_
        refine s_goto (tgt := 25) (dt_M_isSignHere 11 _ _ _ rfl) rfl ?_
        exact s_mask [false, false] (s_ret0 rfl)
      · refine s_iconst (dt_M_isSignHere 12 _ _ _ rfl) rfl ?_
        exact s_mask [false, false] (s_ret0 rfl)
    · refine s_iconst (dt_M_isSignHere 12 _ _ _ rfl) rfl ?_
      exact s_mask [false, false] (s_ret0 rfl)
  exact s_zret (dt_M_isSignHere 13 _ _ _ rfl) rfl rfl
theorem c_M_isSignHere {S : KS} (hS : KExt 435 S)  (a0 : Int) (M : KM) : ∀ q, f_M_isSignHere a0 M = some q → Ctr y_M_isSignHere Y_M_isSignHere [VR (some 382), VI a0] S M (some (VI q)) S (M) := fun q hq =>
  ctr_of md_M_isSignHere (Nat.le_of_ble_eq_true rfl) ⟨Nat.le_refl _, Nat.le_refl _⟩ 0 hq rfl (fun _ G => sim_M_isSignHere hS  a0 M)
