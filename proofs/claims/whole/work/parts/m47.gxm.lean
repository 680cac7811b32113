set_option maxRecDepth 100000 in
theorem sJ_Reader_amount_37L12 {G : Gam} {S : KS} (hS : KExt 382 S)  {F : Nat → Int → KM → Option (Int × KM)} {d : Nat} (hF_Reader_either : ∀ (a : Int) (M : KM) q, F 0 a M = some q → Ctr y_Reader_either (Y_Reader_either d) [VR (some 14), VI a] S M (some (VI q.1)) S q.2) (hF_Reader_both : ∀ (a : Int) (M : KM) q, F 1 a M = some q → Ctr y_Reader_both (Y_Reader_both d) [VR (some 14), VI a] S M (some (VI q.1)) S q.2) (hF_Reader_one : ∀ (a : Int) (M : KM) q, F 2 a M = some q → Ctr y_Reader_one (Y_Reader_one d) [VR (some 14), VI a] S M (some (VI q.1)) S q.2) (hF_Reader_amount : ∀ (a : Int) (M : KM) q, F 3 a M = some q → Ctr y_Reader_amount (Y_Reader_amount d) [VR (some 14), VI a] S M (some (VI q.1)) S q.2) (hF_Reader_term : ∀ (a : Int) (M : KM) q, F 4 a M = some q → Ctr y_Reader_term (Y_Reader_term d) [VR (some 14), VI a] S M (some (VI q.1)) S q.2) (hF_Reader_unit : ∀ (a : Int) (M : KM) q, F 5 a M = some q → Ctr y_Reader_unit (Y_Reader_unit d) [VR (some 14), VI a] S M (some (VI q.1)) S q.2) (a0 : Int) (s2 : Int × KM) (M : KM) (j3 : Int) (M4 : KM) : Sim G (Y_Reader_amount (d + 1)) (J_Reader_amount_37L12 F a0 s2 M j3 M4) (kC 37 [some (VR (some 14)), some (VI a0), some (VI j3), none] [] S M4) (Sum.elim (fun (s2 : Int × KM) => kC 12 [some (VR (some 14)), some (VI a0), some (VI s2.1), none] [] S s2.2) (Sum.elim (fun (e9 : KM) => kC 73 [none, none, none, none] [] S e9) (fun (e10 : KM) => kC 54 [none, none, none, none] [] S e10))) := by
  unfold J_Reader_amount_37L12
  refine s_aload_n (dt_Reader_amount 19 _ _ _ rfl) rfl ?_
  refine s_getI (c := 7) (j := 5) (dt_Reader_amount 20 _ _ _ rfl) (kf_Reader_59) (sc_14 hS) rfl ?_
  refine s_letI (fun v5 => ?_)
  refine s_istore_n (dt_Reader_amount 21 _ _ _ rfl) rfl ?_
  refine s_aload_n (dt_Reader_amount 22 _ _ _ rfl) rfl ?_
  refine s_callO (y := y_Reader_step) (Y' := Y_Reader_step) (as := [VR (some 14)]) (r := fun q => none) (M' := fun q => q) (kInvV (dt_Reader_amount 23 _ _ _ rfl) kin_Reader_step 7 rfl (sc_14 hS) kse_Reader_step rfl) kl_Reader_53 md_Reader_step rfl rfl (fun q hq => c_Reader_step hS M4 q hq) (fun q6 => ?_)
  refine s_aload_n (dt_Reader_amount 24 _ _ _ rfl) rfl ?_
  refine s_iload_n (dt_Reader_amount 25 _ _ _ rfl) rfl ?_
  refine s_callO (y := y_Reader_term) (Y' := (Y_Reader_term d)) (as := [VR (some 14), VI a0]) (r := fun q => some (VI q.1)) (M' := fun q => q.2) (kInvV (dt_Reader_amount 26 _ _ _ rfl) kin_Reader_term 7 rfl (sc_14 hS) kse_Reader_term rfl) kl_Reader_195 (md_Reader_term _) rfl (kbleR d rfl) (fun q hq => hF_Reader_term a0 q6 q hq) (fun q7 => ?_)
  refine s_if_ne (tgt := 56) (dt_Reader_amount 27 _ _ _ rfl) rfl ?_ ?_
  · exact s_mask [false, false, false, false] (s_ret0 rfl)
  · refine s_aload_n (dt_Reader_amount 30 _ _ _ rfl) rfl ?_
    refine s_getR (c := 7) (j := 2) (o := (some 15)) (dt_Reader_amount 31 _ _ _ rfl) (kf_Reader_21) (sc_14 hS) rfl rfl ?_
    refine s_getR (c := 12) (j := 16) (o := (some 24)) (dt_Reader_amount 32 _ _ _ rfl) (kf_Reader_148) (sc_15 hS) rfl rfl ?_
    refine s_iload_n (dt_Reader_amount 33 _ _ _ rfl) rfl ?_
    refine s_callO (y := y_Formulas_add) (Y' := Y_Formulas_add) (as := [VR (some 24), VI v5]) (r := fun q => none) (M' := fun q => q) (kInvV (dt_Reader_amount 34 _ _ _ rfl) kin_Formulas_add 4 rfl (sc_24 hS) kse_Formulas_add rfl) kl_Reader_183 md_Formulas_add rfl rfl (fun q hq => c_Formulas_add hS v5 q7.2 q hq) (fun q8 => ?_)
    refine s_iinc (dt_Reader_amount 35 _ _ _ rfl) rfl rfl ?_
    refine s_goto (tgt := 12) (dt_Reader_amount 36 _ _ _ rfl) rfl ?_
    exact s_mask [true, true, true, false] (s_ret0 rfl)
set_option maxRecDepth 100000 in
theorem sim_Reader_amount {G : Gam} {S : KS} (hS : KExt 382 S) {F : Nat → Int → KM → Option (Int × KM)} {d : Nat} (hF_Reader_either : ∀ (a : Int) (M : KM) q, F 0 a M = some q → Ctr y_Reader_either (Y_Reader_either d) [VR (some 14), VI a] S M (some (VI q.1)) S q.2) (hF_Reader_both : ∀ (a : Int) (M : KM) q, F 1 a M = some q → Ctr y_Reader_both (Y_Reader_both d) [VR (some 14), VI a] S M (some (VI q.1)) S q.2) (hF_Reader_one : ∀ (a : Int) (M : KM) q, F 2 a M = some q → Ctr y_Reader_one (Y_Reader_one d) [VR (some 14), VI a] S M (some (VI q.1)) S q.2) (hF_Reader_amount : ∀ (a : Int) (M : KM) q, F 3 a M = some q → Ctr y_Reader_amount (Y_Reader_amount d) [VR (some 14), VI a] S M (some (VI q.1)) S q.2) (hF_Reader_term : ∀ (a : Int) (M : KM) q, F 4 a M = some q → Ctr y_Reader_term (Y_Reader_term d) [VR (some 14), VI a] S M (some (VI q.1)) S q.2) (hF_Reader_unit : ∀ (a : Int) (M : KM) q, F 5 a M = some q → Ctr y_Reader_unit (Y_Reader_unit d) [VR (some 14), VI a] S M (some (VI q.1)) S q.2)  (a0 : Int) (M : KM) : Sim G (Y_Reader_amount (d + 1)) (f_Reader_amount F a0 M) (kC 0 [some (VR (some 14)), some (VI a0), none, none] [] S M) (fun (q : Int × KM) => Sum.inr (some (VI q.1), S, q.2)) := by
  unfold f_Reader_amount
  refine s_aload_n (dt_Reader_amount 0 _ _ _ rfl) rfl ?_
  refine s_iload_n (dt_Reader_amount 1 _ _ _ rfl) rfl ?_
  refine s_callO (y := y_Reader_term) (Y' := (Y_Reader_term d)) (as := [VR (some 14), VI a0]) (r := fun q => some (VI q.1)) (M' := fun q => q.2) (kInvV (dt_Reader_amount 2 _ _ _ rfl) kin_Reader_term 7 rfl (sc_14 hS) kse_Reader_term rfl) kl_Reader_195 (md_Reader_term _) rfl (kbleR d rfl) (fun q hq => hF_Reader_term a0 M q hq) (fun q1 => ?_)
  refine s_if_ne (tgt := 10) (dt_Reader_amount 3 _ _ _ rfl) rfl ?_ ?_
  · refine s_iconst (dt_Reader_amount 4 _ _ _ rfl) rfl ?_
    exact s_zret01 (dt_Reader_amount 5 _ _ _ rfl) rfl rfl rfl
  · refine s_iconst (dt_Reader_amount 6 _ _ _ rfl) rfl ?_
    refine s_istore_n (dt_Reader_amount 7 _ _ _ rfl) rfl ?_
    refine s_bd (κ := (Sum.elim (fun (e9 : KM) => kC 73 [none, none, none, none] [] S e9) (fun (e10 : KM) => kC 54 [none, none, none, none] [] S e10))) (s_mask [true, true, true, false] (s_while (c := fun s2 => kC 12 [some (VR (some 14)), some (VI a0), some (VI s2.1), none] [] S s2.2) (fun s2 => ?_) ((0 : Int), q1.2))) ?_
    · refine s_iload_n (dt_Reader_amount 8 _ _ _ rfl) rfl ?_
      refine s_sipush (dt_Reader_amount 9 _ _ _ rfl) rfl ?_
      refine s_if_icmp_ge (tgt := 73) (dt_Reader_amount 10 _ _ _ rfl) rfl ?_ ?_
      · refine s_aload_n (dt_Reader_amount 11 _ _ _ rfl) rfl ?_
        refine s_getI (c := 7) (j := 5) (dt_Reader_amount 12 _ _ _ rfl) (kf_Reader_59) (sc_14 hS) rfl ?_
        refine s_bipush (dt_Reader_amount 13 _ _ _ rfl) rfl ?_
        refine s_if_icmp_eq (tgt := 37) (dt_Reader_amount 14 _ _ _ rfl) rfl ?_ ?_
        · exact s_mask [true, true, true, false] (sJ_Reader_amount_37L12 hS hF_Reader_either hF_Reader_both hF_Reader_one hF_Reader_amount hF_Reader_term hF_Reader_unit a0 s2 M s2.1 s2.2)
        · refine s_aload_n (dt_Reader_amount 15 _ _ _ rfl) rfl ?_
          refine s_getI (c := 7) (j := 5) (dt_Reader_amount 16 _ _ _ rfl) (kf_Reader_59) (sc_14 hS) rfl ?_
          refine s_bipush (dt_Reader_amount 17 _ _ _ rfl) rfl ?_
          refine s_if_icmp_ne (tgt := 73) (dt_Reader_amount 18 _ _ _ rfl) rfl ?_ ?_
          · exact s_mask [true, true, true, false] (sJ_Reader_amount_37L12 hS hF_Reader_either hF_Reader_both hF_Reader_one hF_Reader_amount hF_Reader_term hF_Reader_unit a0 s2 M s2.1 s2.2)
          · exact s_mask [false, false, false, false] (s_ret0 rfl)
      · exact s_mask [false, false, false, false] (s_ret0 rfl)
    refine s_elim (fun e9 => ?_) ?_
    · refine s_iconst (dt_Reader_amount 37 _ _ _ rfl) rfl ?_
      exact s_zret01 (dt_Reader_amount 38 _ _ _ rfl) rfl rfl rfl
    intro e10
    refine s_iconst (dt_Reader_amount 28 _ _ _ rfl) rfl ?_
    exact s_zret01 (dt_Reader_amount 29 _ _ _ rfl) rfl rfl rfl
theorem cr_Reader_amount {S : KS} (hS : KExt 382 S) {F : Nat → Int → KM → Option (Int × KM)} {d : Nat} (hF_Reader_either : ∀ (a : Int) (M : KM) q, F 0 a M = some q → Ctr y_Reader_either (Y_Reader_either d) [VR (some 14), VI a] S M (some (VI q.1)) S q.2) (hF_Reader_both : ∀ (a : Int) (M : KM) q, F 1 a M = some q → Ctr y_Reader_both (Y_Reader_both d) [VR (some 14), VI a] S M (some (VI q.1)) S q.2) (hF_Reader_one : ∀ (a : Int) (M : KM) q, F 2 a M = some q → Ctr y_Reader_one (Y_Reader_one d) [VR (some 14), VI a] S M (some (VI q.1)) S q.2) (hF_Reader_amount : ∀ (a : Int) (M : KM) q, F 3 a M = some q → Ctr y_Reader_amount (Y_Reader_amount d) [VR (some 14), VI a] S M (some (VI q.1)) S q.2) (hF_Reader_term : ∀ (a : Int) (M : KM) q, F 4 a M = some q → Ctr y_Reader_term (Y_Reader_term d) [VR (some 14), VI a] S M (some (VI q.1)) S q.2) (hF_Reader_unit : ∀ (a : Int) (M : KM) q, F 5 a M = some q → Ctr y_Reader_unit (Y_Reader_unit d) [VR (some 14), VI a] S M (some (VI q.1)) S q.2)  (a0 : Int) (M : KM) : ∀ q, f_Reader_amount F a0 M = some q → Ctr y_Reader_amount (Y_Reader_amount (d + 1)) [VR (some 14), VI a0] S M (some (VI q.1)) S (q.2) := fun q hq =>
  ctr_of (md_Reader_amount _) (Nat.le_of_ble_eq_true rfl) ⟨Nat.le_refl _, Nat.le_refl _⟩ 2 hq rfl (fun _ G => sim_Reader_amount hS hF_Reader_either hF_Reader_both hF_Reader_one hF_Reader_amount hF_Reader_term hF_Reader_unit a0 M)
set_option maxRecDepth 100000 in
theorem sJ_Reader_one_84 {G : Gam} {S : KS} (hS : KExt 382 S)  {F : Nat → Int → KM → Option (Int × KM)} {d : Nat} (hF_Reader_either : ∀ (a : Int) (M : KM) q, F 0 a M = some q → Ctr y_Reader_either (Y_Reader_either d) [VR (some 14), VI a] S M (some (VI q.1)) S q.2) (hF_Reader_both : ∀ (a : Int) (M : KM) q, F 1 a M = some q → Ctr y_Reader_both (Y_Reader_both d) [VR (some 14), VI a] S M (some (VI q.1)) S q.2) (hF_Reader_one : ∀ (a : Int) (M : KM) q, F 2 a M = some q → Ctr y_Reader_one (Y_Reader_one d) [VR (some 14), VI a] S M (some (VI q.1)) S q.2) (hF_Reader_amount : ∀ (a : Int) (M : KM) q, F 3 a M = some q → Ctr y_Reader_amount (Y_Reader_amount d) [VR (some 14), VI a] S M (some (VI q.1)) S q.2) (hF_Reader_term : ∀ (a : Int) (M : KM) q, F 4 a M = some q → Ctr y_Reader_term (Y_Reader_term d) [VR (some 14), VI a] S M (some (VI q.1)) S q.2) (hF_Reader_unit : ∀ (a : Int) (M : KM) q, F 5 a M = some q → Ctr y_Reader_unit (Y_Reader_unit d) [VR (some 14), VI a] S M (some (VI q.1)) S q.2) (a0 : Int) (M : KM) (j7 : Int) (M8 : KM) : Sim G (Y_Reader_one (d + 1)) (J_Reader_one_84 F a0 M j7 M8) (kC 84 [some (VR (some 14)), some (VI a0), some (VI j7)] [] S M8) (fun (q : Int × KM) => Sum.inr (some (VI q.1), S, q.2)) := by
  unfold J_Reader_one_84
  refine s_aload_n (dt_Reader_one 46 _ _ _ rfl) rfl ?_
  refine s_callO (y := y_Reader_step) (Y' := Y_Reader_step) (as := [VR (some 14)]) (r := fun q => none) (M' := fun q => q) (kInvV (dt_Reader_one 47 _ _ _ rfl) kin_Reader_step 7 rfl (sc_14 hS) kse_Reader_step rfl) kl_Reader_53 md_Reader_step rfl rfl (fun q hq => c_Reader_step hS M8 q hq) (fun q9 => ?_)
  refine s_aload_n (dt_Reader_one 48 _ _ _ rfl) rfl ?_
  refine s_iload_n (dt_Reader_one 49 _ _ _ rfl) rfl ?_
  refine s_callO (y := y_Reader_amount) (Y' := (Y_Reader_amount d)) (as := [VR (some 14), VI a0]) (r := fun q => some (VI q.1)) (M' := fun q => q.2) (kInvV (dt_Reader_one 50 _ _ _ rfl) kin_Reader_amount 7 rfl (sc_14 hS) kse_Reader_amount rfl) kl_Reader_192 (md_Reader_amount _) rfl (kbleR d rfl) (fun q hq => hF_Reader_amount a0 q9 q hq) (fun q10 => ?_)
  refine s_if_ne (tgt := 98) (dt_Reader_one 51 _ _ _ rfl) rfl ?_ ?_
  · refine s_iconst (dt_Reader_one 52 _ _ _ rfl) rfl ?_
    exact s_zret01 (dt_Reader_one 53 _ _ _ rfl) rfl rfl rfl
  · refine s_aload_n (dt_Reader_one 54 _ _ _ rfl) rfl ?_
    refine s_getR (c := 7) (j := 2) (o := (some 15)) (dt_Reader_one 55 _ _ _ rfl) (kf_Reader_21) (sc_14 hS) rfl rfl ?_
    refine s_getR (c := 12) (j := 16) (o := (some 24)) (dt_Reader_one 56 _ _ _ rfl) (kf_Reader_148) (sc_15 hS) rfl rfl ?_
    refine s_iload_n (dt_Reader_one 57 _ _ _ rfl) rfl ?_
    refine s_callO (y := y_Formulas_add) (Y' := Y_Formulas_add) (as := [VR (some 24), VI j7]) (r := fun q => none) (M' := fun q => q) (kInvV (dt_Reader_one 58 _ _ _ rfl) kin_Formulas_add 4 rfl (sc_24 hS) kse_Formulas_add rfl) kl_Reader_183 md_Formulas_add rfl rfl (fun q hq => c_Formulas_add hS j7 q10.2 q hq) (fun q11 => ?_)
    refine s_iconst (dt_Reader_one 59 _ _ _ rfl) rfl ?_
    exact s_zret01 (dt_Reader_one 60 _ _ _ rfl) rfl rfl rfl
set_option maxRecDepth 100000 in
theorem sim_Reader_one {G : Gam} {S : KS} (hS : KExt 382 S) {F : Nat → Int → KM → Option (Int × KM)} {d : Nat} (hF_Reader_either : ∀ (a : Int) (M : KM) q, F 0 a M = some q → Ctr y_Reader_either (Y_Reader_either d) [VR (some 14), VI a] S M (some (VI q.1)) S q.2) (hF_Reader_both : ∀ (a : Int) (M : KM) q, F 1 a M = some q → Ctr y_Reader_both (Y_Reader_both d) [VR (some 14), VI a] S M (some (VI q.1)) S q.2) (hF_Reader_one : ∀ (a : Int) (M : KM) q, F 2 a M = some q → Ctr y_Reader_one (Y_Reader_one d) [VR (some 14), VI a] S M (some (VI q.1)) S q.2) (hF_Reader_amount : ∀ (a : Int) (M : KM) q, F 3 a M = some q → Ctr y_Reader_amount (Y_Reader_amount d) [VR (some 14), VI a] S M (some (VI q.1)) S q.2) (hF_Reader_term : ∀ (a : Int) (M : KM) q, F 4 a M = some q → Ctr y_Reader_term (Y_Reader_term d) [VR (some 14), VI a] S M (some (VI q.1)) S q.2) (hF_Reader_unit : ∀ (a : Int) (M : KM) q, F 5 a M = some q → Ctr y_Reader_unit (Y_Reader_unit d) [VR (some 14), VI a] S M (some (VI q.1)) S q.2)  (a0 : Int) (M : KM) : Sim G (Y_Reader_one (d + 1)) (f_Reader_one F a0 M) (kC 0 [some (VR (some 14)), some (VI a0), none] [] S M) (fun (q : Int × KM) => Sum.inr (some (VI q.1), S, q.2)) := by
  unfold f_Reader_one
  refine s_aload_n (dt_Reader_one 0 _ _ _ rfl) rfl ?_
  refine s_getI (c := 7) (j := 5) (dt_Reader_one 1 _ _ _ rfl) (kf_Reader_59) (sc_14 hS) rfl ?_
  refine s_sipush (dt_Reader_one 2 _ _ _ rfl) rfl ?_
  refine s_if_icmp_ne (tgt := 51) (dt_Reader_one 3 _ _ _ rfl) rfl ?_ ?_
  · refine s_iload_n (dt_Reader_one 4 _ _ _ rfl) rfl ?_
    refine s_bipush (dt_Reader_one 5 _ _ _ rfl) rfl ?_
    refine s_if_icmp_le (tgt := 22) (dt_Reader_one 6 _ _ _ rfl) rfl ?_ ?_
    · refine s_aload_n (dt_Reader_one 11 _ _ _ rfl) rfl ?_
      refine s_callO (y := y_Reader_step) (Y' := Y_Reader_step) (as := [VR (some 14)]) (r := fun q => none) (M' := fun q => q) (kInvV (dt_Reader_one 12 _ _ _ rfl) kin_Reader_step 7 rfl (sc_14 hS) kse_Reader_step rfl) kl_Reader_53 md_Reader_step rfl rfl (fun q hq => c_Reader_step hS M q hq) (fun q1 => ?_)
      refine s_aload_n (dt_Reader_one 13 _ _ _ rfl) rfl ?_
      refine s_iload_n (dt_Reader_one 14 _ _ _ rfl) rfl ?_
      refine s_iconst (dt_Reader_one 15 _ _ _ rfl) rfl ?_
      refine s_iadd (dt_Reader_one 16 _ _ _ rfl) ?_
      refine s_callO (y := y_Reader_one) (Y' := (Y_Reader_one d)) (as := [VR (some 14), VI (w32 (a0 + (1 : Int)))]) (r := fun q => some (VI q.1)) (M' := fun q => q.2) (kInvV (dt_Reader_one 17 _ _ _ rfl) kin_Reader_one 7 rfl (sc_14 hS) kse_Reader_one rfl) kl_Reader_189 (md_Reader_one _) rfl (kbleR d rfl) (fun q hq => hF_Reader_one (w32 (a0 + (1 : Int))) q1 q hq) (fun q2 => ?_)
      refine s_if_ne (tgt := 38) (dt_Reader_one 18 _ _ _ rfl) rfl ?_ ?_
      · refine s_iconst (dt_Reader_one 19 _ _ _ rfl) rfl ?_
        exact s_zret01 (dt_Reader_one 20 _ _ _ rfl) rfl rfl rfl
      · refine s_aload_n (dt_Reader_one 21 _ _ _ rfl) rfl ?_
        refine s_getR (c := 7) (j := 2) (o := (some 15)) (dt_Reader_one 22 _ _ _ rfl) (kf_Reader_21) (sc_14 hS) rfl rfl ?_
        refine s_getR (c := 12) (j := 16) (o := (some 24)) (dt_Reader_one 23 _ _ _ rfl) (kf_Reader_148) (sc_15 hS) rfl rfl ?_
        refine s_iconst (dt_Reader_one 24 _ _ _ rfl) rfl ?_
        refine s_callO (y := y_Formulas_add) (Y' := Y_Formulas_add) (as := [VR (some 24), VI (5 : Int)]) (r := fun q => none) (M' := fun q => q) (kInvV (dt_Reader_one 25 _ _ _ rfl) kin_Formulas_add 4 rfl (sc_24 hS) kse_Formulas_add rfl) kl_Reader_183 md_Formulas_add rfl rfl (fun q hq => c_Formulas_add hS (5 : Int) q2.2 q hq) (fun q3 => ?_)
        refine s_iconst (dt_Reader_one 26 _ _ _ rfl) rfl ?_
        exact s_zret01 (dt_Reader_one 27 _ _ _ rfl) rfl rfl rfl
    · refine s_aload_n (dt_Reader_one 7 _ _ _ rfl) rfl ?_
      refine s_iconst (dt_Reader_one 8 _ _ _ rfl) rfl ?_
      refine s_callO (y := y_Reader_refuse) (Y' := Y_Reader_refuse) (as := [VR (some 14), VI (2 : Int)]) (r := fun q => some (VI q.1)) (M' := fun q => q.2) (kInvV (dt_Reader_one 9 _ _ _ rfl) kin_Reader_refuse 7 rfl (sc_14 hS) kse_Reader_refuse rfl) kl_Reader_92 md_Reader_refuse rfl rfl (fun q hq => c_Reader_refuse hS (2 : Int) M q hq) (fun q4 => ?_)
      exact s_zret (dt_Reader_one 10 _ _ _ rfl) rfl rfl
  · refine s_aload_n (dt_Reader_one 28 _ _ _ rfl) rfl ?_
    refine s_iload_n (dt_Reader_one 29 _ _ _ rfl) rfl ?_
    refine s_callO (y := y_Reader_amount) (Y' := (Y_Reader_amount d)) (as := [VR (some 14), VI a0]) (r := fun q => some (VI q.1)) (M' := fun q => q.2) (kInvV (dt_Reader_one 30 _ _ _ rfl) kin_Reader_amount 7 rfl (sc_14 hS) kse_Reader_amount rfl) kl_Reader_192 (md_Reader_amount _) rfl (kbleR d rfl) (fun q hq => hF_Reader_amount a0 M q hq) (fun q5 => ?_)
    refine s_if_ne (tgt := 61) (dt_Reader_one 31 _ _ _ rfl) rfl ?_ ?_
    · refine s_iconst (dt_Reader_one 32 _ _ _ rfl) rfl ?_
      exact s_zret01 (dt_Reader_one 33 _ _ _ rfl) rfl rfl rfl
    · refine s_aload_n (dt_Reader_one 34 _ _ _ rfl) rfl ?_
      refine s_getI (c := 7) (j := 5) (dt_Reader_one 35 _ _ _ rfl) (kf_Reader_59) (sc_14 hS) rfl ?_
      refine s_letI (fun v6 => ?_)
      refine s_istore_n (dt_Reader_one 36 _ _ _ rfl) rfl ?_
      refine s_iload_n (dt_Reader_one 37 _ _ _ rfl) rfl ?_
      refine s_bipush (dt_Reader_one 38 _ _ _ rfl) rfl ?_
      refine s_if_icmp_eq (tgt := 84) (dt_Reader_one 39 _ _ _ rfl) rfl ?_ ?_
      · exact s_mask [true, true, true] (sJ_Reader_one_84 hS hF_Reader_either hF_Reader_both hF_Reader_one hF_Reader_amount hF_Reader_term hF_Reader_unit a0 M v6 q5.2)
      · refine s_iload_n (dt_Reader_one 40 _ _ _ rfl) rfl ?_
        refine s_bipush (dt_Reader_one 41 _ _ _ rfl) rfl ?_
        refine s_if_icmp_eq (tgt := 84) (dt_Reader_one 42 _ _ _ rfl) rfl ?_ ?_
        · exact s_mask [true, true, true] (sJ_Reader_one_84 hS hF_Reader_either hF_Reader_both hF_Reader_one hF_Reader_amount hF_Reader_term hF_Reader_unit a0 M v6 q5.2)
        · refine s_iload_n (dt_Reader_one 43 _ _ _ rfl) rfl ?_
          refine s_bipush (dt_Reader_one 44 _ _ _ rfl) rfl ?_
          refine s_if_icmp_ne (tgt := 109) (dt_Reader_one 45 _ _ _ rfl) rfl ?_ ?_
          · exact s_mask [true, true, true] (sJ_Reader_one_84 hS hF_Reader_either hF_Reader_both hF_Reader_one hF_Reader_amount hF_Reader_term hF_Reader_unit a0 M v6 q5.2)
          · refine s_iconst (dt_Reader_one 59 _ _ _ rfl) rfl ?_
            exact s_zret01 (dt_Reader_one 60 _ _ _ rfl) rfl rfl rfl
theorem cr_Reader_one {S : KS} (hS : KExt 382 S) {F : Nat → Int → KM → Option (Int × KM)} {d : Nat} (hF_Reader_either : ∀ (a : Int) (M : KM) q, F 0 a M = some q → Ctr y_Reader_either (Y_Reader_either d) [VR (some 14), VI a] S M (some (VI q.1)) S q.2) (hF_Reader_both : ∀ (a : Int) (M : KM) q, F 1 a M = some q → Ctr y_Reader_both (Y_Reader_both d) [VR (some 14), VI a] S M (some (VI q.1)) S q.2) (hF_Reader_one : ∀ (a : Int) (M : KM) q, F 2 a M = some q → Ctr y_Reader_one (Y_Reader_one d) [VR (some 14), VI a] S M (some (VI q.1)) S q.2) (hF_Reader_amount : ∀ (a : Int) (M : KM) q, F 3 a M = some q → Ctr y_Reader_amount (Y_Reader_amount d) [VR (some 14), VI a] S M (some (VI q.1)) S q.2) (hF_Reader_term : ∀ (a : Int) (M : KM) q, F 4 a M = some q → Ctr y_Reader_term (Y_Reader_term d) [VR (some 14), VI a] S M (some (VI q.1)) S q.2) (hF_Reader_unit : ∀ (a : Int) (M : KM) q, F 5 a M = some q → Ctr y_Reader_unit (Y_Reader_unit d) [VR (some 14), VI a] S M (some (VI q.1)) S q.2)  (a0 : Int) (M : KM) : ∀ q, f_Reader_one F a0 M = some q → Ctr y_Reader_one (Y_Reader_one (d + 1)) [VR (some 14), VI a0] S M (some (VI q.1)) S (q.2) := fun q hq =>
  ctr_of (md_Reader_one _) (Nat.le_of_ble_eq_true rfl) ⟨Nat.le_refl _, Nat.le_refl _⟩ 1 hq rfl (fun _ G => sim_Reader_one hS hF_Reader_either hF_Reader_both hF_Reader_one hF_Reader_amount hF_Reader_term hF_Reader_unit a0 M)
set_option maxRecDepth 100000 in
theorem sim_Reader_both {G : Gam} {S : KS} (hS : KExt 382 S) {F : Nat → Int → KM → Option (Int × KM)} {d : Nat} (hF_Reader_either : ∀ (a : Int) (M : KM) q, F 0 a M = some q → Ctr y_Reader_either (Y_Reader_either d) [VR (some 14), VI a] S M (some (VI q.1)) S q.2) (hF_Reader_both : ∀ (a : Int) (M : KM) q, F 1 a M = some q → Ctr y_Reader_both (Y_Reader_both d) [VR (some 14), VI a] S M (some (VI q.1)) S q.2) (hF_Reader_one : ∀ (a : Int) (M : KM) q, F 2 a M = some q → Ctr y_Reader_one (Y_Reader_one d) [VR (some 14), VI a] S M (some (VI q.1)) S q.2) (hF_Reader_amount : ∀ (a : Int) (M : KM) q, F 3 a M = some q → Ctr y_Reader_amount (Y_Reader_amount d) [VR (some 14), VI a] S M (some (VI q.1)) S q.2) (hF_Reader_term : ∀ (a : Int) (M : KM) q, F 4 a M = some q → Ctr y_Reader_term (Y_Reader_term d) [VR (some 14), VI a] S M (some (VI q.1)) S q.2) (hF_Reader_unit : ∀ (a : Int) (M : KM) q, F 5 a M = some q → Ctr y_Reader_unit (Y_Reader_unit d) [VR (some 14), VI a] S M (some (VI q.1)) S q.2)  (a0 : Int) (M : KM) : Sim G (Y_Reader_both (d + 1)) (f_Reader_both F a0 M) (kC 0 [some (VR (some 14)), some (VI a0), none] [] S M) (fun (q : Int × KM) => Sum.inr (some (VI q.1), S, q.2)) := by
  unfold f_Reader_both
  refine s_aload_n (dt_Reader_both 0 _ _ _ rfl) rfl ?_
  refine s_iload_n (dt_Reader_both 1 _ _ _ rfl) rfl ?_
  refine s_callO (y := y_Reader_one) (Y' := (Y_Reader_one d)) (as := [VR (some 14), VI a0]) (r := fun q => some (VI q.1)) (M' := fun q => q.2) (kInvV (dt_Reader_both 2 _ _ _ rfl) kin_Reader_one 7 rfl (sc_14 hS) kse_Reader_one rfl) kl_Reader_189 (md_Reader_one _) rfl (kbleR d rfl) (fun q hq => hF_Reader_one a0 M q hq) (fun q1 => ?_)
  refine s_if_ne (tgt := 10) (dt_Reader_both 3 _ _ _ rfl) rfl ?_ ?_
  · refine s_iconst (dt_Reader_both 4 _ _ _ rfl) rfl ?_
    exact s_zret01 (dt_Reader_both 5 _ _ _ rfl) rfl rfl rfl
  · refine s_iconst (dt_Reader_both 6 _ _ _ rfl) rfl ?_
    refine s_istore_n (dt_Reader_both 7 _ _ _ rfl) rfl ?_
    refine s_bd (κ := (Sum.elim (fun (e6 : KM) => kC 41 [none, none, none] [] S e6) (fun (e7 : KM) => kC 61 [none, none, none] [] S e7))) (s_mask [true, true, true] (s_while (c := fun s2 => kC 12 [some (VR (some 14)), some (VI a0), some (VI s2.1)] [] S s2.2) (fun s2 => ?_) ((0 : Int), q1.2))) ?_
    · refine s_iload_n (dt_Reader_both 8 _ _ _ rfl) rfl ?_
      refine s_sipush (dt_Reader_both 9 _ _ _ rfl) rfl ?_
      refine s_if_icmp_ge (tgt := 61) (dt_Reader_both 10 _ _ _ rfl) rfl ?_ ?_
      · refine s_aload_n (dt_Reader_both 11 _ _ _ rfl) rfl ?_
        refine s_getI (c := 7) (j := 5) (dt_Reader_both 12 _ _ _ rfl) (kf_Reader_59) (sc_14 hS) rfl ?_
        refine s_sipush (dt_Reader_both 13 _ _ _ rfl) rfl ?_
        refine s_if_icmp_ne (tgt := 61) (dt_Reader_both 14 _ _ _ rfl) rfl ?_ ?_
        · refine s_aload_n (dt_Reader_both 15 _ _ _ rfl) rfl ?_
          refine s_callO (y := y_Reader_step) (Y' := Y_Reader_step) (as := [VR (some 14)]) (r := fun q => none) (M' := fun q => q) (kInvV (dt_Reader_both 16 _ _ _ rfl) kin_Reader_step 7 rfl (sc_14 hS) kse_Reader_step rfl) kl_Reader_53 md_Reader_step rfl rfl (fun q hq => c_Reader_step hS s2.2 q hq) (fun q3 => ?_)
          refine s_aload_n (dt_Reader_both 17 _ _ _ rfl) rfl ?_
          refine s_iload_n (dt_Reader_both 18 _ _ _ rfl) rfl ?_
          refine s_callO (y := y_Reader_one) (Y' := (Y_Reader_one d)) (as := [VR (some 14), VI a0]) (r := fun q => some (VI q.1)) (M' := fun q => q.2) (kInvV (dt_Reader_both 19 _ _ _ rfl) kin_Reader_one 7 rfl (sc_14 hS) kse_Reader_one rfl) kl_Reader_189 (md_Reader_one _) rfl (kbleR d rfl) (fun q hq => hF_Reader_one a0 q3 q hq) (fun q4 => ?_)
          refine s_if_ne (tgt := 43) (dt_Reader_both 20 _ _ _ rfl) rfl ?_ ?_
          · exact s_mask [false, false, false] (s_ret0 rfl)
          · refine s_aload_n (dt_Reader_both 23 _ _ _ rfl) rfl ?_
            refine s_getR (c := 7) (j := 2) (o := (some 15)) (dt_Reader_both 24 _ _ _ rfl) (kf_Reader_21) (sc_14 hS) rfl rfl ?_
            refine s_getR (c := 12) (j := 16) (o := (some 24)) (dt_Reader_both 25 _ _ _ rfl) (kf_Reader_148) (sc_15 hS) rfl rfl ?_
            refine s_bipush (dt_Reader_both 26 _ _ _ rfl) rfl ?_
            refine s_callO (y := y_Formulas_add) (Y' := Y_Formulas_add) (as := [VR (some 24), VI (7 : Int)]) (r := fun q => none) (M' := fun q => q) (kInvV (dt_Reader_both 27 _ _ _ rfl) kin_Formulas_add 4 rfl (sc_24 hS) kse_Formulas_add rfl) kl_Reader_183 md_Formulas_add rfl rfl (fun q hq => c_Formulas_add hS (7 : Int) q4.2 q hq) (fun q5 => ?_)
            refine s_iinc (dt_Reader_both 28 _ _ _ rfl) rfl rfl ?_
            refine s_goto (tgt := 12) (dt_Reader_both 29 _ _ _ rfl) rfl ?_
            exact s_mask [true, true, true] (s_ret0 rfl)
        · exact s_mask [false, false, false] (s_ret0 rfl)
      · exact s_mask [false, false, false] (s_ret0 rfl)
    refine s_elim (fun e6 => ?_) ?_
    · refine s_iconst (dt_Reader_both 21 _ _ _ rfl) rfl ?_
      exact s_zret01 (dt_Reader_both 22 _ _ _ rfl) rfl rfl rfl
    intro e7
    refine s_iconst (dt_Reader_both 30 _ _ _ rfl) rfl ?_
    exact s_zret01 (dt_Reader_both 31 _ _ _ rfl) rfl rfl rfl
theorem cr_Reader_both {S : KS} (hS : KExt 382 S) {F : Nat → Int → KM → Option (Int × KM)} {d : Nat} (hF_Reader_either : ∀ (a : Int) (M : KM) q, F 0 a M = some q → Ctr y_Reader_either (Y_Reader_either d) [VR (some 14), VI a] S M (some (VI q.1)) S q.2) (hF_Reader_both : ∀ (a : Int) (M : KM) q, F 1 a M = some q → Ctr y_Reader_both (Y_Reader_both d) [VR (some 14), VI a] S M (some (VI q.1)) S q.2) (hF_Reader_one : ∀ (a : Int) (M : KM) q, F 2 a M = some q → Ctr y_Reader_one (Y_Reader_one d) [VR (some 14), VI a] S M (some (VI q.1)) S q.2) (hF_Reader_amount : ∀ (a : Int) (M : KM) q, F 3 a M = some q → Ctr y_Reader_amount (Y_Reader_amount d) [VR (some 14), VI a] S M (some (VI q.1)) S q.2) (hF_Reader_term : ∀ (a : Int) (M : KM) q, F 4 a M = some q → Ctr y_Reader_term (Y_Reader_term d) [VR (some 14), VI a] S M (some (VI q.1)) S q.2) (hF_Reader_unit : ∀ (a : Int) (M : KM) q, F 5 a M = some q → Ctr y_Reader_unit (Y_Reader_unit d) [VR (some 14), VI a] S M (some (VI q.1)) S q.2)  (a0 : Int) (M : KM) : ∀ q, f_Reader_both F a0 M = some q → Ctr y_Reader_both (Y_Reader_both (d + 1)) [VR (some 14), VI a0] S M (some (VI q.1)) S (q.2) := fun q hq =>
  ctr_of (md_Reader_both _) (Nat.le_of_ble_eq_true rfl) ⟨Nat.le_refl _, Nat.le_refl _⟩ 1 hq rfl (fun _ G => sim_Reader_both hS hF_Reader_either hF_Reader_both hF_Reader_one hF_Reader_amount hF_Reader_term hF_Reader_unit a0 M)
set_option maxRecDepth 100000 in
theorem sim_Reader_either {G : Gam} {S : KS} (hS : KExt 382 S) {F : Nat → Int → KM → Option (Int × KM)} {d : Nat} (hF_Reader_either : ∀ (a : Int) (M : KM) q, F 0 a M = some q → Ctr y_Reader_either (Y_Reader_either d) [VR (some 14), VI a] S M (some (VI q.1)) S q.2) (hF_Reader_both : ∀ (a : Int) (M : KM) q, F 1 a M = some q → Ctr y_Reader_both (Y_Reader_both d) [VR (some 14), VI a] S M (some (VI q.1)) S q.2) (hF_Reader_one : ∀ (a : Int) (M : KM) q, F 2 a M = some q → Ctr y_Reader_one (Y_Reader_one d) [VR (some 14), VI a] S M (some (VI q.1)) S q.2) (hF_Reader_amount : ∀ (a : Int) (M : KM) q, F 3 a M = some q → Ctr y_Reader_amount (Y_Reader_amount d) [VR (some 14), VI a] S M (some (VI q.1)) S q.2) (hF_Reader_term : ∀ (a : Int) (M : KM) q, F 4 a M = some q → Ctr y_Reader_term (Y_Reader_term d) [VR (some 14), VI a] S M (some (VI q.1)) S q.2) (hF_Reader_unit : ∀ (a : Int) (M : KM) q, F 5 a M = some q → Ctr y_Reader_unit (Y_Reader_unit d) [VR (some 14), VI a] S M (some (VI q.1)) S q.2)  (a0 : Int) (M : KM) : Sim G (Y_Reader_either (d + 1)) (f_Reader_either F a0 M) (kC 0 [some (VR (some 14)), some (VI a0), none] [] S M) (fun (q : Int × KM) => Sum.inr (some (VI q.1), S, q.2)) := by
  unfold f_Reader_either
  refine s_aload_n (dt_Reader_either 0 _ _ _ rfl) rfl ?_
  refine s_iload_n (dt_Reader_either 1 _ _ _ rfl) rfl ?_
  refine s_callO (y := y_Reader_both) (Y' := (Y_Reader_both d)) (as := [VR (some 14), VI a0]) (r := fun q => some (VI q.1)) (M' := fun q => q.2) (kInvV (dt_Reader_either 2 _ _ _ rfl) kin_Reader_both 7 rfl (sc_14 hS) kse_Reader_both rfl) kl_Reader_186 (md_Reader_both _) rfl (kbleR d rfl) (fun q hq => hF_Reader_both a0 M q hq) (fun q1 => ?_)
  refine s_if_ne (tgt := 10) (dt_Reader_either 3 _ _ _ rfl) rfl ?_ ?_
  · refine s_iconst (dt_Reader_either 4 _ _ _ rfl) rfl ?_
    exact s_zret01 (dt_Reader_either 5 _ _ _ rfl) rfl rfl rfl
  · refine s_iconst (dt_Reader_either 6 _ _ _ rfl) rfl ?_
    refine s_istore_n (dt_Reader_either 7 _ _ _ rfl) rfl ?_
    refine s_bd (κ := (Sum.elim (fun (e6 : KM) => kC 41 [none, none, none] [] S e6) (fun (e7 : KM) => kC 61 [none, none, none] [] S e7))) (s_mask [true, true, true] (s_while (c := fun s2 => kC 12 [some (VR (some 14)), some (VI a0), some (VI s2.1)] [] S s2.2) (fun s2 => ?_) ((0 : Int), q1.2))) ?_
    · refine s_iload_n (dt_Reader_either 8 _ _ _ rfl) rfl ?_
      refine s_sipush (dt_Reader_either 9 _ _ _ rfl) rfl ?_
      refine s_if_icmp_ge (tgt := 61) (dt_Reader_either 10 _ _ _ rfl) rfl ?_ ?_
      · refine s_aload_n (dt_Reader_either 11 _ _ _ rfl) rfl ?_
        refine s_getI (c := 7) (j := 5) (dt_Reader_either 12 _ _ _ rfl) (kf_Reader_59) (sc_14 hS) rfl ?_
        refine s_sipush (dt_Reader_either 13 _ _ _ rfl) rfl ?_
        refine s_if_icmp_ne (tgt := 61) (dt_Reader_either 14 _ _ _ rfl) rfl ?_ ?_
        · refine s_aload_n (dt_Reader_either 15 _ _ _ rfl) rfl ?_
          refine s_callO (y := y_Reader_step) (Y' := Y_Reader_step) (as := [VR (some 14)]) (r := fun q => none) (M' := fun q => q) (kInvV (dt_Reader_either 16 _ _ _ rfl) kin_Reader_step 7 rfl (sc_14 hS) kse_Reader_step rfl) kl_Reader_53 md_Reader_step rfl rfl (fun q hq => c_Reader_step hS s2.2 q hq) (fun q3 => ?_)
          refine s_aload_n (dt_Reader_either 17 _ _ _ rfl) rfl ?_
          refine s_iload_n (dt_Reader_either 18 _ _ _ rfl) rfl ?_
          refine s_callO (y := y_Reader_both) (Y' := (Y_Reader_both d)) (as := [VR (some 14), VI a0]) (r := fun q => some (VI q.1)) (M' := fun q => q.2) (kInvV (dt_Reader_either 19 _ _ _ rfl) kin_Reader_both 7 rfl (sc_14 hS) kse_Reader_both rfl) kl_Reader_186 (md_Reader_both _) rfl (kbleR d rfl) (fun q hq => hF_Reader_both a0 q3 q hq) (fun q4 => ?_)
          refine s_if_ne (tgt := 43) (dt_Reader_either 20 _ _ _ rfl) rfl ?_ ?_
          · exact s_mask [false, false, false] (s_ret0 rfl)
          · refine s_aload_n (dt_Reader_either 23 _ _ _ rfl) rfl ?_
            refine s_getR (c := 7) (j := 2) (o := (some 15)) (dt_Reader_either 24 _ _ _ rfl) (kf_Reader_21) (sc_14 hS) rfl rfl ?_
            refine s_getR (c := 12) (j := 16) (o := (some 24)) (dt_Reader_either 25 _ _ _ rfl) (kf_Reader_148) (sc_15 hS) rfl rfl ?_
            refine s_bipush (dt_Reader_either 26 _ _ _ rfl) rfl ?_
            refine s_callO (y := y_Formulas_add) (Y' := Y_Formulas_add) (as := [VR (some 24), VI (6 : Int)]) (r := fun q => none) (M' := fun q => q) (kInvV (dt_Reader_either 27 _ _ _ rfl) kin_Formulas_add 4 rfl (sc_24 hS) kse_Formulas_add rfl) kl_Reader_183 md_Formulas_add rfl rfl (fun q hq => c_Formulas_add hS (6 : Int) q4.2 q hq) (fun q5 => ?_)
            refine s_iinc (dt_Reader_either 28 _ _ _ rfl) rfl rfl ?_
            refine s_goto (tgt := 12) (dt_Reader_either 29 _ _ _ rfl) rfl ?_
            exact s_mask [true, true, true] (s_ret0 rfl)
        · exact s_mask [false, false, false] (s_ret0 rfl)
      · exact s_mask [false, false, false] (s_ret0 rfl)
    refine s_elim (fun e6 => ?_) ?_
    · refine s_iconst (dt_Reader_either 21 _ _ _ rfl) rfl ?_
      exact s_zret01 (dt_Reader_either 22 _ _ _ rfl) rfl rfl rfl
    intro e7
    refine s_iconst (dt_Reader_either 30 _ _ _ rfl) rfl ?_
    exact s_zret01 (dt_Reader_either 31 _ _ _ rfl) rfl rfl rfl
theorem cr_Reader_either {S : KS} (hS : KExt 382 S) {F : Nat → Int → KM → Option (Int × KM)} {d : Nat} (hF_Reader_either : ∀ (a : Int) (M : KM) q, F 0 a M = some q → Ctr y_Reader_either (Y_Reader_either d) [VR (some 14), VI a] S M (some (VI q.1)) S q.2) (hF_Reader_both : ∀ (a : Int) (M : KM) q, F 1 a M = some q → Ctr y_Reader_both (Y_Reader_both d) [VR (some 14), VI a] S M (some (VI q.1)) S q.2) (hF_Reader_one : ∀ (a : Int) (M : KM) q, F 2 a M = some q → Ctr y_Reader_one (Y_Reader_one d) [VR (some 14), VI a] S M (some (VI q.1)) S q.2) (hF_Reader_amount : ∀ (a : Int) (M : KM) q, F 3 a M = some q → Ctr y_Reader_amount (Y_Reader_amount d) [VR (some 14), VI a] S M (some (VI q.1)) S q.2) (hF_Reader_term : ∀ (a : Int) (M : KM) q, F 4 a M = some q → Ctr y_Reader_term (Y_Reader_term d) [VR (some 14), VI a] S M (some (VI q.1)) S q.2) (hF_Reader_unit : ∀ (a : Int) (M : KM) q, F 5 a M = some q → Ctr y_Reader_unit (Y_Reader_unit d) [VR (some 14), VI a] S M (some (VI q.1)) S q.2)  (a0 : Int) (M : KM) : ∀ q, f_Reader_either F a0 M = some q → Ctr y_Reader_either (Y_Reader_either (d + 1)) [VR (some 14), VI a0] S M (some (VI q.1)) S (q.2) := fun q hq =>
  ctr_of (md_Reader_either _) (Nat.le_of_ble_eq_true rfl) ⟨Nat.le_refl _, Nat.le_refl _⟩ 1 hq rfl (fun _ G => sim_Reader_either hS hF_Reader_either hF_Reader_both hF_Reader_one hF_Reader_amount hF_Reader_term hF_Reader_unit a0 M)
theorem c_par {S : KS} (hS : KExt 382 S) : ∀ d, (∀ (a : Int) (M : KM) q, f_par d 0 a M = some q → Ctr y_Reader_either (Y_Reader_either d) [VR (some 14), VI a] S M (some (VI q.1)) S q.2) ∧ (∀ (a : Int) (M : KM) q, f_par d 1 a M = some q → Ctr y_Reader_both (Y_Reader_both d) [VR (some 14), VI a] S M (some (VI q.1)) S q.2) ∧ (∀ (a : Int) (M : KM) q, f_par d 2 a M = some q → Ctr y_Reader_one (Y_Reader_one d) [VR (some 14), VI a] S M (some (VI q.1)) S q.2) ∧ (∀ (a : Int) (M : KM) q, f_par d 3 a M = some q → Ctr y_Reader_amount (Y_Reader_amount d) [VR (some 14), VI a] S M (some (VI q.1)) S q.2) ∧ (∀ (a : Int) (M : KM) q, f_par d 4 a M = some q → Ctr y_Reader_term (Y_Reader_term d) [VR (some 14), VI a] S M (some (VI q.1)) S q.2) ∧ (∀ (a : Int) (M : KM) q, f_par d 5 a M = some q → Ctr y_Reader_unit (Y_Reader_unit d) [VR (some 14), VI a] S M (some (VI q.1)) S q.2) := by
  intro d
  induction d with
  | zero => exact ⟨(fun _ _ _ h => by cases h), (fun _ _ _ h => by cases h), (fun _ _ _ h => by cases h), (fun _ _ _ h => by cases h), (fun _ _ _ h => by cases h), (fun _ _ _ h => by cases h)⟩
  | succ d ih =>
    obtain ⟨h0, h1, h2, h3, h4, h5⟩ := ih
    exact ⟨(fun a M q h => cr_Reader_either hS h0 h1 h2 h3 h4 h5 a M q h), (fun a M q h => cr_Reader_both hS h0 h1 h2 h3 h4 h5 a M q h), (fun a M q h => cr_Reader_one hS h0 h1 h2 h3 h4 h5 a M q h), (fun a M q h => cr_Reader_amount hS h0 h1 h2 h3 h4 h5 a M q h), (fun a M q h => cr_Reader_term hS h0 h1 h2 h3 h4 h5 a M q h), (fun a M q h => cr_Reader_unit hS h0 h1 h2 h3 h4 h5 a M q h)⟩
theorem c_Reader_either {S : KS} (hS : KExt 382 S) (d : Nat) (a : Int) (M : KM) : ∀ q, f_par d 0 a M = some q → Ctr y_Reader_either (Y_Reader_either d) [VR (some 14), VI a] S M (some (VI q.1)) S q.2 := (c_par hS d).1 a M
theorem c_Reader_both {S : KS} (hS : KExt 382 S) (d : Nat) (a : Int) (M : KM) : ∀ q, f_par d 1 a M = some q → Ctr y_Reader_both (Y_Reader_both d) [VR (some 14), VI a] S M (some (VI q.1)) S q.2 := (c_par hS d).2.1 a M
theorem c_Reader_one {S : KS} (hS : KExt 382 S) (d : Nat) (a : Int) (M : KM) : ∀ q, f_par d 2 a M = some q → Ctr y_Reader_one (Y_Reader_one d) [VR (some 14), VI a] S M (some (VI q.1)) S q.2 := (c_par hS d).2.2.1 a M
theorem c_Reader_amount {S : KS} (hS : KExt 382 S) (d : Nat) (a : Int) (M : KM) : ∀ q, f_par d 3 a M = some q → Ctr y_Reader_amount (Y_Reader_amount d) [VR (some 14), VI a] S M (some (VI q.1)) S q.2 := (c_par hS d).2.2.2.1 a M
theorem c_Reader_term {S : KS} (hS : KExt 382 S) (d : Nat) (a : Int) (M : KM) : ∀ q, f_par d 4 a M = some q → Ctr y_Reader_term (Y_Reader_term d) [VR (some 14), VI a] S M (some (VI q.1)) S q.2 := (c_par hS d).2.2.2.2.1 a M
theorem c_Reader_unit {S : KS} (hS : KExt 382 S) (d : Nat) (a : Int) (M : KM) : ∀ q, f_par d 5 a M = some q → Ctr y_Reader_unit (Y_Reader_unit d) [VR (some 14), VI a] S M (some (VI q.1)) S q.2 := (c_par hS d).2.2.2.2.2 a M
set_option maxRecDepth 100000 in
theorem sim_Reader_formula {G : Gam} {S : KS} (hS : KExt 382 S)   (M : KM) : Sim G Y_Reader_formula (f_Reader_formula  M) (kC 0 [some (VR (some 14))] [] S M) (fun (q : Int × KM) => Sum.inr (some (VI q.1), S, q.2)) := by
  unfold f_Reader_formula
  refine s_aload_n (dt_Reader_formula 0 _ _ _ rfl) rfl ?_
  refine s_iconst (dt_Reader_formula 1 _ _ _ rfl) rfl ?_
  refine s_putI (c := 7) (j := 8) (dt_Reader_formula 2 _ _ _ rfl) kp_Reader_177 (sc_14 hS) ⟨rfl, rfl⟩ ?_
  refine s_letM (fun M1 => ?_)
  refine s_aload_n (dt_Reader_formula 3 _ _ _ rfl) rfl ?_
  refine s_iconst (dt_Reader_formula 4 _ _ _ rfl) rfl ?_
  refine s_callO (y := y_Reader_either) (Y' := (Y_Reader_either 70)) (as := [VR (some 14), VI (0 : Int)]) (r := fun q => some (VI q.1)) (M' := fun q => q.2) (kInvV (dt_Reader_formula 5 _ _ _ rfl) kin_Reader_either 7 rfl (sc_14 hS) kse_Reader_either rfl) kl_Reader_180 (md_Reader_either _) rfl rfl (fun q hq => c_Reader_either hS 70 (0 : Int) M1 q hq) (fun q2 => ?_)
  refine s_if_ne (tgt := 15) (dt_Reader_formula 6 _ _ _ rfl) rfl ?_ ?_
  · refine s_iconst (dt_Reader_formula 7 _ _ _ rfl) rfl ?_
    exact s_zret01 (dt_Reader_formula 8 _ _ _ rfl) rfl rfl rfl
  · refine s_aload_n (dt_Reader_formula 9 _ _ _ rfl) rfl ?_
    refine s_getR (c := 7) (j := 2) (o := (some 15)) (dt_Reader_formula 10 _ _ _ rfl) (kf_Reader_21) (sc_14 hS) rfl rfl ?_
    refine s_getR (c := 12) (j := 16) (o := (some 24)) (dt_Reader_formula 11 _ _ _ rfl) (kf_Reader_148) (sc_15 hS) rfl rfl ?_
    refine s_iconst (dt_Reader_formula 12 _ _ _ rfl) rfl ?_
    refine s_callO (y := y_Formulas_add) (Y' := Y_Formulas_add) (as := [VR (some 24), VI (0 : Int)]) (r := fun q => none) (M' := fun q => q) (kInvV (dt_Reader_formula 13 _ _ _ rfl) kin_Formulas_add 4 rfl (sc_24 hS) kse_Formulas_add rfl) kl_Reader_183 md_Formulas_add rfl rfl (fun q hq => c_Formulas_add hS (0 : Int) q2.2 q hq) (fun q3 => ?_)
    refine s_aload_n (dt_Reader_formula 14 _ _ _ rfl) rfl ?_
    refine s_bipush (dt_Reader_formula 15 _ _ _ rfl) rfl ?_
    refine s_callO (y := y_Reader_take) (Y' := Y_Reader_take) (as := [VR (some 14), VI (59 : Int)]) (r := fun q => some (VI q.1)) (M' := fun q => q.2) (kInvV (dt_Reader_formula 16 _ _ _ rfl) kin_Reader_take 7 rfl (sc_14 hS) kse_Reader_take rfl) kl_Reader_120 md_Reader_take rfl rfl (fun q hq => c_Reader_take hS (59 : Int) q3 q hq) (fun q4 => ?_)
    exact s_zret (dt_Reader_formula 17 _ _ _ rfl) rfl rfl
theorem c_Reader_formula {S : KS} (hS : KExt 382 S)   (M : KM) : ∀ q, f_Reader_formula  M = some q → Ctr y_Reader_formula Y_Reader_formula [VR (some 14)] S M (some (VI q.1)) S (q.2) := fun q hq =>
  ctr_of md_Reader_formula (Nat.le_of_ble_eq_true rfl) ⟨Nat.le_refl _, Nat.le_refl _⟩ 0 hq rfl (fun _ G => sim_Reader_formula hS   M)
set_option maxRecDepth 100000 in
theorem sim_Reader_oddsLine {G : Gam} {S : KS} (hS : KExt 382 S)   (M : KM) : Sim G Y_Reader_oddsLine (f_Reader_oddsLine  M) (kC 0 [some (VR (some 14))] [] S M) (fun (q : Int × KM) => Sum.inr (some (VI q.1), S, q.2)) := by
  unfold f_Reader_oddsLine
  refine s_aload_n (dt_Reader_oddsLine 0 _ _ _ rfl) rfl ?_
  refine s_getR (c := 7) (j := 2) (o := (some 15)) (dt_Reader_oddsLine 1 _ _ _ rfl) (kf_Reader_21) (sc_14 hS) rfl rfl ?_
  refine s_getI (c := 12) (j := 11) (dt_Reader_oddsLine 2 _ _ _ rfl) (kf_Reader_164) (sc_15 hS) rfl ?_
  refine s_iconst (dt_Reader_oddsLine 3 _ _ _ rfl) rfl ?_
  refine s_if_icmp_eq (tgt := 17) (dt_Reader_oddsLine 4 _ _ _ rfl) rfl ?_ ?_
  · refine s_aload_n (dt_Reader_oddsLine 9 _ _ _ rfl) rfl ?_
    refine s_callO (y := y_Reader_step) (Y' := Y_Reader_step) (as := [VR (some 14)]) (r := fun q => none) (M' := fun q => q) (kInvV (dt_Reader_oddsLine 10 _ _ _ rfl) kin_Reader_step 7 rfl (sc_14 hS) kse_Reader_step rfl) kl_Reader_53 md_Reader_step rfl rfl (fun q hq => c_Reader_step hS M q hq) (fun q1 => ?_)
    refine s_aload_n (dt_Reader_oddsLine 11 _ _ _ rfl) rfl ?_
    refine s_getR (c := 7) (j := 2) (o := (some 15)) (dt_Reader_oddsLine 12 _ _ _ rfl) (kf_Reader_21) (sc_14 hS) rfl rfl ?_
    refine s_aload_n (dt_Reader_oddsLine 13 _ _ _ rfl) rfl ?_
    refine s_getR (c := 7) (j := 2) (o := (some 15)) (dt_Reader_oddsLine 14 _ _ _ rfl) (kf_Reader_21) (sc_14 hS) rfl rfl ?_
    refine s_getR (c := 12) (j := 16) (o := (some 24)) (dt_Reader_oddsLine 15 _ _ _ rfl) (kf_Reader_148) (sc_15 hS) rfl rfl ?_
    refine s_getI (c := 4) (j := 1) (dt_Reader_oddsLine 16 _ _ _ rfl) (kf_Reader_152) (sc_24 hS) rfl ?_
    refine s_putI (c := 12) (j := 11) (dt_Reader_oddsLine 17 _ _ _ rfl) kp_Reader_164 (sc_15 hS) ⟨rfl, rfl⟩ ?_
    refine s_letM (fun M2 => ?_)
    refine s_aload_n (dt_Reader_oddsLine 18 _ _ _ rfl) rfl ?_
    refine s_callO (y := y_Reader_formula) (Y' := Y_Reader_formula) (as := [VR (some 14)]) (r := fun q => some (VI q.1)) (M' := fun q => q.2) (kInvV (dt_Reader_oddsLine 19 _ _ _ rfl) kin_Reader_formula 7 rfl (sc_14 hS) kse_Reader_formula rfl) kl_Reader_161 md_Reader_formula rfl rfl (fun q hq => c_Reader_formula hS M2 q hq) (fun q3 => ?_)
    exact s_zret (dt_Reader_oddsLine 20 _ _ _ rfl) rfl rfl
  · refine s_aload_n (dt_Reader_oddsLine 5 _ _ _ rfl) rfl ?_
    refine s_iconst (dt_Reader_oddsLine 6 _ _ _ rfl) rfl ?_
    refine s_callO (y := y_Reader_refuse) (Y' := Y_Reader_refuse) (as := [VR (some 14), VI (2 : Int)]) (r := fun q => some (VI q.1)) (M' := fun q => q.2) (kInvV (dt_Reader_oddsLine 7 _ _ _ rfl) kin_Reader_refuse 7 rfl (sc_14 hS) kse_Reader_refuse rfl) kl_Reader_92 md_Reader_refuse rfl rfl (fun q hq => c_Reader_refuse hS (2 : Int) M q hq) (fun q4 => ?_)
    exact s_zret (dt_Reader_oddsLine 8 _ _ _ rfl) rfl rfl
theorem c_Reader_oddsLine {S : KS} (hS : KExt 382 S)   (M : KM) : ∀ q, f_Reader_oddsLine  M = some q → Ctr y_Reader_oddsLine Y_Reader_oddsLine [VR (some 14)] S M (some (VI q.1)) S (q.2) := fun q hq =>
  ctr_of md_Reader_oddsLine (Nat.le_of_ble_eq_true rfl) ⟨Nat.le_refl _, Nat.le_refl _⟩ 0 hq rfl (fun _ G => sim_Reader_oddsLine hS   M)
set_option maxRecDepth 100000 in
theorem sim_Reader_takeNewNameP {G : Gam} {S : KS} (hS : KExt 382 S)  (a1 : Int) (M : KM) : Sim G Y_Reader_takeNewName (f_Reader_takeNewNameP a1 M) (kC 0 [some (VR (some 14)), some (VR (some 32)), some (VI a1)] [] S M) (fun (q : Int × KM) => Sum.inr (some (VI q.1), S, q.2)) := by
  unfold f_Reader_takeNewNameP
  refine s_aload_n (dt_Reader_takeNewName 0 _ _ _ rfl) rfl ?_
  refine s_getI (c := 7) (j := 5) (dt_Reader_takeNewName 1 _ _ _ rfl) (kf_Reader_59) (sc_14 hS) rfl ?_
  refine s_iconst (dt_Reader_takeNewName 2 _ _ _ rfl) rfl ?_
  refine s_if_icmp_eq (tgt := 14) (dt_Reader_takeNewName 3 _ _ _ rfl) rfl ?_ ?_
  · refine s_aload_n (dt_Reader_takeNewName 8 _ _ _ rfl) rfl ?_
    refine s_aload_n (dt_Reader_takeNewName 9 _ _ _ rfl) rfl ?_
    refine s_iload_n (dt_Reader_takeNewName 10 _ _ _ rfl) rfl ?_
    refine s_callO (y := y_Reader_placeAmong) (Y' := Y_Reader_placeAmong) (as := [VR (some 14), VR (some 32), VI a1]) (r := fun q => some (VI q)) (M' := fun q => M) (kInvV (dt_Reader_takeNewName 11 _ _ _ rfl) kin_Reader_placeAmong 7 rfl (sc_14 hS) kse_Reader_placeAmong rfl) kl_Reader_123 md_Reader_placeAmong rfl rfl (fun q hq => c_Reader_placeAmongP hS a1 M q hq) (fun q1 => ?_)
    refine s_iconst (dt_Reader_takeNewName 12 _ _ _ rfl) rfl ?_
    refine s_if_icmp_eq (tgt := 30) (dt_Reader_takeNewName 13 _ _ _ rfl) rfl ?_ ?_
    · refine s_iload_n (dt_Reader_takeNewName 18 _ _ _ rfl) rfl ?_
      refine s_bd (κ := fun t4 => kC 47 [some (VR (some 14)), none, none] [] S t4) ?_ (fun t4 => ?_)
      · refine s_if_lt (tgt := 47) (dt_Reader_takeNewName 19 _ _ _ rfl) rfl ?_ ?_
        · exact s_mask [true, false, false] (s_ret0 rfl)
        · refine s_iload_n (dt_Reader_takeNewName 20 _ _ _ rfl) rfl ?_
          refine s_aload_n (dt_Reader_takeNewName 21 _ _ _ rfl) rfl ?_
          refine s_alen (N := 8) (dt_Reader_takeNewName 22 _ _ _ rfl) (sc_32 hS) rfl rfl (by decide) ?_
          refine s_if_icmp_ge (tgt := 47) (dt_Reader_takeNewName 23 _ _ _ rfl) rfl ?_ ?_
          · refine s_aload_n (dt_Reader_takeNewName 24 _ _ _ rfl) rfl ?_
            refine s_iload_n (dt_Reader_takeNewName 25 _ _ _ rfl) rfl ?_
            refine s_aload_n (dt_Reader_takeNewName 26 _ _ _ rfl) rfl ?_
            refine s_callO (y := y_Reader_name) (Y' := Y_Reader_name) (as := [VR (some 14)]) (r := fun q => some (VJ q)) (M' := fun q => M) (kInvV (dt_Reader_takeNewName 27 _ _ _ rfl) kin_Reader_name 7 rfl (sc_14 hS) kse_Reader_name rfl) kl_Reader_127 md_Reader_name rfl rfl (fun q hq => c_Reader_name hS M q hq) (fun q2 => ?_)
            refine s_last (N := 8) (dt_Reader_takeNewName 28 _ _ _ rfl) (sc_32 hS) rfl ?_
            refine s_letM (fun M3 => ?_)
            exact s_mask [true, false, false] (s_ret0 rfl)
          · exact s_mask [true, false, false] (s_ret0 rfl)
      refine s_aload_n (dt_Reader_takeNewName 29 _ _ _ rfl) rfl ?_
      refine s_callO (y := y_Reader_step) (Y' := Y_Reader_step) (as := [VR (some 14)]) (r := fun q => none) (M' := fun q => q) (kInvV (dt_Reader_takeNewName 30 _ _ _ rfl) kin_Reader_step 7 rfl (sc_14 hS) kse_Reader_step rfl) kl_Reader_53 md_Reader_step rfl rfl (fun q hq => c_Reader_step hS t4 q hq) (fun q5 => ?_)
      refine s_iconst (dt_Reader_takeNewName 31 _ _ _ rfl) rfl ?_
      exact s_zret01 (dt_Reader_takeNewName 32 _ _ _ rfl) rfl rfl rfl
    · refine s_aload_n (dt_Reader_takeNewName 14 _ _ _ rfl) rfl ?_
      refine s_iconst (dt_Reader_takeNewName 15 _ _ _ rfl) rfl ?_
      refine s_callO (y := y_Reader_refuse) (Y' := Y_Reader_refuse) (as := [VR (some 14), VI (3 : Int)]) (r := fun q => some (VI q.1)) (M' := fun q => q.2) (kInvV (dt_Reader_takeNewName 16 _ _ _ rfl) kin_Reader_refuse 7 rfl (sc_14 hS) kse_Reader_refuse rfl) kl_Reader_92 md_Reader_refuse rfl rfl (fun q hq => c_Reader_refuse hS (3 : Int) M q hq) (fun q6 => ?_)
      exact s_zret (dt_Reader_takeNewName 17 _ _ _ rfl) rfl rfl
  · refine s_aload_n (dt_Reader_takeNewName 4 _ _ _ rfl) rfl ?_
    refine s_iconst (dt_Reader_takeNewName 5 _ _ _ rfl) rfl ?_
    refine s_callO (y := y_Reader_refuse) (Y' := Y_Reader_refuse) (as := [VR (some 14), VI (2 : Int)]) (r := fun q => some (VI q.1)) (M' := fun q => q.2) (kInvV (dt_Reader_takeNewName 6 _ _ _ rfl) kin_Reader_refuse 7 rfl (sc_14 hS) kse_Reader_refuse rfl) kl_Reader_92 md_Reader_refuse rfl rfl (fun q hq => c_Reader_refuse hS (2 : Int) M q hq) (fun q7 => ?_)
    exact s_zret (dt_Reader_takeNewName 7 _ _ _ rfl) rfl rfl
theorem c_Reader_takeNewNameP {S : KS} (hS : KExt 382 S)  (a1 : Int) (M : KM) : ∀ q, f_Reader_takeNewNameP a1 M = some q → Ctr y_Reader_takeNewName Y_Reader_takeNewName [VR (some 14), VR (some 32), VI a1] S M (some (VI q.1)) S (q.2) := fun q hq =>
  ctr_of md_Reader_takeNewName (Nat.le_of_ble_eq_true rfl) ⟨Nat.le_refl _, Nat.le_refl _⟩ 0 hq rfl (fun _ G => sim_Reader_takeNewNameP hS  a1 M)
set_option maxRecDepth 100000 in
theorem sim_Town_addPerson {G : Gam} {S : KS} (hS : KExt 382 S)  (a0 : Int) (a1 : Int) (a2 : Int) (a3 : Int) (M : KM) : Sim G Y_Town_addPerson (f_Town_addPerson a0 a1 a2 a3 M) (kC 0 [some (VR (some 15)), some (VI a0), some (VI a1), some (VI a2), some (VI a3)] [] S M) (fun (q : KM) => Sum.inr (none, S, q)) := by
  unfold f_Town_addPerson
  refine s_aload_n (dt_Town_addPerson 0 _ _ _ rfl) rfl ?_
  refine s_getR (c := 12) (j := 1) (o := (some 16)) (dt_Town_addPerson 1 _ _ _ rfl) (kf_Town_9) (sc_15 hS) rfl rfl ?_
  refine s_aload_n (dt_Town_addPerson 2 _ _ _ rfl) rfl ?_
  refine s_getI (c := 12) (j := 0) (dt_Town_addPerson 3 _ _ _ rfl) (kf_Town_46) (sc_15 hS) rfl ?_
  refine s_iload_n (dt_Town_addPerson 4 _ _ _ rfl) rfl ?_
  refine s_inv (y := y_X_put) (Y' := Y_X_put) (as := [VR (some 16), VI (M 15 0), VI a0]) (r := none) (M' := (putM M 16 8 (M 15 0) a0)) (kInvS (dt_Town_addPerson 5 _ _ _ rfl) kst_X_put rfl) kl_Town_81 md_X_put rfl rfl (c_X_put hS ⟨(sc_16 hS), by decide⟩ (M 15 0) a0 M) ?_
  refine s_letM (fun M1 => ?_)
  refine s_aload_n (dt_Town_addPerson 6 _ _ _ rfl) rfl ?_
  refine s_getR (c := 12) (j := 2) (o := (some 17)) (dt_Town_addPerson 7 _ _ _ rfl) (kf_Town_15) (sc_15 hS) rfl rfl ?_
  refine s_aload_n (dt_Town_addPerson 8 _ _ _ rfl) rfl ?_
  refine s_getI (c := 12) (j := 0) (dt_Town_addPerson 9 _ _ _ rfl) (kf_Town_46) (sc_15 hS) rfl ?_
  refine s_iload_n (dt_Town_addPerson 10 _ _ _ rfl) rfl ?_
  refine s_inv (y := y_X_put) (Y' := Y_X_put) (as := [VR (some 17), VI (M1 15 0), VI a1]) (r := none) (M' := (putM M1 17 8 (M1 15 0) a1)) (kInvS (dt_Town_addPerson 11 _ _ _ rfl) kst_X_put rfl) kl_Town_81 md_X_put rfl rfl (c_X_put hS ⟨(sc_17 hS), by decide⟩ (M1 15 0) a1 M1) ?_
  refine s_letM (fun M2 => ?_)
  refine s_aload_n (dt_Town_addPerson 12 _ _ _ rfl) rfl ?_
  refine s_getR (c := 12) (j := 3) (o := (some 18)) (dt_Town_addPerson 13 _ _ _ rfl) (kf_Town_18) (sc_15 hS) rfl rfl ?_
  refine s_aload_n (dt_Town_addPerson 14 _ _ _ rfl) rfl ?_
  refine s_getI (c := 12) (j := 0) (dt_Town_addPerson 15 _ _ _ rfl) (kf_Town_46) (sc_15 hS) rfl ?_
  refine s_iload_n (dt_Town_addPerson 16 _ _ _ rfl) rfl ?_
  refine s_inv (y := y_X_put) (Y' := Y_X_put) (as := [VR (some 18), VI (M2 15 0), VI a2]) (r := none) (M' := (putM M2 18 8 (M2 15 0) a2)) (kInvS (dt_Town_addPerson 17 _ _ _ rfl) kst_X_put rfl) kl_Town_81 md_X_put rfl rfl (c_X_put hS ⟨(sc_18 hS), by decide⟩ (M2 15 0) a2 M2) ?_
  refine s_letM (fun M3 => ?_)
  refine s_aload_n (dt_Town_addPerson 18 _ _ _ rfl) rfl ?_
  refine s_getR (c := 12) (j := 4) (o := (some 19)) (dt_Town_addPerson 19 _ _ _ rfl) (kf_Town_21) (sc_15 hS) rfl rfl ?_
  refine s_aload_n (dt_Town_addPerson 20 _ _ _ rfl) rfl ?_
  refine s_getI (c := 12) (j := 0) (dt_Town_addPerson 21 _ _ _ rfl) (kf_Town_46) (sc_15 hS) rfl ?_
  refine s_iload (dt_Town_addPerson 22 _ _ _ rfl) rfl ?_
  refine s_inv (y := y_X_put) (Y' := Y_X_put) (as := [VR (some 19), VI (M3 15 0), VI a3]) (r := none) (M' := (putM M3 19 8 (M3 15 0) a3)) (kInvS (dt_Town_addPerson 23 _ _ _ rfl) kst_X_put rfl) kl_Town_81 md_X_put rfl rfl (c_X_put hS ⟨(sc_19 hS), by decide⟩ (M3 15 0) a3 M3) ?_
  refine s_letM (fun M4 => ?_)
  refine s_aload_n (dt_Town_addPerson 24 _ _ _ rfl) rfl ?_
  refine s_dup (dt_Town_addPerson 25 _ _ _ rfl) rfl ?_
  refine s_getI (c := 12) (j := 0) (dt_Town_addPerson 26 _ _ _ rfl) (kf_Town_46) (sc_15 hS) rfl ?_
  refine s_iconst (dt_Town_addPerson 27 _ _ _ rfl) rfl ?_
  refine s_iadd (dt_Town_addPerson 28 _ _ _ rfl) ?_
  refine s_putI (c := 12) (j := 0) (dt_Town_addPerson 29 _ _ _ rfl) kp_Town_46 (sc_15 hS) ⟨rfl, rfl⟩ ?_
  refine s_letM (fun M5 => ?_)
  exact s_vret (dt_Town_addPerson 30 _ _ _ rfl) rfl rfl
theorem c_Town_addPerson {S : KS} (hS : KExt 382 S)  (a0 : Int) (a1 : Int) (a2 : Int) (a3 : Int) (M : KM) : ∀ q, f_Town_addPerson a0 a1 a2 a3 M = some q → Ctr y_Town_addPerson Y_Town_addPerson [VR (some 15), VI a0, VI a1, VI a2, VI a3] S M (none) S (q) := fun q hq =>
  ctr_of md_Town_addPerson (Nat.le_of_ble_eq_true rfl) ⟨Nat.le_refl _, Nat.le_refl _⟩ 0 hq rfl (fun _ G => sim_Town_addPerson hS  a0 a1 a2 a3 M)
