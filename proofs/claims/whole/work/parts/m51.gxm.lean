set_option maxRecDepth 100000 in
theorem sim_X_hasNow {G : Gam} {S : KS} (hS : KExt 382 S)  (a0 : Int) (a1 : Int) (M : KM) : Sim G Y_X_hasNow (f_X_hasNow a0 a1 M) (kC 0 [some (VR (some 0)), some (VI a0), some (VI a1)] [] S M) (fun (q : Int × KM) => Sum.inr (some (VI q.1), S, q.2)) := by
  unfold f_X_hasNow
  refine s_aload_n (dt_X_hasNow 0 _ _ _ rfl) rfl ?_
  refine s_iload_n (dt_X_hasNow 1 _ _ _ rfl) rfl ?_
  refine s_iload_n (dt_X_hasNow 2 _ _ _ rfl) rfl ?_
  refine s_aload_n (dt_X_hasNow 3 _ _ _ rfl) rfl ?_
  refine s_getR (c := 0) (j := 4) (o := (some 34)) (dt_X_hasNow 4 _ _ _ rfl) (kf_X_34) (sc_0 hS) rfl rfl ?_
  refine s_getR (c := 10) (j := 0) (o := (some 35)) (dt_X_hasNow 5 _ _ _ rfl) (kf_X_137) (sc_34 hS) rfl rfl ?_
  refine s_iload_n (dt_X_hasNow 6 _ _ _ rfl) rfl ?_
  refine s_inv (y := y_X_at) (Y' := Y_X_at) (as := [VR (some 35), VI a0]) (r := some (VI (atM M 35 8 a0))) (M' := M) (kInvS (dt_X_hasNow 7 _ _ _ rfl) kst_X_at rfl) kl_X_140 md_X_at rfl rfl (c_X_at hS ⟨(sc_35 hS), by decide⟩ a0 M) ?_
  refine s_callO (y := y_X_wouldHave) (Y' := Y_X_wouldHave) (as := [VR (some 0), VI a0, VI a1, VI (atM M 35 8 a0)]) (r := fun q => some (VI q.1)) (M' := fun q => q.2) (kInvV (dt_X_hasNow 8 _ _ _ rfl) kin_X_wouldHave 0 rfl (sc_0 hS) kse_X_wouldHave rfl) kl_X_189 md_X_wouldHave rfl rfl (fun q hq => c_X_wouldHave hS a0 a1 (atM M 35 8 a0) M q hq) (fun q1 => ?_)
  exact s_zret (dt_X_hasNow 9 _ _ _ rfl) rfl rfl
theorem c_X_hasNow {S : KS} (hS : KExt 382 S)  (a0 : Int) (a1 : Int) (M : KM) : ∀ q, f_X_hasNow a0 a1 M = some q → Ctr y_X_hasNow Y_X_hasNow [VR (some 0), VI a0, VI a1] S M (some (VI q.1)) S (q.2) := fun q hq =>
  ctr_of md_X_hasNow (Nat.le_of_ble_eq_true rfl) ⟨Nat.le_refl _, Nat.le_refl _⟩ 0 hq rfl (fun _ G => sim_X_hasNow hS  a0 a1 M)
set_option maxRecDepth 100000 in
theorem sim_X_has {G : Gam} {S : KS} (hS : KExt 382 S)  (a0 : Int) (a1 : Int) (M : KM) : Sim G Y_X_has (f_X_has a0 a1 M) (kC 0 [some (VR (some 0)), some (VI a0), some (VI a1)] [] S M) (fun (q : Int × KM) => Sum.inr (some (VI q.1), S, q.2)) := by
  unfold f_X_has
  refine s_aload_n (dt_X_has 0 _ _ _ rfl) rfl ?_
  refine s_iload_n (dt_X_has 1 _ _ _ rfl) rfl ?_
  refine s_callO (y := y_X_isPerson) (Y' := Y_X_isPerson) (as := [VR (some 0), VI a0]) (r := fun q => some (VI q)) (M' := fun q => M) (kInvV (dt_X_has 2 _ _ _ rfl) kin_X_isPerson 0 rfl (sc_0 hS) kse_X_isPerson rfl) kl_X_133 md_X_isPerson rfl rfl (fun q hq => c_X_isPerson hS a0 M q hq) (fun q1 => ?_)
  refine s_if_eq (tgt := 16) (dt_X_has 3 _ _ _ rfl) rfl ?_ ?_
  · refine s_iconst (dt_X_has 8 _ _ _ rfl) rfl ?_
    exact s_iret (dt_X_has 9 _ _ _ rfl) rfl rfl
  · refine s_aload_n (dt_X_has 4 _ _ _ rfl) rfl ?_
    refine s_iload_n (dt_X_has 5 _ _ _ rfl) rfl ?_
    refine s_callO (y := y_X_isRight) (Y' := Y_X_isRight) (as := [VR (some 0), VI a1]) (r := fun q => some (VI q)) (M' := fun q => M) (kInvV (dt_X_has 6 _ _ _ rfl) kin_X_isRight 0 rfl (sc_0 hS) kse_X_isRight rfl) kl_X_156 md_X_isRight rfl rfl (fun q hq => c_X_isRight hS a1 M q hq) (fun q2 => ?_)
    refine s_if_ne (tgt := 18) (dt_X_has 7 _ _ _ rfl) rfl ?_ ?_
    · refine s_iconst (dt_X_has 8 _ _ _ rfl) rfl ?_
      exact s_iret (dt_X_has 9 _ _ _ rfl) rfl rfl
    · refine s_aload_n (dt_X_has 10 _ _ _ rfl) rfl ?_
      refine s_iload_n (dt_X_has 11 _ _ _ rfl) rfl ?_
      refine s_iload_n (dt_X_has 12 _ _ _ rfl) rfl ?_
      refine s_callO (y := y_X_hasNow) (Y' := Y_X_hasNow) (as := [VR (some 0), VI a0, VI a1]) (r := fun q => some (VI q.1)) (M' := fun q => q.2) (kInvV (dt_X_has 13 _ _ _ rfl) kin_X_hasNow 0 rfl (sc_0 hS) kse_X_hasNow rfl) kl_X_159 md_X_hasNow rfl rfl (fun q hq => c_X_hasNow hS a0 a1 M q hq) (fun q3 => ?_)
      refine s_bd (κ := fun t4 => kC 32 [none, none, none] [VI t4] S q3.2) ?_ (fun t4 => ?_)
      · refine s_if_eq (tgt := 31) (dt_X_has 14 _ _ _ rfl) rfl ?_ ?_
        · refine s_iconst (dt_X_has 17 _ _ _ rfl) rfl ?_
          exact s_mask [false, false, false] (s_ret0 rfl)
        · refine s_iconst (dt_X_has 15 _ _ _ rfl) rfl ?_
          refine s_goto (tgt := 32) (dt_X_has 16 _ _ _ rfl) rfl ?_
          exact s_mask [false, false, false] (s_ret0 rfl)
      exact s_iret (dt_X_has 18 _ _ _ rfl) rfl rfl
theorem c_X_has {S : KS} (hS : KExt 382 S)  (a0 : Int) (a1 : Int) (M : KM) : ∀ q, f_X_has a0 a1 M = some q → Ctr y_X_has Y_X_has [VR (some 0), VI a0, VI a1] S M (some (VI q.1)) S (q.2) := fun q hq =>
  ctr_of md_X_has (Nat.le_of_ble_eq_true rfl) ⟨Nat.le_refl _, Nat.le_refl _⟩ 0 hq rfl (fun _ G => sim_X_has hS  a0 a1 M)
set_option maxRecDepth 100000 in
theorem sim_X_isAge {G : Gam} {S : KS} (hS : KExt 382 S)  (a0 : Int) (M : KM) : Sim G Y_X_isAge (f_X_isAge a0 M) (kC 0 [some (VR (some 0)), some (VI a0)] [] S M) (fun (q : Int) => Sum.inr (some (VI q), S, M)) := by
  unfold f_X_isAge
  refine s_iload_n (dt_X_isAge 0 _ _ _ rfl) rfl ?_
  refine s_aload_n (dt_X_isAge 1 _ _ _ rfl) rfl ?_
  refine s_getR (c := 0) (j := 2) (o := (some 2)) (dt_X_isAge 2 _ _ _ rfl) (kf_X_20) (sc_0 hS) rfl rfl ?_
  refine s_getI (c := 12) (j := 12) (dt_X_isAge 3 _ _ _ rfl) (kf_X_177) (sc_2 hS) rfl ?_
  refine s_bd (κ := fun t1 => kC 27 [none, none] [VI t1] S M) ?_ (fun t1 => ?_)
  · refine s_if_icmp_lt (tgt := 26) (dt_X_isAge 4 _ _ _ rfl) rfl ?_ ?_
    · refine s_iconst (dt_X_isAge 12 _ _ _ rfl) rfl ?_
      exact s_mask [false, false] (s_ret0 rfl)
    · refine s_iload_n (dt_X_isAge 5 _ _ _ rfl) rfl ?_
      refine s_aload_n (dt_X_isAge 6 _ _ _ rfl) rfl ?_
      refine s_getR (c := 0) (j := 2) (o := (some 2)) (dt_X_isAge 7 _ _ _ rfl) (kf_X_20) (sc_0 hS) rfl rfl ?_
      refine s_getI (c := 12) (j := 13) (dt_X_isAge 8 _ _ _ rfl) (kf_X_180) (sc_2 hS) rfl ?_
      refine s_if_icmp_gt (tgt := 26) (dt_X_isAge 9 _ _ _ rfl) rfl ?_ ?_
      · refine s_iconst (dt_X_isAge 10 _ _ _ rfl) rfl ?_
        refine s_goto (tgt := 27) (dt_X_isAge 11 _ _ _ rfl) rfl ?_
        exact s_mask [false, false] (s_ret0 rfl)
      · refine s_iconst (dt_X_isAge 12 _ _ _ rfl) rfl ?_
        exact s_mask [false, false] (s_ret0 rfl)
  exact s_zret (dt_X_isAge 13 _ _ _ rfl) rfl rfl
theorem c_X_isAge {S : KS} (hS : KExt 382 S)  (a0 : Int) (M : KM) : ∀ q, f_X_isAge a0 M = some q → Ctr y_X_isAge Y_X_isAge [VR (some 0), VI a0] S M (some (VI q)) S (M) := fun q hq =>
  ctr_of md_X_isAge (Nat.le_of_ble_eq_true rfl) ⟨Nat.le_refl _, Nat.le_refl _⟩ 0 hq rfl (fun _ G => sim_X_isAge hS  a0 M)
set_option maxRecDepth 100000 in
theorem sim_X_oddsAt {G : Gam} {S : KS} (hS : KExt 382 S)  (a0 : Int) (M : KM) : Sim G Y_X_oddsAt (f_X_oddsAt a0 M) (kC 0 [some (VR (some 0)), some (VI a0), none] [] S M) (fun (q : Int × KM) => Sum.inr (some (VI q.1), S, q.2)) := by
  unfold f_X_oddsAt
  refine s_aload_n (dt_X_oddsAt 0 _ _ _ rfl) rfl ?_
  refine s_getR (c := 0) (j := 2) (o := (some 2)) (dt_X_oddsAt 1 _ _ _ rfl) (kf_X_20) (sc_0 hS) rfl rfl ?_
  refine s_getR (c := 12) (j := 16) (o := (some 11)) (dt_X_oddsAt 2 _ _ _ rfl) (kf_X_196) (sc_2 hS) rfl rfl ?_
  refine s_aload_n (dt_X_oddsAt 3 _ _ _ rfl) rfl ?_
  refine s_getR (c := 0) (j := 2) (o := (some 2)) (dt_X_oddsAt 4 _ _ _ rfl) (kf_X_20) (sc_0 hS) rfl rfl ?_
  refine s_getI (c := 12) (j := 11) (dt_X_oddsAt 5 _ _ _ rfl) (kf_X_209) (sc_2 hS) rfl ?_
  refine s_iload_n (dt_X_oddsAt 6 _ _ _ rfl) rfl ?_
  refine s_iconst (dt_X_oddsAt 7 _ _ _ rfl) rfl ?_
  refine s_iconst (dt_X_oddsAt 8 _ _ _ rfl) rfl ?_
  refine s_aload_n (dt_X_oddsAt 9 _ _ _ rfl) rfl ?_
  refine s_getR (c := 0) (j := 4) (o := (some 34)) (dt_X_oddsAt 10 _ _ _ rfl) (kf_X_34) (sc_0 hS) rfl rfl ?_
  refine s_getI (c := 10) (j := 4) (dt_X_oddsAt 11 _ _ _ rfl) (kf_X_200) (sc_34 hS) rfl ?_
  refine s_callO (y := y_Formulas_value) (Y' := Y_Formulas_value) (as := [VR (some 11), VI (M 2 11), VI a0, VI (0 : Int), VI (0 : Int), VI (M 34 4)]) (r := fun q => some (VI q.1)) (M' := fun q => q.2) (kInvV (dt_X_oddsAt 12 _ _ _ rfl) kin_Formulas_value 4 rfl (sc_11 hS) kse_Formulas_value rfl) kl_X_203 md_Formulas_value rfl rfl (fun q hq => c_Formulas_value hS (M 2 11) a0 (0 : Int) (0 : Int) (M 34 4) M q hq) (fun q1 => ?_)
  refine s_istore_n (dt_X_oddsAt 13 _ _ _ rfl) rfl ?_
  refine s_iconst (dt_X_oddsAt 14 _ _ _ rfl) rfl ?_
  refine s_bipush (dt_X_oddsAt 15 _ _ _ rfl) rfl ?_
  refine s_iload_n (dt_X_oddsAt 16 _ _ _ rfl) rfl ?_
  refine s_mmin (dt_X_oddsAt 17 _ _ _ rfl) kj_X_212 rfl ?_
  refine s_mmax (dt_X_oddsAt 18 _ _ _ rfl) kj_X_218 rfl ?_
  exact s_iret (dt_X_oddsAt 19 _ _ _ rfl) rfl rfl
theorem c_X_oddsAt {S : KS} (hS : KExt 382 S)  (a0 : Int) (M : KM) : ∀ q, f_X_oddsAt a0 M = some q → Ctr y_X_oddsAt Y_X_oddsAt [VR (some 0), VI a0] S M (some (VI q.1)) S (q.2) := fun q hq =>
  ctr_of md_X_oddsAt (Nat.le_of_ble_eq_true rfl) ⟨Nat.le_refl _, Nat.le_refl _⟩ 1 hq rfl (fun _ G => sim_X_oddsAt hS  a0 M)
set_option maxRecDepth 100000 in
theorem sim_X_odds {G : Gam} {S : KS} (hS : KExt 382 S)  (a0 : Int) (M : KM) : Sim G Y_X_odds (f_X_odds a0 M) (kC 0 [some (VR (some 0)), some (VI a0)] [] S M) (fun (q : Int × KM) => Sum.inr (some (VI q.1), S, q.2)) := by
  unfold f_X_odds
  refine s_aload_n (dt_X_odds 0 _ _ _ rfl) rfl ?_
  refine s_iload_n (dt_X_odds 1 _ _ _ rfl) rfl ?_
  refine s_callO (y := y_X_isAge) (Y' := Y_X_isAge) (as := [VR (some 0), VI a0]) (r := fun q => some (VI q)) (M' := fun q => M) (kInvV (dt_X_odds 2 _ _ _ rfl) kin_X_isAge 0 rfl (sc_0 hS) kse_X_isAge rfl) kl_X_163 md_X_isAge rfl rfl (fun q hq => c_X_isAge hS a0 M q hq) (fun q1 => ?_)
  refine s_bd (κ := fun t3 => kC 17 [none, none] [VI t3.1] S t3.2) ?_ (fun t3 => ?_)
  · refine s_if_eq (tgt := 16) (dt_X_odds 3 _ _ _ rfl) rfl ?_ ?_
    · refine s_iconst (dt_X_odds 8 _ _ _ rfl) rfl ?_
      exact s_mask [false, false] (s_ret0 rfl)
    · refine s_aload_n (dt_X_odds 4 _ _ _ rfl) rfl ?_
      refine s_iload_n (dt_X_odds 5 _ _ _ rfl) rfl ?_
      refine s_callO (y := y_X_oddsAt) (Y' := Y_X_oddsAt) (as := [VR (some 0), VI a0]) (r := fun q => some (VI q.1)) (M' := fun q => q.2) (kInvV (dt_X_odds 6 _ _ _ rfl) kin_X_oddsAt 0 rfl (sc_0 hS) kse_X_oddsAt rfl) kl_X_166 md_X_oddsAt rfl rfl (fun q hq => c_X_oddsAt hS a0 M q hq) (fun q2 => ?_)
      refine s_goto (tgt := 17) (dt_X_odds 7 _ _ _ rfl) rfl ?_
      exact s_mask [false, false] (s_ret0 rfl)
  exact s_iret (dt_X_odds 9 _ _ _ rfl) rfl rfl
theorem c_X_odds {S : KS} (hS : KExt 382 S)  (a0 : Int) (M : KM) : ∀ q, f_X_odds a0 M = some q → Ctr y_X_odds Y_X_odds [VR (some 0), VI a0] S M (some (VI q.1)) S (q.2) := fun q hq =>
  ctr_of md_X_odds (Nat.le_of_ble_eq_true rfl) ⟨Nat.le_refl _, Nat.le_refl _⟩ 0 hq rfl (fun _ G => sim_X_odds hS  a0 M)
set_option maxRecDepth 100000 in
theorem sim_X_isFamily {G : Gam} {S : KS} (hS : KExt 382 S)  (a0 : Int) (M : KM) : Sim G Y_X_isFamily (f_X_isFamily a0 M) (kC 0 [some (VI a0)] [] S M) (fun (q : Int) => Sum.inr (some (VI q), S, M)) := by
  unfold f_X_isFamily
  refine s_iload_n (dt_X_isFamily 0 _ _ _ rfl) rfl ?_
  refine s_bd (κ := fun t1 => kC 14 [none] [VI t1] S M) ?_ (fun t1 => ?_)
  · refine s_if_lt (tgt := 13) (dt_X_isFamily 1 _ _ _ rfl) rfl ?_ ?_
    · refine s_iconst (dt_X_isFamily 7 _ _ _ rfl) rfl ?_
      exact s_mask [false] (s_ret0 rfl)
    · refine s_iload_n (dt_X_isFamily 2 _ _ _ rfl) rfl ?_
      refine s_iconst (dt_X_isFamily 3 _ _ _ rfl) rfl ?_
      refine s_if_icmp_ge (tgt := 13) (dt_X_isFamily 4 _ _ _ rfl) rfl ?_ ?_
      · refine s_iconst (dt_X_isFamily 5 _ _ _ rfl) rfl ?_
        refine s_goto (tgt := 14) (dt_X_isFamily 6 _ _ _ rfl) rfl ?_
        exact s_mask [false] (s_ret0 rfl)
      · refine s_iconst (dt_X_isFamily 7 _ _ _ rfl) rfl ?_
        exact s_mask [false] (s_ret0 rfl)
  exact s_zret (dt_X_isFamily 8 _ _ _ rfl) rfl rfl
theorem c_X_isFamily {S : KS} (hS : KExt 382 S)  (a0 : Int) (M : KM) : ∀ q, f_X_isFamily a0 M = some q → Ctr y_X_isFamily Y_X_isFamily [VI a0] S M (some (VI q)) S (M) := fun q hq =>
  ctr_of md_X_isFamily (Nat.le_of_ble_eq_true rfl) ⟨Nat.le_refl _, Nat.le_refl _⟩ 0 hq rfl (fun _ G => sim_X_isFamily hS  a0 M)
set_option maxRecDepth 100000 in
theorem sJ_X_sum_15 {G : Gam} {S : KS} (hS : KExt 382 S)  (M : KM) (a0 : Int)  : Sim G Y_X_sum (J_X_sum_15 M a0) (kC 15 [some (VR (some 0)), some (VI a0), none, none] [] S M) (fun (q : Int) => Sum.inr (some (VI q), S, M)) := by
  unfold J_X_sum_15
  refine s_iconst (dt_X_sum 8 _ _ _ rfl) rfl ?_
  refine s_istore_n (dt_X_sum 9 _ _ _ rfl) rfl ?_
  refine s_iconst (dt_X_sum 10 _ _ _ rfl) rfl ?_
  refine s_istore_n (dt_X_sum 11 _ _ _ rfl) rfl ?_
  refine s_bd (κ := (fun (e6 : Int) => kC 78 [none, none, some (VI e6), none] [] S M)) (s_mask [true, true, true, true] (s_while (c := fun s1 => kC 19 [some (VR (some 0)), some (VI a0), some (VI s1.1), some (VI s1.2)] [] S M) (fun s1 => ?_) ((0 : Int), (0 : Int)))) ?_
  · refine s_iload_n (dt_X_sum 12 _ _ _ rfl) rfl ?_
    refine s_aload_n (dt_X_sum 13 _ _ _ rfl) rfl ?_
    refine s_getR (c := 0) (j := 2) (o := (some 2)) (dt_X_sum 14 _ _ _ rfl) (kf_X_20) (sc_0 hS) rfl rfl ?_
    refine s_getI (c := 12) (j := 0) (dt_X_sum 15 _ _ _ rfl) (kf_X_124) (sc_2 hS) rfl ?_
    refine s_if_icmp_ge (tgt := 78) (dt_X_sum 16 _ _ _ rfl) rfl ?_ ?_
    · refine s_aload_n (dt_X_sum 17 _ _ _ rfl) rfl ?_
      refine s_iload_n (dt_X_sum 18 _ _ _ rfl) rfl ?_
      refine s_callO (y := y_X_isAlive) (Y' := Y_X_isAlive) (as := [VR (some 0), VI s1.2]) (r := fun q => some (VI q)) (M' := fun q => M) (kInvV (dt_X_sum 19 _ _ _ rfl) kin_X_isAlive 0 rfl (sc_0 hS) kse_X_isAlive rfl) kl_X_147 md_X_isAlive rfl rfl (fun q hq => c_X_isAlive hS s1.2 M q hq) (fun q2 => ?_)
      refine s_bd (κ := fun t5 => kC 72 [some (VR (some 0)), some (VI a0), some (VI t5), some (VI s1.2)] [] S M) ?_ (fun t5 => ?_)
      · refine s_if_eq (tgt := 72) (dt_X_sum 20 _ _ _ rfl) rfl ?_ ?_
        · exact s_mask [true, true, true, true] (s_ret0 rfl)
        · refine s_iload_n (dt_X_sum 21 _ _ _ rfl) rfl ?_
          refine s_iconst (dt_X_sum 22 _ _ _ rfl) rfl ?_
          refine s_if_icmp_eq (tgt := 58) (dt_X_sum 23 _ _ _ rfl) rfl ?_ ?_
          · refine s_iload_n (dt_X_sum 31 _ _ _ rfl) rfl ?_
            refine s_aload_n (dt_X_sum 32 _ _ _ rfl) rfl ?_
            refine s_getR (c := 0) (j := 4) (o := (some 34)) (dt_X_sum 33 _ _ _ rfl) (kf_X_34) (sc_0 hS) rfl rfl ?_
            refine s_getR (c := 10) (j := 0) (o := (some 35)) (dt_X_sum 34 _ _ _ rfl) (kf_X_137) (sc_34 hS) rfl rfl ?_
            refine s_iload_n (dt_X_sum 35 _ _ _ rfl) rfl ?_
            refine s_inv (y := y_X_at) (Y' := Y_X_at) (as := [VR (some 35), VI s1.2]) (r := some (VI (atM M 35 8 s1.2))) (M' := M) (kInvS (dt_X_sum 36 _ _ _ rfl) kst_X_at rfl) kl_X_140 md_X_at rfl rfl (c_X_at hS ⟨(sc_35 hS), by decide⟩ s1.2 M) ?_
            refine s_iadd (dt_X_sum 37 _ _ _ rfl) ?_
            refine s_letI (fun v3 => ?_)
            refine s_istore_n (dt_X_sum 38 _ _ _ rfl) rfl ?_
            exact s_mask [true, true, true, true] (s_ret0 rfl)
          · refine s_aload_n (dt_X_sum 24 _ _ _ rfl) rfl ?_
            refine s_getR (c := 0) (j := 2) (o := (some 2)) (dt_X_sum 25 _ _ _ rfl) (kf_X_20) (sc_0 hS) rfl rfl ?_
            refine s_getR (c := 12) (j := 4) (o := (some 6)) (dt_X_sum 26 _ _ _ rfl) (kf_X_153) (sc_2 hS) rfl rfl ?_
            refine s_iload_n (dt_X_sum 27 _ _ _ rfl) rfl ?_
            refine s_inv (y := y_X_at) (Y' := Y_X_at) (as := [VR (some 6), VI s1.2]) (r := some (VI (atM M 6 8 s1.2))) (M' := M) (kInvS (dt_X_sum 28 _ _ _ rfl) kst_X_at rfl) kl_X_140 md_X_at rfl rfl (c_X_at hS ⟨(sc_6 hS), by decide⟩ s1.2 M) ?_
            refine s_iload_n (dt_X_sum 29 _ _ _ rfl) rfl ?_
            refine s_if_icmp_ne (tgt := 72) (dt_X_sum 30 _ _ _ rfl) rfl ?_ ?_
            · refine s_iload_n (dt_X_sum 31 _ _ _ rfl) rfl ?_
              refine s_aload_n (dt_X_sum 32 _ _ _ rfl) rfl ?_
              refine s_getR (c := 0) (j := 4) (o := (some 34)) (dt_X_sum 33 _ _ _ rfl) (kf_X_34) (sc_0 hS) rfl rfl ?_
              refine s_getR (c := 10) (j := 0) (o := (some 35)) (dt_X_sum 34 _ _ _ rfl) (kf_X_137) (sc_34 hS) rfl rfl ?_
              refine s_iload_n (dt_X_sum 35 _ _ _ rfl) rfl ?_
              refine s_inv (y := y_X_at) (Y' := Y_X_at) (as := [VR (some 35), VI s1.2]) (r := some (VI (atM M 35 8 s1.2))) (M' := M) (kInvS (dt_X_sum 36 _ _ _ rfl) kst_X_at rfl) kl_X_140 md_X_at rfl rfl (c_X_at hS ⟨(sc_35 hS), by decide⟩ s1.2 M) ?_
              refine s_iadd (dt_X_sum 37 _ _ _ rfl) ?_
              refine s_letI (fun v4 => ?_)
              refine s_istore_n (dt_X_sum 38 _ _ _ rfl) rfl ?_
              exact s_mask [true, true, true, true] (s_ret0 rfl)
            · exact s_mask [true, true, true, true] (s_ret0 rfl)
      refine s_iinc (dt_X_sum 39 _ _ _ rfl) rfl rfl ?_
      refine s_goto (tgt := 19) (dt_X_sum 40 _ _ _ rfl) rfl ?_
      exact s_mask [true, true, true, true] (s_ret0 rfl)
    · exact s_mask [false, false, true, false] (s_ret0 rfl)
  intro e6
  refine s_iload_n (dt_X_sum 41 _ _ _ rfl) rfl ?_
  exact s_iret (dt_X_sum 42 _ _ _ rfl) rfl rfl
set_option maxRecDepth 100000 in
theorem sim_X_sum {G : Gam} {S : KS} (hS : KExt 382 S)  (a0 : Int) (M : KM) : Sim G Y_X_sum (f_X_sum a0 M) (kC 0 [some (VR (some 0)), some (VI a0), none, none] [] S M) (fun (q : Int) => Sum.inr (some (VI q), S, M)) := by
  unfold f_X_sum
  refine s_iload_n (dt_X_sum 0 _ _ _ rfl) rfl ?_
  refine s_iconst (dt_X_sum 1 _ _ _ rfl) rfl ?_
  refine s_if_icmp_eq (tgt := 15) (dt_X_sum 2 _ _ _ rfl) rfl ?_ ?_
  · exact s_mask [true, true, false, false] (sJ_X_sum_15 hS M a0)
  · refine s_iload_n (dt_X_sum 3 _ _ _ rfl) rfl ?_
    refine s_callO (y := y_X_isFamily) (Y' := Y_X_isFamily) (as := [VI a0]) (r := fun q => some (VI q)) (M' := fun q => M) (kInvS (dt_X_sum 4 _ _ _ rfl) kst_X_isFamily rfl) kl_X_170 md_X_isFamily rfl rfl (fun q hq => c_X_isFamily hS a0 M q hq) (fun q7 => ?_)
    refine s_if_ne (tgt := 15) (dt_X_sum 5 _ _ _ rfl) rfl ?_ ?_
    · refine s_ldc (n := (-1000000 : Int)) (kc_X_173) (dt_X_sum 6 _ _ _ rfl) rfl ?_
      exact s_iret (dt_X_sum 7 _ _ _ rfl) rfl rfl
    · exact s_mask [true, true, false, false] (sJ_X_sum_15 hS M a0)
theorem c_X_sum {S : KS} (hS : KExt 382 S)  (a0 : Int) (M : KM) : ∀ q, f_X_sum a0 M = some q → Ctr y_X_sum Y_X_sum [VR (some 0), VI a0] S M (some (VI q)) S (M) := fun q hq =>
  ctr_of md_X_sum (Nat.le_of_ble_eq_true rfl) ⟨Nat.le_refl _, Nat.le_refl _⟩ 2 hq rfl (fun _ G => sim_X_sum hS  a0 M)
set_option maxRecDepth 100000 in
theorem sim_History_add {G : Gam} {S : KS} (hS : KExt 382 S)   (M : KM) : Sim G Y_History_add (f_History_add  M) (kC 0 [some (VR (some 41)), some (VR (some 34))] [] S M) (fun (q : KM) => Sum.inr (none, S, q)) := by
  unfold f_History_add
  refine s_aload_n (dt_History_add 0 _ _ _ rfl) rfl ?_
  refine s_getI (c := 6) (j := 2) (dt_History_add 1 _ _ _ rfl) (kf_History_21) (sc_41 hS) rfl ?_
  refine s_bipush (dt_History_add 2 _ _ _ rfl) rfl ?_
  refine s_bd (κ := fun t3 => kC 35 [some (VR (some 41)), some (VR (some 34))] [] S t3) ?_ (fun t3 => ?_)
  · refine s_if_icmp_ge (tgt := 22) (dt_History_add 3 _ _ _ rfl) rfl ?_ ?_
    · refine s_aload_n (dt_History_add 4 _ _ _ rfl) rfl ?_
      refine s_dup (dt_History_add 5 _ _ _ rfl) rfl ?_
      refine s_getI (c := 6) (j := 2) (dt_History_add 6 _ _ _ rfl) (kf_History_21) (sc_41 hS) rfl ?_
      refine s_iconst (dt_History_add 7 _ _ _ rfl) rfl ?_
      refine s_iadd (dt_History_add 8 _ _ _ rfl) ?_
      refine s_putI (c := 6) (j := 2) (dt_History_add 9 _ _ _ rfl) kp_History_21 (sc_41 hS) ⟨rfl, rfl⟩ ?_
      refine s_letM (fun M1 => ?_)
      refine s_goto (tgt := 35) (dt_History_add 10 _ _ _ rfl) rfl ?_
      exact s_mask [true, true] (s_ret0 rfl)
    · refine s_aload_n (dt_History_add 11 _ _ _ rfl) rfl ?_
      refine s_aload_n (dt_History_add 12 _ _ _ rfl) rfl ?_
      refine s_getI (c := 6) (j := 1) (dt_History_add 13 _ _ _ rfl) (kf_History_17) (sc_41 hS) rfl ?_
      refine s_iconst (dt_History_add 14 _ _ _ rfl) rfl ?_
      refine s_iadd (dt_History_add 15 _ _ _ rfl) ?_
      refine s_bipush (dt_History_add 16 _ _ _ rfl) rfl ?_
      refine s_irem (dt_History_add 17 _ _ _ rfl) ?_
      refine s_putI (c := 6) (j := 1) (dt_History_add 18 _ _ _ rfl) kp_History_17 (sc_41 hS) ⟨rfl, rfl⟩ ?_
      refine s_letM (fun M2 => ?_)
      exact s_mask [true, true] (s_ret0 rfl)
  refine s_aload_n (dt_History_add 19 _ _ _ rfl) rfl ?_
  refine s_iconst (dt_History_add 20 _ _ _ rfl) rfl ?_
  refine s_putI (c := 6) (j := 3) (dt_History_add 21 _ _ _ rfl) kp_History_24 (sc_41 hS) ⟨rfl, rfl⟩ ?_
  refine s_letM (fun M4 => ?_)
  refine s_aload_n (dt_History_add 22 _ _ _ rfl) rfl ?_
  refine s_aload_n (dt_History_add 23 _ _ _ rfl) rfl ?_
  refine s_aload_n (dt_History_add 24 _ _ _ rfl) rfl ?_
  refine s_getI (c := 6) (j := 2) (dt_History_add 25 _ _ _ rfl) (kf_History_21) (sc_41 hS) rfl ?_
  refine s_callO (y := y_History_stateAfter) (Y' := Y_History_stateAfter) (as := [VR (some 41), VI (M4 41 2)]) (r := fun q => some (VR (some q))) (M' := fun q => M4) (kInvV (dt_History_add 26 _ _ _ rfl) kin_History_stateAfter 6 rfl (sc_41 hS) kse_History_stateAfter rfl) kl_History_28 md_History_stateAfter rfl rfl (fun q hq => c_History_stateAfter hS (M4 41 2) M4 q hq) (fun q5 => ?_)
  refine s_if (fun h6 => ?_)
  refine s_callO (y := y_State_copy) (Y' := Y_State_copy) (as := [VR (some 34), VR (some q5)]) (r := fun q => none) (M' := fun q => q) (kInvS (dt_History_add 27 _ _ _ rfl) kst_State_copy rfl) kl_History_32 md_State_copy rfl rfl (fun q hq => c_State_copy hS (kSt_of hS (by decide)) (kSt_of hS h6) M4 q hq) (fun q7 => ?_)
  exact s_vret (dt_History_add 28 _ _ _ rfl) rfl rfl
theorem c_History_add {S : KS} (hS : KExt 382 S)   (M : KM) : ∀ q, f_History_add  M = some q → Ctr y_History_add Y_History_add [VR (some 41), VR (some 34)] S M (none) S (q) := fun q hq =>
  ctr_of md_History_add (Nat.le_of_ble_eq_true rfl) ⟨Nat.le_refl _, Nat.le_refl _⟩ 0 hq rfl (fun _ G => sim_History_add hS   M)
set_option maxRecDepth 100000 in
theorem sim_State_moveYears {G : Gam} {S : KS} (hS : KExt 382 S)  (a0 : Int) (a1 : Int) (a2 : Int) (M : KM) : Sim G Y_State_moveYears (f_State_moveYears a0 a1 a2 M) (kC 0 [some (VR (some 34)), some (VI a0), some (VI a1), some (VI a2)] [] S M) (fun (q : KM) => Sum.inr (none, S, q)) := by
  unfold f_State_moveYears
  refine s_aload_n (dt_State_moveYears 0 _ _ _ rfl) rfl ?_
  refine s_getR (c := 10) (j := 0) (o := (some 35)) (dt_State_moveYears 1 _ _ _ rfl) (kf_State_9) (sc_34 hS) rfl rfl ?_
  refine s_iload_n (dt_State_moveYears 2 _ _ _ rfl) rfl ?_
  refine s_aload_n (dt_State_moveYears 3 _ _ _ rfl) rfl ?_
  refine s_getR (c := 10) (j := 0) (o := (some 35)) (dt_State_moveYears 4 _ _ _ rfl) (kf_State_9) (sc_34 hS) rfl rfl ?_
  refine s_iload_n (dt_State_moveYears 5 _ _ _ rfl) rfl ?_
  refine s_inv (y := y_X_at) (Y' := Y_X_at) (as := [VR (some 35), VI a0]) (r := some (VI (atM M 35 8 a0))) (M' := M) (kInvS (dt_State_moveYears 6 _ _ _ rfl) kst_X_at rfl) kl_State_64 md_X_at rfl rfl (c_X_at hS ⟨(sc_35 hS), by decide⟩ a0 M) ?_
  refine s_iload_n (dt_State_moveYears 7 _ _ _ rfl) rfl ?_
  refine s_isub (dt_State_moveYears 8 _ _ _ rfl) ?_
  refine s_inv (y := y_X_put) (Y' := Y_X_put) (as := [VR (some 35), VI a0, VI (w32 ((atM M 35 8 a0) - a2))]) (r := none) (M' := (putM M 35 8 a0 (w32 ((atM M 35 8 a0) - a2)))) (kInvS (dt_State_moveYears 9 _ _ _ rfl) kst_X_put rfl) kl_State_68 md_X_put rfl rfl (c_X_put hS ⟨(sc_35 hS), by decide⟩ a0 (w32 ((atM M 35 8 a0) - a2)) M) ?_
  refine s_letM (fun M1 => ?_)
  refine s_aload_n (dt_State_moveYears 10 _ _ _ rfl) rfl ?_
  refine s_getR (c := 10) (j := 0) (o := (some 35)) (dt_State_moveYears 11 _ _ _ rfl) (kf_State_9) (sc_34 hS) rfl rfl ?_
  refine s_iload_n (dt_State_moveYears 12 _ _ _ rfl) rfl ?_
  refine s_aload_n (dt_State_moveYears 13 _ _ _ rfl) rfl ?_
  refine s_getR (c := 10) (j := 0) (o := (some 35)) (dt_State_moveYears 14 _ _ _ rfl) (kf_State_9) (sc_34 hS) rfl rfl ?_
  refine s_iload_n (dt_State_moveYears 15 _ _ _ rfl) rfl ?_
  refine s_inv (y := y_X_at) (Y' := Y_X_at) (as := [VR (some 35), VI a1]) (r := some (VI (atM M1 35 8 a1))) (M' := M1) (kInvS (dt_State_moveYears 16 _ _ _ rfl) kst_X_at rfl) kl_State_64 md_X_at rfl rfl (c_X_at hS ⟨(sc_35 hS), by decide⟩ a1 M1) ?_
  refine s_iload_n (dt_State_moveYears 17 _ _ _ rfl) rfl ?_
  refine s_iadd (dt_State_moveYears 18 _ _ _ rfl) ?_
  refine s_inv (y := y_X_put) (Y' := Y_X_put) (as := [VR (some 35), VI a1, VI (w32 ((atM M1 35 8 a1) + a2))]) (r := none) (M' := (putM M1 35 8 a1 (w32 ((atM M1 35 8 a1) + a2)))) (kInvS (dt_State_moveYears 19 _ _ _ rfl) kst_X_put rfl) kl_State_68 md_X_put rfl rfl (c_X_put hS ⟨(sc_35 hS), by decide⟩ a1 (w32 ((atM M1 35 8 a1) + a2)) M1) ?_
  refine s_letM (fun M2 => ?_)
  exact s_vret (dt_State_moveYears 20 _ _ _ rfl) rfl rfl
theorem c_State_moveYears {S : KS} (hS : KExt 382 S)  (a0 : Int) (a1 : Int) (a2 : Int) (M : KM) : ∀ q, f_State_moveYears a0 a1 a2 M = some q → Ctr y_State_moveYears Y_State_moveYears [VR (some 34), VI a0, VI a1, VI a2] S M (none) S (q) := fun q hq =>
  ctr_of md_State_moveYears (Nat.le_of_ble_eq_true rfl) ⟨Nat.le_refl _, Nat.le_refl _⟩ 0 hq rfl (fun _ G => sim_State_moveYears hS  a0 a1 a2 M)
set_option maxRecDepth 100000 in
theorem sim_State_pay {G : Gam} {S : KS} (hS : KExt 382 S)  (a0 : Int) (a1 : Int) (a2 : Int) (M : KM) : Sim G Y_State_pay (f_State_pay a0 a1 a2 M) (kC 0 [some (VR (some 34)), some (VI a0), some (VI a1), some (VI a2)] [] S M) (fun (q : KM) => Sum.inr (none, S, q)) := by
  unfold f_State_pay
  refine s_aload_n (dt_State_pay 0 _ _ _ rfl) rfl ?_
  refine s_getR (c := 10) (j := 1) (o := (some 36)) (dt_State_pay 1 _ _ _ rfl) (kf_State_15) (sc_34 hS) rfl rfl ?_
  refine s_iload_n (dt_State_pay 2 _ _ _ rfl) rfl ?_
  refine s_aload_n (dt_State_pay 3 _ _ _ rfl) rfl ?_
  refine s_getR (c := 10) (j := 1) (o := (some 36)) (dt_State_pay 4 _ _ _ rfl) (kf_State_15) (sc_34 hS) rfl rfl ?_
  refine s_iload_n (dt_State_pay 5 _ _ _ rfl) rfl ?_
  refine s_inv (y := y_X_at) (Y' := Y_X_at) (as := [VR (some 36), VI a0]) (r := some (VI (atM M 36 8 a0))) (M' := M) (kInvS (dt_State_pay 6 _ _ _ rfl) kst_X_at rfl) kl_State_64 md_X_at rfl rfl (c_X_at hS ⟨(sc_36 hS), by decide⟩ a0 M) ?_
  refine s_iload_n (dt_State_pay 7 _ _ _ rfl) rfl ?_
  refine s_isub (dt_State_pay 8 _ _ _ rfl) ?_
  refine s_inv (y := y_X_put) (Y' := Y_X_put) (as := [VR (some 36), VI a0, VI (w32 ((atM M 36 8 a0) - a2))]) (r := none) (M' := (putM M 36 8 a0 (w32 ((atM M 36 8 a0) - a2)))) (kInvS (dt_State_pay 9 _ _ _ rfl) kst_X_put rfl) kl_State_68 md_X_put rfl rfl (c_X_put hS ⟨(sc_36 hS), by decide⟩ a0 (w32 ((atM M 36 8 a0) - a2)) M) ?_
  refine s_letM (fun M1 => ?_)
  refine s_aload_n (dt_State_pay 10 _ _ _ rfl) rfl ?_
  refine s_getR (c := 10) (j := 1) (o := (some 36)) (dt_State_pay 11 _ _ _ rfl) (kf_State_15) (sc_34 hS) rfl rfl ?_
  refine s_iload_n (dt_State_pay 12 _ _ _ rfl) rfl ?_
  refine s_aload_n (dt_State_pay 13 _ _ _ rfl) rfl ?_
  refine s_getR (c := 10) (j := 1) (o := (some 36)) (dt_State_pay 14 _ _ _ rfl) (kf_State_15) (sc_34 hS) rfl rfl ?_
  refine s_iload_n (dt_State_pay 15 _ _ _ rfl) rfl ?_
  refine s_inv (y := y_X_at) (Y' := Y_X_at) (as := [VR (some 36), VI a1]) (r := some (VI (atM M1 36 8 a1))) (M' := M1) (kInvS (dt_State_pay 16 _ _ _ rfl) kst_X_at rfl) kl_State_64 md_X_at rfl rfl (c_X_at hS ⟨(sc_36 hS), by decide⟩ a1 M1) ?_
  refine s_iload_n (dt_State_pay 17 _ _ _ rfl) rfl ?_
  refine s_iadd (dt_State_pay 18 _ _ _ rfl) ?_
  refine s_inv (y := y_X_put) (Y' := Y_X_put) (as := [VR (some 36), VI a1, VI (w32 ((atM M1 36 8 a1) + a2))]) (r := none) (M' := (putM M1 36 8 a1 (w32 ((atM M1 36 8 a1) + a2)))) (kInvS (dt_State_pay 19 _ _ _ rfl) kst_X_put rfl) kl_State_68 md_X_put rfl rfl (c_X_put hS ⟨(sc_36 hS), by decide⟩ a1 (w32 ((atM M1 36 8 a1) + a2)) M1) ?_
  refine s_letM (fun M2 => ?_)
  exact s_vret (dt_State_pay 20 _ _ _ rfl) rfl rfl
theorem c_State_pay {S : KS} (hS : KExt 382 S)  (a0 : Int) (a1 : Int) (a2 : Int) (M : KM) : ∀ q, f_State_pay a0 a1 a2 M = some q → Ctr y_State_pay Y_State_pay [VR (some 34), VI a0, VI a1, VI a2] S M (none) S (q) := fun q hq =>
  ctr_of md_State_pay (Nat.le_of_ble_eq_true rfl) ⟨Nat.le_refl _, Nat.le_refl _⟩ 0 hq rfl (fun _ G => sim_State_pay hS  a0 a1 a2 M)
set_option maxRecDepth 100000 in
theorem sim_State_canMove {G : Gam} {S : KS} (hS : KExt 382 S)  (a0 : Int) (a1 : Int) (a2 : Int) (a3 : Int) (a4 : Int) (M : KM) : Sim G Y_State_canMove (f_State_canMove a0 a1 a2 a3 a4 M) (kC 0 [some (VR (some 34)), some (VI a0), some (VI a1), some (VI a2), some (VI a3), some (VI a4)] [] S M) (fun (q : Int) => Sum.inr (some (VI q), S, M)) := by
  unfold f_State_canMove
  refine s_aload_n (dt_State_canMove 0 _ _ _ rfl) rfl ?_
  refine s_getR (c := 10) (j := 0) (o := (some 35)) (dt_State_canMove 1 _ _ _ rfl) (kf_State_9) (sc_34 hS) rfl rfl ?_
  refine s_iload_n (dt_State_canMove 2 _ _ _ rfl) rfl ?_
  refine s_inv (y := y_X_at) (Y' := Y_X_at) (as := [VR (some 35), VI a0]) (r := some (VI (atM M 35 8 a0))) (M' := M) (kInvS (dt_State_canMove 3 _ _ _ rfl) kst_X_at rfl) kl_State_64 md_X_at rfl rfl (c_X_at hS ⟨(sc_35 hS), by decide⟩ a0 M) ?_
  refine s_iload_n (dt_State_canMove 4 _ _ _ rfl) rfl ?_
  refine s_isub (dt_State_canMove 5 _ _ _ rfl) ?_
  refine s_iload (dt_State_canMove 6 _ _ _ rfl) rfl ?_
  refine s_bd (κ := fun t1 => kC 35 [none, none, none, none, none, none] [VI t1] S M) ?_ (fun t1 => ?_)
  · refine s_if_icmp_lt (tgt := 34) (dt_State_canMove 7 _ _ _ rfl) rfl ?_ ?_
    · refine s_iconst (dt_State_canMove 18 _ _ _ rfl) rfl ?_
      exact s_mask [false, false, false, false, false, false] (s_ret0 rfl)
    · refine s_aload_n (dt_State_canMove 8 _ _ _ rfl) rfl ?_
      refine s_getR (c := 10) (j := 0) (o := (some 35)) (dt_State_canMove 9 _ _ _ rfl) (kf_State_9) (sc_34 hS) rfl rfl ?_
      refine s_iload_n (dt_State_canMove 10 _ _ _ rfl) rfl ?_
      refine s_inv (y := y_X_at) (Y' := Y_X_at) (as := [VR (some 35), VI a1]) (r := some (VI (atM M 35 8 a1))) (M' := M) (kInvS (dt_State_canMove 11 _ _ _ rfl) kst_X_at rfl) kl_State_64 md_X_at rfl rfl (c_X_at hS ⟨(sc_35 hS), by decide⟩ a1 M) ?_
      refine s_iload_n (dt_State_canMove 12 _ _ _ rfl) rfl ?_
      refine s_iadd (dt_State_canMove 13 _ _ _ rfl) ?_
      refine s_iload (dt_State_canMove 14 _ _ _ rfl) rfl ?_
      refine s_if_icmp_gt (tgt := 34) (dt_State_canMove 15 _ _ _ rfl) rfl ?_ ?_
      · refine s_iconst (dt_State_canMove 16 _ _ _ rfl) rfl ?_
        refine s_goto (tgt := 35) (dt_State_canMove 17 _ _ _ rfl) rfl ?_
        exact s_mask [false, false, false, false, false, false] (s_ret0 rfl)
      · refine s_iconst (dt_State_canMove 18 _ _ _ rfl) rfl ?_
        exact s_mask [false, false, false, false, false, false] (s_ret0 rfl)
  exact s_zret (dt_State_canMove 19 _ _ _ rfl) rfl rfl
theorem c_State_canMove {S : KS} (hS : KExt 382 S)  (a0 : Int) (a1 : Int) (a2 : Int) (a3 : Int) (a4 : Int) (M : KM) : ∀ q, f_State_canMove a0 a1 a2 a3 a4 M = some q → Ctr y_State_canMove Y_State_canMove [VR (some 34), VI a0, VI a1, VI a2, VI a3, VI a4] S M (some (VI q)) S (M) := fun q hq =>
  ctr_of md_State_canMove (Nat.le_of_ble_eq_true rfl) ⟨Nat.le_refl _, Nat.le_refl _⟩ 0 hq rfl (fun _ G => sim_State_canMove hS  a0 a1 a2 a3 a4 M)
set_option maxRecDepth 100000 in
theorem sim_Town_friendsOfT {G : Gam} {S : KS} (hS : KExt 382 S)  (a0 : Int) (a1 : Int) (M : KM) : Sim G Y_Town_friendsOf (f_Town_friendsOfT a0 a1 M) (kC 0 [some (VR (some 2)), some (VI a0), some (VI a1), none] [] S M) (fun (q : Int) => Sum.inr (some (VI q), S, M)) := by
  unfold f_Town_friendsOfT
  refine s_iconst (dt_Town_friendsOf 0 _ _ _ rfl) rfl ?_
  refine s_istore_n (dt_Town_friendsOf 1 _ _ _ rfl) rfl ?_
  refine s_bd (κ := (Sum.elim (fun (e2 : Int) => kC 48 [none, none, none, some (VI e2)] [] S M) (fun (e3 : Unit) => kC 56 [none, none, none, none] [] S M))) (s_mask [true, true, true, true] (s_while (c := fun s1 => kC 2 [some (VR (some 2)), some (VI a0), some (VI a1), some (VI s1)] [] S M) (fun s1 => ?_) (0 : Int))) ?_
  · refine s_iload_n (dt_Town_friendsOf 2 _ _ _ rfl) rfl ?_
    refine s_aload_n (dt_Town_friendsOf 3 _ _ _ rfl) rfl ?_
    refine s_getI (c := 12) (j := 5) (dt_Town_friendsOf 4 _ _ _ rfl) (kf_Town_50) (sc_2 hS) rfl ?_
    refine s_if_icmp_ge (tgt := 56) (dt_Town_friendsOf 5 _ _ _ rfl) rfl ?_ ?_
    · refine s_iload_n (dt_Town_friendsOf 6 _ _ _ rfl) rfl ?_
      refine s_aload_n (dt_Town_friendsOf 7 _ _ _ rfl) rfl ?_
      refine s_getR (c := 12) (j := 6) (o := (some 7)) (dt_Town_friendsOf 8 _ _ _ rfl) (kf_Town_24) (sc_2 hS) rfl rfl ?_
      refine s_alen (N := 20) (dt_Town_friendsOf 9 _ _ _ rfl) (sc_7 hS) rfl rfl (by decide) ?_
      refine s_if_icmp_ge (tgt := 56) (dt_Town_friendsOf 10 _ _ _ rfl) rfl ?_ ?_
      · refine s_iload_n (dt_Town_friendsOf 11 _ _ _ rfl) rfl ?_
        refine s_aload_n (dt_Town_friendsOf 12 _ _ _ rfl) rfl ?_
        refine s_getR (c := 12) (j := 7) (o := (some 8)) (dt_Town_friendsOf 13 _ _ _ rfl) (kf_Town_27) (sc_2 hS) rfl rfl ?_
        refine s_alen (N := 20) (dt_Town_friendsOf 14 _ _ _ rfl) (sc_8 hS) rfl rfl (by decide) ?_
        refine s_if_icmp_ge (tgt := 56) (dt_Town_friendsOf 15 _ _ _ rfl) rfl ?_ ?_
        · refine s_aload_n (dt_Town_friendsOf 16 _ _ _ rfl) rfl ?_
          refine s_getR (c := 12) (j := 6) (o := (some 7)) (dt_Town_friendsOf 17 _ _ _ rfl) (kf_Town_24) (sc_2 hS) rfl rfl ?_
          refine s_iload_n (dt_Town_friendsOf 18 _ _ _ rfl) rfl ?_
          refine s_iald (N := 20) (dt_Town_friendsOf 19 _ _ _ rfl) (sc_7 hS) rfl ?_
          refine s_iload_n (dt_Town_friendsOf 20 _ _ _ rfl) rfl ?_
          refine s_if_icmp_ne (tgt := 50) (dt_Town_friendsOf 21 _ _ _ rfl) rfl ?_ ?_
          · refine s_aload_n (dt_Town_friendsOf 22 _ _ _ rfl) rfl ?_
            refine s_getR (c := 12) (j := 7) (o := (some 8)) (dt_Town_friendsOf 23 _ _ _ rfl) (kf_Town_27) (sc_2 hS) rfl rfl ?_
            refine s_iload_n (dt_Town_friendsOf 24 _ _ _ rfl) rfl ?_
            refine s_iald (N := 20) (dt_Town_friendsOf 25 _ _ _ rfl) (sc_8 hS) rfl ?_
            refine s_iload_n (dt_Town_friendsOf 26 _ _ _ rfl) rfl ?_
            refine s_if_icmp_ne (tgt := 50) (dt_Town_friendsOf 27 _ _ _ rfl) rfl ?_ ?_
            · exact s_mask [false, false, false, true] (s_ret0 rfl)
            · refine s_iinc (dt_Town_friendsOf 30 _ _ _ rfl) rfl rfl ?_
              refine s_goto (tgt := 2) (dt_Town_friendsOf 31 _ _ _ rfl) rfl ?_
              exact s_mask [true, true, true, true] (s_ret0 rfl)
          · refine s_iinc (dt_Town_friendsOf 30 _ _ _ rfl) rfl rfl ?_
            refine s_goto (tgt := 2) (dt_Town_friendsOf 31 _ _ _ rfl) rfl ?_
            exact s_mask [true, true, true, true] (s_ret0 rfl)
        · exact s_mask [false, false, false, false] (s_ret0 rfl)
      · exact s_mask [false, false, false, false] (s_ret0 rfl)
    · exact s_mask [false, false, false, false] (s_ret0 rfl)
  refine s_elim (fun e2 => ?_) ?_
  · refine s_iload_n (dt_Town_friendsOf 28 _ _ _ rfl) rfl ?_
    exact s_iret (dt_Town_friendsOf 29 _ _ _ rfl) rfl rfl
  intro e3
  refine s_iconst (dt_Town_friendsOf 32 _ _ _ rfl) rfl ?_
  exact s_iret (dt_Town_friendsOf 33 _ _ _ rfl) rfl rfl
theorem c_Town_friendsOfT {S : KS} (hS : KExt 382 S)  (a0 : Int) (a1 : Int) (M : KM) : ∀ q, f_Town_friendsOfT a0 a1 M = some q → Ctr y_Town_friendsOf Y_Town_friendsOf [VR (some 2), VI a0, VI a1] S M (some (VI q)) S (M) := fun q hq =>
  ctr_of md_Town_friendsOf (Nat.le_of_ble_eq_true rfl) ⟨Nat.le_refl _, Nat.le_refl _⟩ 1 hq rfl (fun _ G => sim_Town_friendsOfT hS  a0 a1 M)
set_option maxRecDepth 100000 in
theorem sim_X_friendsFor {G : Gam} {S : KS} (hS : KExt 382 S)  (a0 : Int) (a1 : Int) (a2 : Int) (M : KM) : Sim G Y_X_friendsFor (f_X_friendsFor a0 a1 a2 M) (kC 0 [some (VR (some 0)), some (VI a0), some (VI a1), some (VI a2)] [] S M) (fun (q : Int) => Sum.inr (some (VI q), S, M)) := by
  unfold f_X_friendsFor
  refine s_iload_n (dt_X_friendsFor 0 _ _ _ rfl) rfl ?_
  refine s_iconst (dt_X_friendsFor 1 _ _ _ rfl) rfl ?_
  refine s_if_icmp_lt (tgt := 27) (dt_X_friendsFor 2 _ _ _ rfl) rfl ?_ ?_
  · refine s_iconst (dt_X_friendsFor 14 _ _ _ rfl) rfl ?_
    exact s_iret (dt_X_friendsFor 15 _ _ _ rfl) rfl rfl
  · refine s_iload_n (dt_X_friendsFor 3 _ _ _ rfl) rfl ?_
    refine s_bipush (dt_X_friendsFor 4 _ _ _ rfl) rfl ?_
    refine s_if_icmp_gt (tgt := 27) (dt_X_friendsFor 5 _ _ _ rfl) rfl ?_ ?_
    · refine s_aload_n (dt_X_friendsFor 6 _ _ _ rfl) rfl ?_
      refine s_iload_n (dt_X_friendsFor 7 _ _ _ rfl) rfl ?_
      refine s_callO (y := y_X_isAlive) (Y' := Y_X_isAlive) (as := [VR (some 0), VI a0]) (r := fun q => some (VI q)) (M' := fun q => M) (kInvV (dt_X_friendsFor 8 _ _ _ rfl) kin_X_isAlive 0 rfl (sc_0 hS) kse_X_isAlive rfl) kl_X_147 md_X_isAlive rfl rfl (fun q hq => c_X_isAlive hS a0 M q hq) (fun q1 => ?_)
      refine s_if_eq (tgt := 27) (dt_X_friendsFor 9 _ _ _ rfl) rfl ?_ ?_
      · refine s_iconst (dt_X_friendsFor 14 _ _ _ rfl) rfl ?_
        exact s_iret (dt_X_friendsFor 15 _ _ _ rfl) rfl rfl
      · refine s_aload_n (dt_X_friendsFor 10 _ _ _ rfl) rfl ?_
        refine s_iload_n (dt_X_friendsFor 11 _ _ _ rfl) rfl ?_
        refine s_callO (y := y_X_isAlive) (Y' := Y_X_isAlive) (as := [VR (some 0), VI a1]) (r := fun q => some (VI q)) (M' := fun q => M) (kInvV (dt_X_friendsFor 12 _ _ _ rfl) kin_X_isAlive 0 rfl (sc_0 hS) kse_X_isAlive rfl) kl_X_147 md_X_isAlive rfl rfl (fun q hq => c_X_isAlive hS a1 M q hq) (fun q2 => ?_)
        refine s_if_ne (tgt := 29) (dt_X_friendsFor 13 _ _ _ rfl) rfl ?_ ?_
        · refine s_iconst (dt_X_friendsFor 14 _ _ _ rfl) rfl ?_
          exact s_iret (dt_X_friendsFor 15 _ _ _ rfl) rfl rfl
        · refine s_aload_n (dt_X_friendsFor 16 _ _ _ rfl) rfl ?_
          refine s_getR (c := 0) (j := 4) (o := (some 34)) (dt_X_friendsFor 17 _ _ _ rfl) (kf_X_34) (sc_0 hS) rfl rfl ?_
          refine s_iload_n (dt_X_friendsFor 18 _ _ _ rfl) rfl ?_
          refine s_iload_n (dt_X_friendsFor 19 _ _ _ rfl) rfl ?_
          refine s_iload_n (dt_X_friendsFor 20 _ _ _ rfl) rfl ?_
          refine s_aload_n (dt_X_friendsFor 21 _ _ _ rfl) rfl ?_
          refine s_getR (c := 0) (j := 2) (o := (some 2)) (dt_X_friendsFor 22 _ _ _ rfl) (kf_X_20) (sc_0 hS) rfl rfl ?_
          refine s_getI (c := 12) (j := 12) (dt_X_friendsFor 23 _ _ _ rfl) (kf_X_177) (sc_2 hS) rfl ?_
          refine s_aload_n (dt_X_friendsFor 24 _ _ _ rfl) rfl ?_
          refine s_getR (c := 0) (j := 2) (o := (some 2)) (dt_X_friendsFor 25 _ _ _ rfl) (kf_X_20) (sc_0 hS) rfl rfl ?_
          refine s_getI (c := 12) (j := 13) (dt_X_friendsFor 26 _ _ _ rfl) (kf_X_180) (sc_2 hS) rfl ?_
          refine s_callO (y := y_State_canMove) (Y' := Y_State_canMove) (as := [VR (some 34), VI a0, VI a1, VI a2, VI (M 2 12), VI (M 2 13)]) (r := fun q => some (VI q)) (M' := fun q => M) (kInvV (dt_X_friendsFor 27 _ _ _ rfl) kin_State_canMove 10 rfl (sc_34 hS) kse_State_canMove rfl) kl_X_245 md_State_canMove rfl rfl (fun q hq => c_State_canMove hS a0 a1 a2 (M 2 12) (M 2 13) M q hq) (fun q3 => ?_)
          refine s_if_ne (tgt := 58) (dt_X_friendsFor 28 _ _ _ rfl) rfl ?_ ?_
          · refine s_iconst (dt_X_friendsFor 29 _ _ _ rfl) rfl ?_
            exact s_iret (dt_X_friendsFor 30 _ _ _ rfl) rfl rfl
          · refine s_aload_n (dt_X_friendsFor 31 _ _ _ rfl) rfl ?_
            refine s_getR (c := 0) (j := 2) (o := (some 2)) (dt_X_friendsFor 32 _ _ _ rfl) (kf_X_20) (sc_0 hS) rfl rfl ?_
            refine s_iload_n (dt_X_friendsFor 33 _ _ _ rfl) rfl ?_
            refine s_iload_n (dt_X_friendsFor 34 _ _ _ rfl) rfl ?_
            refine s_callO (y := y_Town_friendsOf) (Y' := Y_Town_friendsOf) (as := [VR (some 2), VI a0, VI a1]) (r := fun q => some (VI q)) (M' := fun q => M) (kInvV (dt_X_friendsFor 35 _ _ _ rfl) kin_Town_friendsOf 12 rfl (sc_2 hS) kse_Town_friendsOf rfl) kl_X_249 md_Town_friendsOf rfl rfl (fun q hq => c_Town_friendsOfT hS a0 a1 M q hq) (fun q4 => ?_)
            exact s_iret (dt_X_friendsFor 36 _ _ _ rfl) rfl rfl
    · refine s_iconst (dt_X_friendsFor 14 _ _ _ rfl) rfl ?_
      exact s_iret (dt_X_friendsFor 15 _ _ _ rfl) rfl rfl
theorem c_X_friendsFor {S : KS} (hS : KExt 382 S)  (a0 : Int) (a1 : Int) (a2 : Int) (M : KM) : ∀ q, f_X_friendsFor a0 a1 a2 M = some q → Ctr y_X_friendsFor Y_X_friendsFor [VR (some 0), VI a0, VI a1, VI a2] S M (some (VI q)) S (M) := fun q hq =>
  ctr_of md_X_friendsFor (Nat.le_of_ble_eq_true rfl) ⟨Nat.le_refl _, Nat.le_refl _⟩ 0 hq rfl (fun _ G => sim_X_friendsFor hS  a0 a1 a2 M)
set_option maxRecDepth 100000 in
theorem sim_X_give {G : Gam} {S : KS} (hS : KExt 382 S)  (a0 : Int) (a1 : Int) (a2 : Int) (M : KM) : Sim G Y_X_give (f_X_give a0 a1 a2 M) (kC 0 [some (VR (some 0)), some (VI a0), some (VI a1), some (VI a2), none, none] [] S M) (fun (q : Int × KM) => Sum.inr (some (VI q.1), S, q.2)) := by
  unfold f_X_give
  refine s_aload_n (dt_X_give 0 _ _ _ rfl) rfl ?_
  refine s_iload_n (dt_X_give 1 _ _ _ rfl) rfl ?_
  refine s_iload_n (dt_X_give 2 _ _ _ rfl) rfl ?_
  refine s_iload_n (dt_X_give 3 _ _ _ rfl) rfl ?_
  refine s_callO (y := y_X_friendsFor) (Y' := Y_X_friendsFor) (as := [VR (some 0), VI a0, VI a1, VI a2]) (r := fun q => some (VI q)) (M' := fun q => M) (kInvV (dt_X_give 4 _ _ _ rfl) kin_X_friendsFor 0 rfl (sc_0 hS) kse_X_friendsFor rfl) kl_X_221 md_X_friendsFor rfl rfl (fun q hq => c_X_friendsFor hS a0 a1 a2 M q hq) (fun q1 => ?_)
  refine s_istore (dt_X_give 5 _ _ _ rfl) rfl ?_
  refine s_iload (dt_X_give 6 _ _ _ rfl) rfl ?_
  refine s_iconst (dt_X_give 7 _ _ _ rfl) rfl ?_
  refine s_if_icmp_ne (tgt := 17) (dt_X_give 8 _ _ _ rfl) rfl ?_ ?_
  · refine s_iconst (dt_X_give 9 _ _ _ rfl) rfl ?_
    exact s_iret (dt_X_give 10 _ _ _ rfl) rfl rfl
  · refine s_iload_n (dt_X_give 11 _ _ _ rfl) rfl ?_
    refine s_aload_n (dt_X_give 12 _ _ _ rfl) rfl ?_
    refine s_getR (c := 0) (j := 2) (o := (some 2)) (dt_X_give 13 _ _ _ rfl) (kf_X_20) (sc_0 hS) rfl rfl ?_
    refine s_getR (c := 12) (j := 8) (o := (some 9)) (dt_X_give 14 _ _ _ rfl) (kf_X_225) (sc_2 hS) rfl rfl ?_
    refine s_iload (dt_X_give 15 _ _ _ rfl) rfl ?_
    refine s_inv (y := y_X_at) (Y' := Y_X_at) (as := [VR (some 9), VI q1]) (r := some (VI (atM M 9 20 q1))) (M' := M) (kInvS (dt_X_give 16 _ _ _ rfl) kst_X_at rfl) kl_X_140 md_X_at rfl rfl (c_X_at hS ⟨(sc_9 hS), by decide⟩ q1 M) ?_
    refine s_imul (dt_X_give 17 _ _ _ rfl) ?_
    refine s_letI (fun v2 => ?_)
    refine s_istore (dt_X_give 18 _ _ _ rfl) rfl ?_
    refine s_aload_n (dt_X_give 19 _ _ _ rfl) rfl ?_
    refine s_getR (c := 0) (j := 4) (o := (some 34)) (dt_X_give 20 _ _ _ rfl) (kf_X_34) (sc_0 hS) rfl rfl ?_
    refine s_getR (c := 10) (j := 1) (o := (some 36)) (dt_X_give 21 _ _ _ rfl) (kf_X_144) (sc_34 hS) rfl rfl ?_
    refine s_iload_n (dt_X_give 22 _ _ _ rfl) rfl ?_
    refine s_inv (y := y_X_at) (Y' := Y_X_at) (as := [VR (some 36), VI a1]) (r := some (VI (atM M 36 8 a1))) (M' := M) (kInvS (dt_X_give 23 _ _ _ rfl) kst_X_at rfl) kl_X_140 md_X_at rfl rfl (c_X_at hS ⟨(sc_36 hS), by decide⟩ a1 M) ?_
    refine s_iload (dt_X_give 24 _ _ _ rfl) rfl ?_
    refine s_if_icmp_ge (tgt := 51) (dt_X_give 25 _ _ _ rfl) rfl ?_ ?_
    · refine s_iconst (dt_X_give 26 _ _ _ rfl) rfl ?_
      exact s_iret (dt_X_give 27 _ _ _ rfl) rfl rfl
    · refine s_aload_n (dt_X_give 28 _ _ _ rfl) rfl ?_
      refine s_getR (c := 0) (j := 4) (o := (some 34)) (dt_X_give 29 _ _ _ rfl) (kf_X_34) (sc_0 hS) rfl rfl ?_
      refine s_iload_n (dt_X_give 30 _ _ _ rfl) rfl ?_
      refine s_iload_n (dt_X_give 31 _ _ _ rfl) rfl ?_
      refine s_iload_n (dt_X_give 32 _ _ _ rfl) rfl ?_
      refine s_callO (y := y_State_moveYears) (Y' := Y_State_moveYears) (as := [VR (some 34), VI a0, VI a1, VI a2]) (r := fun q => none) (M' := fun q => q) (kInvV (dt_X_give 33 _ _ _ rfl) kin_State_moveYears 10 rfl (sc_34 hS) kse_State_moveYears rfl) kl_X_228 md_State_moveYears rfl rfl (fun q hq => c_State_moveYears hS a0 a1 a2 M q hq) (fun q3 => ?_)
      refine s_aload_n (dt_X_give 34 _ _ _ rfl) rfl ?_
      refine s_getR (c := 0) (j := 4) (o := (some 34)) (dt_X_give 35 _ _ _ rfl) (kf_X_34) (sc_0 hS) rfl rfl ?_
      refine s_iload_n (dt_X_give 36 _ _ _ rfl) rfl ?_
      refine s_iload_n (dt_X_give 37 _ _ _ rfl) rfl ?_
      refine s_iload (dt_X_give 38 _ _ _ rfl) rfl ?_
      refine s_callO (y := y_State_pay) (Y' := Y_State_pay) (as := [VR (some 34), VI a1, VI a0, VI v2]) (r := fun q => none) (M' := fun q => q) (kInvV (dt_X_give 39 _ _ _ rfl) kin_State_pay 10 rfl (sc_34 hS) kse_State_pay rfl) kl_X_232 md_State_pay rfl rfl (fun q hq => c_State_pay hS a1 a0 v2 q3 q hq) (fun q4 => ?_)
      refine s_aload_n (dt_X_give 40 _ _ _ rfl) rfl ?_
      refine s_getR (c := 0) (j := 5) (o := (some 41)) (dt_X_give 41 _ _ _ rfl) (kf_X_41) (sc_0 hS) rfl rfl ?_
      refine s_aload_n (dt_X_give 42 _ _ _ rfl) rfl ?_
      refine s_getR (c := 0) (j := 4) (o := (some 34)) (dt_X_give 43 _ _ _ rfl) (kf_X_34) (sc_0 hS) rfl rfl ?_
      refine s_callO (y := y_History_add) (Y' := Y_History_add) (as := [VR (some 41), VR (some 34)]) (r := fun q => none) (M' := fun q => q) (kInvV (dt_X_give 44 _ _ _ rfl) kin_History_add 6 rfl (sc_41 hS) kse_History_add rfl) kl_X_235 md_History_add rfl rfl (fun q hq => c_History_add hS q4 q hq) (fun q5 => ?_)
      refine s_iload (dt_X_give 45 _ _ _ rfl) rfl ?_
      exact s_iret (dt_X_give 46 _ _ _ rfl) rfl rfl
theorem c_X_give {S : KS} (hS : KExt 382 S)  (a0 : Int) (a1 : Int) (a2 : Int) (M : KM) : ∀ q, f_X_give a0 a1 a2 M = some q → Ctr y_X_give Y_X_give [VR (some 0), VI a0, VI a1, VI a2] S M (some (VI q.1)) S (q.2) := fun q hq =>
  ctr_of md_X_give (Nat.le_of_ble_eq_true rfl) ⟨Nat.le_refl _, Nat.le_refl _⟩ 2 hq rfl (fun _ G => sim_X_give hS  a0 a1 a2 M)
set_option maxRecDepth 100000 in
theorem sim_State_addLoan {G : Gam} {S : KS} (hS : KExt 382 S)  (a0 : Int) (a1 : Int) (a2 : Int) (a3 : Int) (M : KM) : Sim G Y_State_addLoan (f_State_addLoan a0 a1 a2 a3 M) (kC 0 [some (VR (some 34)), some (VI a0), some (VI a1), some (VI a2), some (VI a3), none] [] S M) (fun (q : Int × KM) => Sum.inr (some (VI q.1), S, q.2)) := by
  unfold f_State_addLoan
  refine s_aload_n (dt_State_addLoan 0 _ _ _ rfl) rfl ?_
  refine s_getI (c := 10) (j := 6) (dt_State_addLoan 1 _ _ _ rfl) (kf_State_55) (sc_34 hS) rfl ?_
  refine s_letI (fun v1 => ?_)
  refine s_istore (dt_State_addLoan 2 _ _ _ rfl) rfl ?_
  refine s_aload_n (dt_State_addLoan 3 _ _ _ rfl) rfl ?_
  refine s_getR (c := 10) (j := 9) (o := (some 37)) (dt_State_addLoan 4 _ _ _ rfl) (kf_State_18) (sc_34 hS) rfl rfl ?_
  refine s_iload (dt_State_addLoan 5 _ _ _ rfl) rfl ?_
  refine s_iload_n (dt_State_addLoan 6 _ _ _ rfl) rfl ?_
  refine s_inv (y := y_X_put) (Y' := Y_X_put) (as := [VR (some 37), VI v1, VI a0]) (r := none) (M' := (putM M 37 30 v1 a0)) (kInvS (dt_State_addLoan 7 _ _ _ rfl) kst_X_put rfl) kl_State_68 md_X_put rfl rfl (c_X_put hS ⟨(sc_37 hS), by decide⟩ v1 a0 M) ?_
  refine s_letM (fun M2 => ?_)
  refine s_aload_n (dt_State_addLoan 8 _ _ _ rfl) rfl ?_
  refine s_getR (c := 10) (j := 10) (o := (some 38)) (dt_State_addLoan 9 _ _ _ rfl) (kf_State_21) (sc_34 hS) rfl rfl ?_
  refine s_iload (dt_State_addLoan 10 _ _ _ rfl) rfl ?_
  refine s_iload_n (dt_State_addLoan 11 _ _ _ rfl) rfl ?_
  refine s_inv (y := y_X_put) (Y' := Y_X_put) (as := [VR (some 38), VI v1, VI a1]) (r := none) (M' := (putM M2 38 30 v1 a1)) (kInvS (dt_State_addLoan 12 _ _ _ rfl) kst_X_put rfl) kl_State_68 md_X_put rfl rfl (c_X_put hS ⟨(sc_38 hS), by decide⟩ v1 a1 M2) ?_
  refine s_letM (fun M3 => ?_)
  refine s_aload_n (dt_State_addLoan 13 _ _ _ rfl) rfl ?_
  refine s_getR (c := 10) (j := 11) (o := (some 39)) (dt_State_addLoan 14 _ _ _ rfl) (kf_State_24) (sc_34 hS) rfl rfl ?_
  refine s_iload (dt_State_addLoan 15 _ _ _ rfl) rfl ?_
  refine s_iload_n (dt_State_addLoan 16 _ _ _ rfl) rfl ?_
  refine s_inv (y := y_X_put) (Y' := Y_X_put) (as := [VR (some 39), VI v1, VI a2]) (r := none) (M' := (putM M3 39 30 v1 a2)) (kInvS (dt_State_addLoan 17 _ _ _ rfl) kst_X_put rfl) kl_State_68 md_X_put rfl rfl (c_X_put hS ⟨(sc_39 hS), by decide⟩ v1 a2 M3) ?_
  refine s_letM (fun M4 => ?_)
  refine s_aload_n (dt_State_addLoan 18 _ _ _ rfl) rfl ?_
  refine s_getR (c := 10) (j := 12) (o := (some 40)) (dt_State_addLoan 19 _ _ _ rfl) (kf_State_27) (sc_34 hS) rfl rfl ?_
  refine s_iload (dt_State_addLoan 20 _ _ _ rfl) rfl ?_
  refine s_iload (dt_State_addLoan 21 _ _ _ rfl) rfl ?_
  refine s_inv (y := y_X_put) (Y' := Y_X_put) (as := [VR (some 40), VI v1, VI a3]) (r := none) (M' := (putM M4 40 30 v1 a3)) (kInvS (dt_State_addLoan 22 _ _ _ rfl) kst_X_put rfl) kl_State_68 md_X_put rfl rfl (c_X_put hS ⟨(sc_40 hS), by decide⟩ v1 a3 M4) ?_
  refine s_letM (fun M5 => ?_)
  refine s_aload_n (dt_State_addLoan 23 _ _ _ rfl) rfl ?_
  refine s_dup (dt_State_addLoan 24 _ _ _ rfl) rfl ?_
  refine s_getI (c := 10) (j := 6) (dt_State_addLoan 25 _ _ _ rfl) (kf_State_55) (sc_34 hS) rfl ?_
  refine s_iconst (dt_State_addLoan 26 _ _ _ rfl) rfl ?_
  refine s_iadd (dt_State_addLoan 27 _ _ _ rfl) ?_
  refine s_putI (c := 10) (j := 6) (dt_State_addLoan 28 _ _ _ rfl) kp_State_55 (sc_34 hS) ⟨rfl, rfl⟩ ?_
  refine s_letM (fun M6 => ?_)
  refine s_iload (dt_State_addLoan 29 _ _ _ rfl) rfl ?_
  exact s_iret (dt_State_addLoan 30 _ _ _ rfl) rfl rfl
theorem c_State_addLoan {S : KS} (hS : KExt 382 S)  (a0 : Int) (a1 : Int) (a2 : Int) (a3 : Int) (M : KM) : ∀ q, f_State_addLoan a0 a1 a2 a3 M = some q → Ctr y_State_addLoan Y_State_addLoan [VR (some 34), VI a0, VI a1, VI a2, VI a3] S M (some (VI q.1)) S (q.2) := fun q hq =>
  ctr_of md_State_addLoan (Nat.le_of_ble_eq_true rfl) ⟨Nat.le_refl _, Nat.le_refl _⟩ 1 hq rfl (fun _ G => sim_State_addLoan hS  a0 a1 a2 a3 M)
