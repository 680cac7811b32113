noncomputable def f_X_lay (a0 : Int) (M : KM) : Option (KM) := Option.bind ((if M 0 16 < 8 then letM_ (putM M 360 8 (M 0 16) a0) (fun M1 => letM_ (mupd M1 0 16 (w32 ((M1 0 16) + 1))) (fun M2 => some M2)) else some M) : Option (KM)) (fun t3 => some t3)
set_option maxRecDepth 100000 in
theorem sim_X_lay {G : Gam} {S : KS} (hS : KExt 382 S)  (a0 : Int) (M : KM) : Sim G Y_X_lay (f_X_lay a0 M) (kC 0 [some (VR (some 0)), some (VI a0)] [] S M) (fun (q : KM) => Sum.inr (none, S, q)) := by
  unfold f_X_lay
  refine s_aload_n (dt_X_lay 0 _ _ _ rfl) rfl ?_
  refine s_getI (dt_X_lay 1 _ _ _ rfl) (kf_X_97) (sc_0 hS) rfl ?_
  refine s_aload_n (dt_X_lay 2 _ _ _ rfl) rfl ?_
  refine s_getR (o := (some 360)) (dt_X_lay 3 _ _ _ rfl) (kf_X_94) (sc_0 hS) rfl rfl ?_
  refine s_alen (N := 8) (dt_X_lay 4 _ _ _ rfl) (sc_360 hS) rfl rfl (by decide) ?_
  refine s_bd (κ := fun t3 => kC 34 [none, none] [] S t3) ?_ (fun t3 => ?_)
  · refine s_if_icmp_ge (tgt := 34) (dt_X_lay 5 _ _ _ rfl) rfl ?_ ?_
    · refine s_aload_n (dt_X_lay 6 _ _ _ rfl) rfl ?_
      refine s_getR (o := (some 360)) (dt_X_lay 7 _ _ _ rfl) (kf_X_94) (sc_0 hS) rfl rfl ?_
      refine s_aload_n (dt_X_lay 8 _ _ _ rfl) rfl ?_
      refine s_getI (dt_X_lay 9 _ _ _ rfl) (kf_X_97) (sc_0 hS) rfl ?_
      refine s_iload_n (dt_X_lay 10 _ _ _ rfl) rfl ?_
      refine s_inv (y := y_X_put) (Y' := Y_X_put) (as := [VR (some 360), VI (M 0 16), VI a0]) (r := none) (M' := (putM M 360 8 (M 0 16) a0)) (kInvS (dt_X_lay 11 _ _ _ rfl) kst_X_put rfl) kl_X_288 md_X_put rfl rfl (c_X_put hS ⟨(sc_360 hS), by decide⟩ (M 0 16) a0 M) ?_
      refine s_letM (fun M1 => ?_)
      refine s_aload_n (dt_X_lay 12 _ _ _ rfl) rfl ?_
      refine s_dup (dt_X_lay 13 _ _ _ rfl) rfl ?_
      refine s_getI (dt_X_lay 14 _ _ _ rfl) (kf_X_97) (sc_0 hS) rfl ?_
      refine s_iconst (dt_X_lay 15 _ _ _ rfl) rfl ?_
      refine s_iadd (dt_X_lay 16 _ _ _ rfl) ?_
      refine s_putI (dt_X_lay 17 _ _ _ rfl) kp_X_97 (sc_0 hS) ⟨rfl, rfl⟩ ?_
      refine s_letM (fun M2 => ?_)
      exact s_mask [false, false] (s_ret0 rfl)
    · exact s_mask [false, false] (s_ret0 rfl)
  exact s_vret (dt_X_lay 18 _ _ _ rfl) rfl rfl
theorem c_X_lay {S : KS} (hS : KExt 382 S)  (a0 : Int) (M : KM) : ∀ q, f_X_lay a0 M = some q → Ctr y_X_lay Y_X_lay [VR (some 0), VI a0] S M (none) S (q) := fun q hq =>
  ctr_of md_X_lay (Nat.le_of_ble_eq_true rfl) ⟨Nat.le_refl _, Nat.le_refl _⟩ 0 hq rfl (fun _ G => sim_X_lay hS  a0 M)
noncomputable def f_X_safest  (M : KM) : Option (Int × KM) := letI_ (M 2 12) (fun v1 => Option.bind (whileO (σ := Int × KM) (ε := KM) (fun s2 => (if s2.1 ≤ s2.2 2 13 then Option.bind (f_X_oddsAt s2.1 s2.2) (fun q3 => letM_ (putM q3.2 346 151 s2.1 q3.1) (fun M4 => some (Sum.inl (w32 (s2.1 + 1), M4)))) else some (Sum.inr s2.2))) (v1, M)) (fun e5 => Option.bind (f_Safety_spread e5) (fun q6 => letM_ (mupd q6.2 0 16 0) (fun M7 => Option.bind (whileO (σ := Int × KM) (ε := KM) (fun s8 => (if s8.1 < s8.2 2 0 then Option.bind (f_X_isAlive s8.1 s8.2) (fun q9 => Option.bind ((if q9 = 0 then some (-1) else some (atM s8.2 347 8 s8.1)) : Option (Int)) (fun t10 => Option.bind (f_X_lay t10 s8.2) (fun q11 => some (Sum.inl (w32 (s8.1 + 1), q11))))) else some (Sum.inr s8.2))) (0, M7)) (fun e12 => some (q6.1, e12))))))
set_option maxRecDepth 100000 in
theorem sim_X_safest {G : Gam} {S : KS} (hS : KExt 382 S)   (M : KM) : Sim G Y_X_safest (f_X_safest  M) (kC 0 [some (VR (some 0)), none, none] [] S M) (fun (q : Int × KM) => Sum.inr (some (VI q.1), S, q.2)) := by
  unfold f_X_safest
  refine s_aload_n (dt_X_safest 0 _ _ _ rfl) rfl ?_
  refine s_getR (o := (some 2)) (dt_X_safest 1 _ _ _ rfl) (kf_X_20) (sc_0 hS) rfl rfl ?_
  refine s_getI (dt_X_safest 2 _ _ _ rfl) (kf_X_177) (sc_2 hS) rfl ?_
  refine s_letI (fun v1 => ?_)
  refine s_istore_n (dt_X_safest 3 _ _ _ rfl) rfl ?_
  refine s_bd (κ := (fun (e5 : KM) => kC 41 [some (VR (some 0)), none, none] [] S e5)) (s_mask [true, true, false] (s_while (c := fun s2 => kC 8 [some (VR (some 0)), some (VI s2.1), none] [] S s2.2) (fun s2 => ?_) (v1, M))) ?_
  · refine s_iload_n (dt_X_safest 4 _ _ _ rfl) rfl ?_
    refine s_aload_n (dt_X_safest 5 _ _ _ rfl) rfl ?_
    refine s_getR (o := (some 2)) (dt_X_safest 6 _ _ _ rfl) (kf_X_20) (sc_0 hS) rfl rfl ?_
    refine s_getI (dt_X_safest 7 _ _ _ rfl) (kf_X_180) (sc_2 hS) rfl ?_
    refine s_if_icmp_gt (tgt := 41) (dt_X_safest 8 _ _ _ rfl) rfl ?_ ?_
    · refine s_aload_n (dt_X_safest 9 _ _ _ rfl) rfl ?_
      refine s_getR (o := (some 345)) (dt_X_safest 10 _ _ _ rfl) (kf_X_76) (sc_0 hS) rfl rfl ?_
      refine s_getR (o := (some 346)) (dt_X_safest 11 _ _ _ rfl) (kf_X_341) (sc_345 hS) rfl rfl ?_
      refine s_iload_n (dt_X_safest 12 _ _ _ rfl) rfl ?_
      refine s_aload_n (dt_X_safest 13 _ _ _ rfl) rfl ?_
      refine s_iload_n (dt_X_safest 14 _ _ _ rfl) rfl ?_
      refine s_callO (y := y_X_oddsAt) (Y' := Y_X_oddsAt) (as := [VR (some 0), VI s2.1]) (r := fun q => some (VI q.1)) (M' := fun q => q.2) (kInvV (dt_X_safest 15 _ _ _ rfl) kin_X_oddsAt 0 rfl (sc_0 hS) kse_X_oddsAt rfl) kl_X_166 md_X_oddsAt rfl rfl (fun q hq => c_X_oddsAt hS s2.1 s2.2 q hq) (fun q3 => ?_)
      refine s_inv (y := y_X_put) (Y' := Y_X_put) (as := [VR (some 346), VI s2.1, VI q3.1]) (r := none) (M' := (putM q3.2 346 151 s2.1 q3.1)) (kInvS (dt_X_safest 16 _ _ _ rfl) kst_X_put rfl) kl_X_288 md_X_put rfl rfl (c_X_put hS ⟨(sc_346 hS), by decide⟩ s2.1 q3.1 q3.2) ?_
      refine s_letM (fun M4 => ?_)
      refine s_iinc (dt_X_safest 17 _ _ _ rfl) rfl rfl ?_
      refine s_goto (tgt := 8) (dt_X_safest 18 _ _ _ rfl) rfl ?_
      exact s_mask [true, true, false] (s_ret0 rfl)
    · exact s_mask [true, false, false] (s_ret0 rfl)
  intro e5
  refine s_aload_n (dt_X_safest 19 _ _ _ rfl) rfl ?_
  refine s_getR (o := (some 345)) (dt_X_safest 20 _ _ _ rfl) (kf_X_76) (sc_0 hS) rfl rfl ?_
  refine s_aload_n (dt_X_safest 21 _ _ _ rfl) rfl ?_
  refine s_getR (o := (some 2)) (dt_X_safest 22 _ _ _ rfl) (kf_X_20) (sc_0 hS) rfl rfl ?_
  refine s_aload_n (dt_X_safest 23 _ _ _ rfl) rfl ?_
  refine s_getR (o := (some 34)) (dt_X_safest 24 _ _ _ rfl) (kf_X_34) (sc_0 hS) rfl rfl ?_
  refine s_callO (y := y_Safety_spread) (Y' := Y_Safety_spread) (as := [VR (some 345), VR (some 2), VR (some 34)]) (r := fun q => some (VI q.1)) (M' := fun q => q.2) (kInvV (dt_X_safest 25 _ _ _ rfl) kin_Safety_spread 9 rfl (sc_345 hS) kse_Safety_spread rfl) kl_X_344 md_Safety_spread rfl rfl (fun q hq => c_Safety_spread hS e5 q hq) (fun q6 => ?_)
  refine s_istore_n (dt_X_safest 26 _ _ _ rfl) rfl ?_
  refine s_aload_n (dt_X_safest 27 _ _ _ rfl) rfl ?_
  refine s_iconst (dt_X_safest 28 _ _ _ rfl) rfl ?_
  refine s_putI (dt_X_safest 29 _ _ _ rfl) kp_X_97 (sc_0 hS) ⟨rfl, rfl⟩ ?_
  refine s_letM (fun M7 => ?_)
  refine s_iconst (dt_X_safest 30 _ _ _ rfl) rfl ?_
  refine s_istore_n (dt_X_safest 31 _ _ _ rfl) rfl ?_
  refine s_bd (κ := (fun (e12 : KM) => kC 108 [none, some (VI q6.1), none] [] S e12)) (s_mask [true, true, true] (s_while (c := fun s8 => kC 64 [some (VR (some 0)), some (VI q6.1), some (VI s8.1)] [] S s8.2) (fun s8 => ?_) (0, M7))) ?_
  · refine s_iload_n (dt_X_safest 32 _ _ _ rfl) rfl ?_
    refine s_aload_n (dt_X_safest 33 _ _ _ rfl) rfl ?_
    refine s_getR (o := (some 2)) (dt_X_safest 34 _ _ _ rfl) (kf_X_20) (sc_0 hS) rfl rfl ?_
    refine s_getI (dt_X_safest 35 _ _ _ rfl) (kf_X_124) (sc_2 hS) rfl ?_
    refine s_if_icmp_ge (tgt := 108) (dt_X_safest 36 _ _ _ rfl) rfl ?_ ?_
    · refine s_aload_n (dt_X_safest 37 _ _ _ rfl) rfl ?_
      refine s_aload_n (dt_X_safest 38 _ _ _ rfl) rfl ?_
      refine s_iload_n (dt_X_safest 39 _ _ _ rfl) rfl ?_
      refine s_callO (y := y_X_isAlive) (Y' := Y_X_isAlive) (as := [VR (some 0), VI s8.1]) (r := fun q => some (VI q)) (M' := fun q => s8.2) (kInvV (dt_X_safest 40 _ _ _ rfl) kin_X_isAlive 0 rfl (sc_0 hS) kse_X_isAlive rfl) kl_X_147 md_X_isAlive rfl rfl (fun q hq => c_X_isAlive hS s8.1 s8.2 q hq) (fun q9 => ?_)
      refine s_bd (κ := fun t10 => kC 99 [some (VR (some 0)), some (VI q6.1), some (VI s8.1)] [VI t10, VR (some 0)] S s8.2) ?_ (fun t10 => ?_)
      · refine s_if_eq (tgt := 98) (dt_X_safest 41 _ _ _ rfl) rfl ?_ ?_
        · refine s_iconst (dt_X_safest 48 _ _ _ rfl) rfl ?_
          exact s_mask [true, true, true] (s_ret0 rfl)
        · refine s_aload_n (dt_X_safest 42 _ _ _ rfl) rfl ?_
          refine s_getR (o := (some 345)) (dt_X_safest 43 _ _ _ rfl) (kf_X_76) (sc_0 hS) rfl rfl ?_
          refine s_getR (o := (some 347)) (dt_X_safest 44 _ _ _ rfl) (kf_X_348) (sc_345 hS) rfl rfl ?_
          refine s_iload_n (dt_X_safest 45 _ _ _ rfl) rfl ?_
          refine s_inv (y := y_X_at) (Y' := Y_X_at) (as := [VR (some 347), VI s8.1]) (r := some (VI (atM s8.2 347 8 s8.1))) (M' := s8.2) (kInvS (dt_X_safest 46 _ _ _ rfl) kst_X_at rfl) kl_X_140 md_X_at rfl rfl (c_X_at hS ⟨(sc_347 hS), by decide⟩ s8.1 s8.2) ?_
          refine s_goto (tgt := 99) (dt_X_safest 47 _ _ _ rfl) rfl ?_
          exact s_mask [true, true, true] (s_ret0 rfl)
      refine s_callO (y := y_X_lay) (Y' := Y_X_lay) (as := [VR (some 0), VI t10]) (r := fun q => none) (M' := fun q => q) (kInvV (dt_X_safest 49 _ _ _ rfl) kin_X_lay 0 rfl (sc_0 hS) kse_X_lay rfl) kl_X_351 md_X_lay rfl rfl (fun q hq => c_X_lay hS t10 s8.2 q hq) (fun q11 => ?_)
      refine s_iinc (dt_X_safest 50 _ _ _ rfl) rfl rfl ?_
      refine s_goto (tgt := 64) (dt_X_safest 51 _ _ _ rfl) rfl ?_
      exact s_mask [true, true, true] (s_ret0 rfl)
    · exact s_mask [false, true, false] (s_ret0 rfl)
  intro e12
  refine s_iload_n (dt_X_safest 52 _ _ _ rfl) rfl ?_
  exact s_iret (dt_X_safest 53 _ _ _ rfl) rfl rfl
theorem c_X_safest {S : KS} (hS : KExt 382 S)   (M : KM) : ∀ q, f_X_safest  M = some q → Ctr y_X_safest Y_X_safest [VR (some 0)] S M (some (VI q.1)) S (q.2) := fun q hq =>
  ctr_of md_X_safest (Nat.le_of_ble_eq_true rfl) ⟨Nat.le_refl _, Nat.le_refl _⟩ 2 hq rfl (fun _ G => sim_X_safest hS   M)
noncomputable def f_X_bends  (M : KM) : Option (Int × KM) := letI_ (w32 ((M 2 12) + 1)) (fun v1 => Option.bind (whileO (σ := Int × KM) (ε := KM ⊕ KM) (fun s2 => (if s2.1 < s2.2 2 13 then Option.bind (f_X_oddsAt s2.1 s2.2) (fun q3 => Option.bind (f_X_oddsAt (w32 (s2.1 - 1)) q3.2) (fun q4 => Option.bind (f_X_oddsAt (w32 (s2.1 + 1)) q4.2) (fun q5 => (if w32 (2 * q3.1) ≤ w32 (q4.1 + q5.1) then some (Sum.inl (w32 (s2.1 + 1), q5.2)) else some (Sum.inr (Sum.inl q5.2)))))) else some (Sum.inr (Sum.inr s2.2)))) (v1, M)) (Sum.elim (fun e6 => some (0, e6)) (fun e7 => some (1, e7))))
set_option maxRecDepth 100000 in
theorem sim_X_bends {G : Gam} {S : KS} (hS : KExt 382 S)   (M : KM) : Sim G Y_X_bends (f_X_bends  M) (kC 0 [some (VR (some 0)), none] [] S M) (fun (q : Int × KM) => Sum.inr (some (VI q.1), S, q.2)) := by
  unfold f_X_bends
  refine s_aload_n (dt_X_bends 0 _ _ _ rfl) rfl ?_
  refine s_getR (o := (some 2)) (dt_X_bends 1 _ _ _ rfl) (kf_X_20) (sc_0 hS) rfl rfl ?_
  refine s_getI (dt_X_bends 2 _ _ _ rfl) (kf_X_177) (sc_2 hS) rfl ?_
  refine s_iconst (dt_X_bends 3 _ _ _ rfl) rfl ?_
  refine s_iadd (dt_X_bends 4 _ _ _ rfl) ?_
  refine s_letI (fun v1 => ?_)
  refine s_istore_n (dt_X_bends 5 _ _ _ rfl) rfl ?_
  refine s_bd (κ := (Sum.elim (fun (e6 : KM) => kC 46 [none, none] [] S e6) (fun (e7 : KM) => kC 54 [none, none] [] S e7))) (s_mask [true, true] (s_while (c := fun s2 => kC 10 [some (VR (some 0)), some (VI s2.1)] [] S s2.2) (fun s2 => ?_) (v1, M))) ?_
  · refine s_iload_n (dt_X_bends 6 _ _ _ rfl) rfl ?_
    refine s_aload_n (dt_X_bends 7 _ _ _ rfl) rfl ?_
    refine s_getR (o := (some 2)) (dt_X_bends 8 _ _ _ rfl) (kf_X_20) (sc_0 hS) rfl rfl ?_
    refine s_getI (dt_X_bends 9 _ _ _ rfl) (kf_X_180) (sc_2 hS) rfl ?_
    refine s_if_icmp_ge (tgt := 54) (dt_X_bends 10 _ _ _ rfl) rfl ?_ ?_
    · refine s_iconst (dt_X_bends 11 _ _ _ rfl) rfl ?_
      refine s_aload_n (dt_X_bends 12 _ _ _ rfl) rfl ?_
      refine s_iload_n (dt_X_bends 13 _ _ _ rfl) rfl ?_
      refine s_callO (y := y_X_oddsAt) (Y' := Y_X_oddsAt) (as := [VR (some 0), VI s2.1]) (r := fun q => some (VI q.1)) (M' := fun q => q.2) (kInvV (dt_X_bends 14 _ _ _ rfl) kin_X_oddsAt 0 rfl (sc_0 hS) kse_X_oddsAt rfl) kl_X_166 md_X_oddsAt rfl rfl (fun q hq => c_X_oddsAt hS s2.1 s2.2 q hq) (fun q3 => ?_)
      refine s_imul (dt_X_bends 15 _ _ _ rfl) ?_
      refine s_aload_n (dt_X_bends 16 _ _ _ rfl) rfl ?_
      refine s_iload_n (dt_X_bends 17 _ _ _ rfl) rfl ?_
      refine s_iconst (dt_X_bends 18 _ _ _ rfl) rfl ?_
      refine s_isub (dt_X_bends 19 _ _ _ rfl) ?_
      refine s_callO (y := y_X_oddsAt) (Y' := Y_X_oddsAt) (as := [VR (some 0), VI (w32 (s2.1 - 1))]) (r := fun q => some (VI q.1)) (M' := fun q => q.2) (kInvV (dt_X_bends 20 _ _ _ rfl) kin_X_oddsAt 0 rfl (sc_0 hS) kse_X_oddsAt rfl) kl_X_166 md_X_oddsAt rfl rfl (fun q hq => c_X_oddsAt hS (w32 (s2.1 - 1)) q3.2 q hq) (fun q4 => ?_)
      refine s_aload_n (dt_X_bends 21 _ _ _ rfl) rfl ?_
      refine s_iload_n (dt_X_bends 22 _ _ _ rfl) rfl ?_
      refine s_iconst (dt_X_bends 23 _ _ _ rfl) rfl ?_
      refine s_iadd (dt_X_bends 24 _ _ _ rfl) ?_
      refine s_callO (y := y_X_oddsAt) (Y' := Y_X_oddsAt) (as := [VR (some 0), VI (w32 (s2.1 + 1))]) (r := fun q => some (VI q.1)) (M' := fun q => q.2) (kInvV (dt_X_bends 25 _ _ _ rfl) kin_X_oddsAt 0 rfl (sc_0 hS) kse_X_oddsAt rfl) kl_X_166 md_X_oddsAt rfl rfl (fun q hq => c_X_oddsAt hS (w32 (s2.1 + 1)) q4.2 q hq) (fun q5 => ?_)
      refine s_iadd (dt_X_bends 26 _ _ _ rfl) ?_
      refine s_if_icmp_le (tgt := 48) (dt_X_bends 27 _ _ _ rfl) rfl ?_ ?_
      · refine s_iinc (dt_X_bends 30 _ _ _ rfl) rfl rfl ?_
        refine s_goto (tgt := 10) (dt_X_bends 31 _ _ _ rfl) rfl ?_
        exact s_mask [true, true] (s_ret0 rfl)
      · exact s_mask [false, false] (s_ret0 rfl)
    · exact s_mask [false, false] (s_ret0 rfl)
  refine s_elim (fun e6 => ?_) ?_
  · refine s_iconst (dt_X_bends 28 _ _ _ rfl) rfl ?_
    exact s_zret01 (dt_X_bends 29 _ _ _ rfl) rfl rfl rfl
  intro e7
  refine s_iconst (dt_X_bends 32 _ _ _ rfl) rfl ?_
  exact s_zret01 (dt_X_bends 33 _ _ _ rfl) rfl rfl rfl
theorem c_X_bends {S : KS} (hS : KExt 382 S)   (M : KM) : ∀ q, f_X_bends  M = some q → Ctr y_X_bends Y_X_bends [VR (some 0)] S M (some (VI q.1)) S (q.2) := fun q hq =>
  ctr_of md_X_bends (Nat.le_of_ble_eq_true rfl) ⟨Nat.le_refl _, Nat.le_refl _⟩ 1 hq rfl (fun _ G => sim_X_bends hS   M)
noncomputable def f_X_fewestToHave (a0 : Int) (a1 : Int) (a2 : Int) (M : KM) : Option (Int × KM) := Option.bind (f_X_isAlive a0 M) (fun q1 => (if q1 = 0 then some (0, M) else Option.bind (f_X_hasNow a0 a1 M) (fun q2 => (if q2.1 = 0 then letI_ (atM q2.2 35 8 a0) (fun v3 => Option.bind (whileO (σ := Int × KM) (ε := (Int × KM) ⊕ KM) (fun s4 => (if s4.1 ≤ a2 then (if w32 (v3 + s4.1) ≤ s4.2 2 13 then Option.bind (f_X_wouldHave a0 a1 (w32 (v3 + s4.1)) s4.2) (fun q5 => (if q5.1 = 0 then some (Sum.inl (w32 (s4.1 + 1), q5.2)) else some (Sum.inr (Sum.inl (s4.1, q5.2))))) else some (Sum.inr (Sum.inr s4.2))) else some (Sum.inr (Sum.inr s4.2)))) (1, q2.2)) (Sum.elim (fun e6 => some (e6.1, e6.2)) (fun e7 => some (0, e7)))) else some (0, q2.2)))))
set_option maxRecDepth 100000 in
theorem sim_X_fewestToHave {G : Gam} {S : KS} (hS : KExt 382 S)  (a0 : Int) (a1 : Int) (a2 : Int) (M : KM) : Sim G Y_X_fewestToHave (f_X_fewestToHave a0 a1 a2 M) (kC 0 [some (VR (some 0)), some (VI a0), some (VI a1), some (VI a2), none, none] [] S M) (fun (q : Int × KM) => Sum.inr (some (VI q.1), S, q.2)) := by
  unfold f_X_fewestToHave
  refine s_aload_n (dt_X_fewestToHave 0 _ _ _ rfl) rfl ?_
  refine s_iload_n (dt_X_fewestToHave 1 _ _ _ rfl) rfl ?_
  refine s_callO (y := y_X_isAlive) (Y' := Y_X_isAlive) (as := [VR (some 0), VI a0]) (r := fun q => some (VI q)) (M' := fun q => M) (kInvV (dt_X_fewestToHave 2 _ _ _ rfl) kin_X_isAlive 0 rfl (sc_0 hS) kse_X_isAlive rfl) kl_X_147 md_X_isAlive rfl rfl (fun q hq => c_X_isAlive hS a0 M q hq) (fun q1 => ?_)
  refine s_if_eq (tgt := 17) (dt_X_fewestToHave 3 _ _ _ rfl) rfl ?_ ?_
  · refine s_iconst (dt_X_fewestToHave 9 _ _ _ rfl) rfl ?_
    exact s_iret (dt_X_fewestToHave 10 _ _ _ rfl) rfl rfl
  · refine s_aload_n (dt_X_fewestToHave 4 _ _ _ rfl) rfl ?_
    refine s_iload_n (dt_X_fewestToHave 5 _ _ _ rfl) rfl ?_
    refine s_iload_n (dt_X_fewestToHave 6 _ _ _ rfl) rfl ?_
    refine s_callO (y := y_X_hasNow) (Y' := Y_X_hasNow) (as := [VR (some 0), VI a0, VI a1]) (r := fun q => some (VI q.1)) (M' := fun q => q.2) (kInvV (dt_X_fewestToHave 7 _ _ _ rfl) kin_X_hasNow 0 rfl (sc_0 hS) kse_X_hasNow rfl) kl_X_159 md_X_hasNow rfl rfl (fun q hq => c_X_hasNow hS a0 a1 M q hq) (fun q2 => ?_)
    refine s_if_eq (tgt := 19) (dt_X_fewestToHave 8 _ _ _ rfl) rfl ?_ ?_
    · refine s_aload_n (dt_X_fewestToHave 11 _ _ _ rfl) rfl ?_
      refine s_getR (o := (some 34)) (dt_X_fewestToHave 12 _ _ _ rfl) (kf_X_34) (sc_0 hS) rfl rfl ?_
      refine s_getR (o := (some 35)) (dt_X_fewestToHave 13 _ _ _ rfl) (kf_X_137) (sc_34 hS) rfl rfl ?_
      refine s_iload_n (dt_X_fewestToHave 14 _ _ _ rfl) rfl ?_
      refine s_inv (y := y_X_at) (Y' := Y_X_at) (as := [VR (some 35), VI a0]) (r := some (VI (atM q2.2 35 8 a0))) (M' := q2.2) (kInvS (dt_X_fewestToHave 15 _ _ _ rfl) kst_X_at rfl) kl_X_140 md_X_at rfl rfl (c_X_at hS ⟨(sc_35 hS), by decide⟩ a0 q2.2) ?_
      refine s_letI (fun v3 => ?_)
      refine s_istore (dt_X_fewestToHave 16 _ _ _ rfl) rfl ?_
      refine s_iconst (dt_X_fewestToHave 17 _ _ _ rfl) rfl ?_
      refine s_istore (dt_X_fewestToHave 18 _ _ _ rfl) rfl ?_
      refine s_bd (κ := (Sum.elim (fun (e6 : Int × KM) => kC 70 [none, none, none, none, none, some (VI e6.1)] [] S e6.2) (fun (e7 : KM) => kC 79 [none, none, none, none, none, none] [] S e7))) (s_mask [true, true, true, true, true, true] (s_while (c := fun s4 => kC 35 [some (VR (some 0)), some (VI a0), some (VI a1), some (VI a2), some (VI v3), some (VI s4.1)] [] S s4.2) (fun s4 => ?_) (1, q2.2))) ?_
      · refine s_iload (dt_X_fewestToHave 19 _ _ _ rfl) rfl ?_
        refine s_iload_n (dt_X_fewestToHave 20 _ _ _ rfl) rfl ?_
        refine s_if_icmp_gt (tgt := 79) (dt_X_fewestToHave 21 _ _ _ rfl) rfl ?_ ?_
        · refine s_iload (dt_X_fewestToHave 22 _ _ _ rfl) rfl ?_
          refine s_iload (dt_X_fewestToHave 23 _ _ _ rfl) rfl ?_
          refine s_iadd (dt_X_fewestToHave 24 _ _ _ rfl) ?_
          refine s_aload_n (dt_X_fewestToHave 25 _ _ _ rfl) rfl ?_
          refine s_getR (o := (some 2)) (dt_X_fewestToHave 26 _ _ _ rfl) (kf_X_20) (sc_0 hS) rfl rfl ?_
          refine s_getI (dt_X_fewestToHave 27 _ _ _ rfl) (kf_X_180) (sc_2 hS) rfl ?_
          refine s_if_icmp_gt (tgt := 79) (dt_X_fewestToHave 28 _ _ _ rfl) rfl ?_ ?_
          · refine s_aload_n (dt_X_fewestToHave 29 _ _ _ rfl) rfl ?_
            refine s_iload_n (dt_X_fewestToHave 30 _ _ _ rfl) rfl ?_
            refine s_iload_n (dt_X_fewestToHave 31 _ _ _ rfl) rfl ?_
            refine s_iload (dt_X_fewestToHave 32 _ _ _ rfl) rfl ?_
            refine s_iload (dt_X_fewestToHave 33 _ _ _ rfl) rfl ?_
            refine s_iadd (dt_X_fewestToHave 34 _ _ _ rfl) ?_
            refine s_callO (y := y_X_wouldHave) (Y' := Y_X_wouldHave) (as := [VR (some 0), VI a0, VI a1, VI (w32 (v3 + s4.1))]) (r := fun q => some (VI q.1)) (M' := fun q => q.2) (kInvV (dt_X_fewestToHave 35 _ _ _ rfl) kin_X_wouldHave 0 rfl (sc_0 hS) kse_X_wouldHave rfl) kl_X_189 md_X_wouldHave rfl rfl (fun q hq => c_X_wouldHave hS a0 a1 (w32 (v3 + s4.1)) s4.2 q hq) (fun q5 => ?_)
            refine s_if_eq (tgt := 73) (dt_X_fewestToHave 36 _ _ _ rfl) rfl ?_ ?_
            · refine s_iinc (dt_X_fewestToHave 39 _ _ _ rfl) rfl rfl ?_
              refine s_goto (tgt := 35) (dt_X_fewestToHave 40 _ _ _ rfl) rfl ?_
              exact s_mask [true, true, true, true, true, true] (s_ret0 rfl)
            · exact s_mask [false, false, false, false, false, true] (s_ret0 rfl)
          · exact s_mask [false, false, false, false, false, false] (s_ret0 rfl)
        · exact s_mask [false, false, false, false, false, false] (s_ret0 rfl)
      refine s_elim (fun e6 => ?_) ?_
      · refine s_iload (dt_X_fewestToHave 37 _ _ _ rfl) rfl ?_
        exact s_iret (dt_X_fewestToHave 38 _ _ _ rfl) rfl rfl
      intro e7
      refine s_iconst (dt_X_fewestToHave 41 _ _ _ rfl) rfl ?_
      exact s_iret (dt_X_fewestToHave 42 _ _ _ rfl) rfl rfl
    · refine s_iconst (dt_X_fewestToHave 9 _ _ _ rfl) rfl ?_
      exact s_iret (dt_X_fewestToHave 10 _ _ _ rfl) rfl rfl
theorem c_X_fewestToHave {S : KS} (hS : KExt 382 S)  (a0 : Int) (a1 : Int) (a2 : Int) (M : KM) : ∀ q, f_X_fewestToHave a0 a1 a2 M = some q → Ctr y_X_fewestToHave Y_X_fewestToHave [VR (some 0), VI a0, VI a1, VI a2] S M (some (VI q.1)) S (q.2) := fun q hq =>
  ctr_of md_X_fewestToHave (Nat.le_of_ble_eq_true rfl) ⟨Nat.le_refl _, Nat.le_refl _⟩ 2 hq rfl (fun _ G => sim_X_fewestToHave hS  a0 a1 a2 M)
noncomputable def f_X_twice (a0 : Int) (M : KM) : Option (Int × KM) := letM_ (mupd M 0 16 0) (fun M1 => Option.bind (f_X_isRight a0 M1) (fun q2 => (if q2 = 0 then some ((-1), M1) else Option.bind (whileO (σ := Int × Int × KM) (ε := (Int × KM)) (fun s3 => (if s3.2.1 < s3.2.2 2 5 then letI_ (atM s3.2.2 7 20 s3.2.1) (fun v4 => letI_ (atM s3.2.2 8 20 s3.2.1) (fun v5 => letI_ (min 99 (w32 ((atM s3.2.2 35 8 v4) - (s3.2.2 2 12)))) (fun v6 => Option.bind (f_X_hasNow v4 a0 s3.2.2) (fun q7 => Option.bind ((if q7.1 = 0 then some (0, q7.2) else Option.bind (f_X_fewestToHave v5 a0 v6 q7.2) (fun q8 => some (q8.1, q8.2))) : Option (Int × KM)) (fun t9 => Option.bind ((if t9.1 ≤ 0 then some (s3.1, t9.2) else Option.bind ((if s3.1 = 0 then Option.bind (f_X_lay v4 t9.2) (fun q10 => Option.bind (f_X_lay v5 q10) (fun q11 => Option.bind (f_X_lay t9.1 q11) (fun q12 => some q12))) else some t9.2) : Option (KM)) (fun t13 => some (w32 (s3.1 + 1), t13))) : Option (Int × KM)) (fun t14 => some (Sum.inl (t14.1, w32 (s3.2.1 + 1), t14.2)))))))) else some (Sum.inr (s3.1, s3.2.2)))) (0, 0, M1)) (fun e15 => some (e15.1, e15.2)))))
set_option maxRecDepth 100000 in
theorem sim_X_twice {G : Gam} {S : KS} (hS : KExt 382 S)  (a0 : Int) (M : KM) : Sim G Y_X_twice (f_X_twice a0 M) (kC 0 [some (VR (some 0)), some (VI a0), none, none, none, none, none, none] [] S M) (fun (q : Int × KM) => Sum.inr (some (VI q.1), S, q.2)) := by
  unfold f_X_twice
  refine s_aload_n (dt_X_twice 0 _ _ _ rfl) rfl ?_
  refine s_iconst (dt_X_twice 1 _ _ _ rfl) rfl ?_
  refine s_putI (dt_X_twice 2 _ _ _ rfl) kp_X_97 (sc_0 hS) ⟨rfl, rfl⟩ ?_
  refine s_letM (fun M1 => ?_)
  refine s_aload_n (dt_X_twice 3 _ _ _ rfl) rfl ?_
  refine s_iload_n (dt_X_twice 4 _ _ _ rfl) rfl ?_
  refine s_callO (y := y_X_isRight) (Y' := Y_X_isRight) (as := [VR (some 0), VI a0]) (r := fun q => some (VI q)) (M' := fun q => M1) (kInvV (dt_X_twice 5 _ _ _ rfl) kin_X_isRight 0 rfl (sc_0 hS) kse_X_isRight rfl) kl_X_156 md_X_isRight rfl rfl (fun q hq => c_X_isRight hS a0 M1 q hq) (fun q2 => ?_)
  refine s_if_ne (tgt := 15) (dt_X_twice 6 _ _ _ rfl) rfl ?_ ?_
  · refine s_iconst (dt_X_twice 7 _ _ _ rfl) rfl ?_
    exact s_iret (dt_X_twice 8 _ _ _ rfl) rfl rfl
  · refine s_iconst (dt_X_twice 9 _ _ _ rfl) rfl ?_
    refine s_istore_n (dt_X_twice 10 _ _ _ rfl) rfl ?_
    refine s_iconst (dt_X_twice 11 _ _ _ rfl) rfl ?_
    refine s_istore_n (dt_X_twice 12 _ _ _ rfl) rfl ?_
    refine s_bd (κ := (fun (e15 : Int × KM) => kC 144 [none, none, some (VI e15.1), none, none, none, none, none] [] S e15.2)) (s_mask [true, true, true, true, false, false, false, false] (s_while (c := fun s3 => kC 19 [some (VR (some 0)), some (VI a0), some (VI s3.1), some (VI s3.2.1), none, none, none, none] [] S s3.2.2) (fun s3 => ?_) (0, 0, M1))) ?_
    · refine s_iload_n (dt_X_twice 13 _ _ _ rfl) rfl ?_
      refine s_aload_n (dt_X_twice 14 _ _ _ rfl) rfl ?_
      refine s_getR (o := (some 2)) (dt_X_twice 15 _ _ _ rfl) (kf_X_20) (sc_0 hS) rfl rfl ?_
      refine s_getI (dt_X_twice 16 _ _ _ rfl) (kf_X_354) (sc_2 hS) rfl ?_
      refine s_if_icmp_ge (tgt := 144) (dt_X_twice 17 _ _ _ rfl) rfl ?_ ?_
      · refine s_aload_n (dt_X_twice 18 _ _ _ rfl) rfl ?_
        refine s_getR (o := (some 2)) (dt_X_twice 19 _ _ _ rfl) (kf_X_20) (sc_0 hS) rfl rfl ?_
        refine s_getR (o := (some 7)) (dt_X_twice 20 _ _ _ rfl) (kf_X_357) (sc_2 hS) rfl rfl ?_
        refine s_iload_n (dt_X_twice 21 _ _ _ rfl) rfl ?_
        refine s_inv (y := y_X_at) (Y' := Y_X_at) (as := [VR (some 7), VI s3.2.1]) (r := some (VI (atM s3.2.2 7 20 s3.2.1))) (M' := s3.2.2) (kInvS (dt_X_twice 22 _ _ _ rfl) kst_X_at rfl) kl_X_140 md_X_at rfl rfl (c_X_at hS ⟨(sc_7 hS), by decide⟩ s3.2.1 s3.2.2) ?_
        refine s_letI (fun v4 => ?_)
        refine s_istore (dt_X_twice 23 _ _ _ rfl) rfl ?_
        refine s_aload_n (dt_X_twice 24 _ _ _ rfl) rfl ?_
        refine s_getR (o := (some 2)) (dt_X_twice 25 _ _ _ rfl) (kf_X_20) (sc_0 hS) rfl rfl ?_
        refine s_getR (o := (some 8)) (dt_X_twice 26 _ _ _ rfl) (kf_X_360) (sc_2 hS) rfl rfl ?_
        refine s_iload_n (dt_X_twice 27 _ _ _ rfl) rfl ?_
        refine s_inv (y := y_X_at) (Y' := Y_X_at) (as := [VR (some 8), VI s3.2.1]) (r := some (VI (atM s3.2.2 8 20 s3.2.1))) (M' := s3.2.2) (kInvS (dt_X_twice 28 _ _ _ rfl) kst_X_at rfl) kl_X_140 md_X_at rfl rfl (c_X_at hS ⟨(sc_8 hS), by decide⟩ s3.2.1 s3.2.2) ?_
        refine s_letI (fun v5 => ?_)
        refine s_istore (dt_X_twice 29 _ _ _ rfl) rfl ?_
        refine s_bipush (dt_X_twice 30 _ _ _ rfl) rfl ?_
        refine s_aload_n (dt_X_twice 31 _ _ _ rfl) rfl ?_
        refine s_getR (o := (some 34)) (dt_X_twice 32 _ _ _ rfl) (kf_X_34) (sc_0 hS) rfl rfl ?_
        refine s_getR (o := (some 35)) (dt_X_twice 33 _ _ _ rfl) (kf_X_137) (sc_34 hS) rfl rfl ?_
        refine s_iload (dt_X_twice 34 _ _ _ rfl) rfl ?_
        refine s_inv (y := y_X_at) (Y' := Y_X_at) (as := [VR (some 35), VI v4]) (r := some (VI (atM s3.2.2 35 8 v4))) (M' := s3.2.2) (kInvS (dt_X_twice 35 _ _ _ rfl) kst_X_at rfl) kl_X_140 md_X_at rfl rfl (c_X_at hS ⟨(sc_35 hS), by decide⟩ v4 s3.2.2) ?_
        refine s_aload_n (dt_X_twice 36 _ _ _ rfl) rfl ?_
        refine s_getR (o := (some 2)) (dt_X_twice 37 _ _ _ rfl) (kf_X_20) (sc_0 hS) rfl rfl ?_
        refine s_getI (dt_X_twice 38 _ _ _ rfl) (kf_X_177) (sc_2 hS) rfl ?_
        refine s_isub (dt_X_twice 39 _ _ _ rfl) ?_
        refine s_mmin (dt_X_twice 40 _ _ _ rfl) kj_X_212 rfl ?_
        refine s_letI (fun v6 => ?_)
        refine s_istore (dt_X_twice 41 _ _ _ rfl) rfl ?_
        refine s_aload_n (dt_X_twice 42 _ _ _ rfl) rfl ?_
        refine s_iload (dt_X_twice 43 _ _ _ rfl) rfl ?_
        refine s_iload_n (dt_X_twice 44 _ _ _ rfl) rfl ?_
        refine s_callO (y := y_X_hasNow) (Y' := Y_X_hasNow) (as := [VR (some 0), VI v4, VI a0]) (r := fun q => some (VI q.1)) (M' := fun q => q.2) (kInvV (dt_X_twice 45 _ _ _ rfl) kin_X_hasNow 0 rfl (sc_0 hS) kse_X_hasNow rfl) kl_X_159 md_X_hasNow rfl rfl (fun q hq => c_X_hasNow hS v4 a0 s3.2.2 q hq) (fun q7 => ?_)
        refine s_bd (κ := fun t9 => kC 106 [some (VR (some 0)), some (VI a0), some (VI s3.1), some (VI s3.2.1), some (VI v4), some (VI v5), none, none] [VI t9.1] S t9.2) ?_ (fun t9 => ?_)
        · refine s_if_eq (tgt := 105) (dt_X_twice 46 _ _ _ rfl) rfl ?_ ?_
          · refine s_iconst (dt_X_twice 53 _ _ _ rfl) rfl ?_
            exact s_mask [true, true, true, true, true, true, false, false] (s_ret0 rfl)
          · refine s_aload_n (dt_X_twice 47 _ _ _ rfl) rfl ?_
            refine s_iload (dt_X_twice 48 _ _ _ rfl) rfl ?_
            refine s_iload_n (dt_X_twice 49 _ _ _ rfl) rfl ?_
            refine s_iload (dt_X_twice 50 _ _ _ rfl) rfl ?_
            refine s_callO (y := y_X_fewestToHave) (Y' := Y_X_fewestToHave) (as := [VR (some 0), VI v5, VI a0, VI v6]) (r := fun q => some (VI q.1)) (M' := fun q => q.2) (kInvV (dt_X_twice 51 _ _ _ rfl) kin_X_fewestToHave 0 rfl (sc_0 hS) kse_X_fewestToHave rfl) kl_X_363 md_X_fewestToHave rfl rfl (fun q hq => c_X_fewestToHave hS v5 a0 v6 q7.2 q hq) (fun q8 => ?_)
            refine s_goto (tgt := 106) (dt_X_twice 52 _ _ _ rfl) rfl ?_
            exact s_mask [true, true, true, true, true, true, false, false] (s_ret0 rfl)
        refine s_istore (dt_X_twice 54 _ _ _ rfl) rfl ?_
        refine s_iload (dt_X_twice 55 _ _ _ rfl) rfl ?_
        refine s_bd (κ := fun t14 => kC 138 [some (VR (some 0)), some (VI a0), some (VI t14.1), some (VI s3.2.1), none, none, none, none] [] S t14.2) ?_ (fun t14 => ?_)
        · refine s_if_le (tgt := 138) (dt_X_twice 56 _ _ _ rfl) rfl ?_ ?_
          · exact s_mask [true, true, true, true, false, false, false, false] (s_ret0 rfl)
          · refine s_iload_n (dt_X_twice 57 _ _ _ rfl) rfl ?_
            refine s_bd (κ := fun t13 => kC 135 [some (VR (some 0)), some (VI a0), some (VI s3.1), some (VI s3.2.1), none, none, none, none] [] S t13) ?_ (fun t13 => ?_)
            · refine s_if_ne (tgt := 135) (dt_X_twice 58 _ _ _ rfl) rfl ?_ ?_
              · refine s_aload_n (dt_X_twice 59 _ _ _ rfl) rfl ?_
                refine s_iload (dt_X_twice 60 _ _ _ rfl) rfl ?_
                refine s_callO (y := y_X_lay) (Y' := Y_X_lay) (as := [VR (some 0), VI v4]) (r := fun q => none) (M' := fun q => q) (kInvV (dt_X_twice 61 _ _ _ rfl) kin_X_lay 0 rfl (sc_0 hS) kse_X_lay rfl) kl_X_351 md_X_lay rfl rfl (fun q hq => c_X_lay hS v4 t9.2 q hq) (fun q10 => ?_)
                refine s_aload_n (dt_X_twice 62 _ _ _ rfl) rfl ?_
                refine s_iload (dt_X_twice 63 _ _ _ rfl) rfl ?_
                refine s_callO (y := y_X_lay) (Y' := Y_X_lay) (as := [VR (some 0), VI v5]) (r := fun q => none) (M' := fun q => q) (kInvV (dt_X_twice 64 _ _ _ rfl) kin_X_lay 0 rfl (sc_0 hS) kse_X_lay rfl) kl_X_351 md_X_lay rfl rfl (fun q hq => c_X_lay hS v5 q10 q hq) (fun q11 => ?_)
                refine s_aload_n (dt_X_twice 65 _ _ _ rfl) rfl ?_
                refine s_iload (dt_X_twice 66 _ _ _ rfl) rfl ?_
                refine s_callO (y := y_X_lay) (Y' := Y_X_lay) (as := [VR (some 0), VI t9.1]) (r := fun q => none) (M' := fun q => q) (kInvV (dt_X_twice 67 _ _ _ rfl) kin_X_lay 0 rfl (sc_0 hS) kse_X_lay rfl) kl_X_351 md_X_lay rfl rfl (fun q hq => c_X_lay hS t9.1 q11 q hq) (fun q12 => ?_)
                exact s_mask [true, true, true, true, false, false, false, false] (s_ret0 rfl)
              · exact s_mask [true, true, true, true, false, false, false, false] (s_ret0 rfl)
            refine s_iinc (dt_X_twice 68 _ _ _ rfl) rfl rfl ?_
            exact s_mask [true, true, true, true, false, false, false, false] (s_ret0 rfl)
        refine s_iinc (dt_X_twice 69 _ _ _ rfl) rfl rfl ?_
        refine s_goto (tgt := 19) (dt_X_twice 70 _ _ _ rfl) rfl ?_
        exact s_mask [true, true, true, true, false, false, false, false] (s_ret0 rfl)
      · exact s_mask [false, false, true, false, false, false, false, false] (s_ret0 rfl)
    intro e15
    refine s_iload_n (dt_X_twice 71 _ _ _ rfl) rfl ?_
    exact s_iret (dt_X_twice 72 _ _ _ rfl) rfl rfl
theorem c_X_twice {S : KS} (hS : KExt 382 S)  (a0 : Int) (M : KM) : ∀ q, f_X_twice a0 M = some q → Ctr y_X_twice Y_X_twice [VR (some 0), VI a0] S M (some (VI q.1)) S (q.2) := fun q hq =>
  ctr_of md_X_twice (Nat.le_of_ble_eq_true rfl) ⟨Nat.le_refl _, Nat.le_refl _⟩ 6 hq rfl (fun _ G => sim_X_twice hS  a0 M)
noncomputable def f_X_familyAlive (a0 : Int) (M : KM) : Option (Int) := Option.bind (whileO (σ := Int × Int) (ε := Int) (fun s1 => (if s1.2 < M 2 0 then Option.bind (f_X_isAlive s1.2 M) (fun q2 => Option.bind ((if q2 = 0 then some s1.1 else (if atM M 6 8 s1.2 = a0 then letI_ (kior s1.1 (kishl 1 s1.2)) (fun v3 => some v3) else some s1.1)) : Option (Int)) (fun t4 => some (Sum.inl (t4, w32 (s1.2 + 1))))) else some (Sum.inr s1.1))) (0, 0)) (fun e5 => some e5)
set_option maxRecDepth 100000 in
theorem sim_X_familyAlive {G : Gam} {S : KS} (hS : KExt 382 S)  (a0 : Int) (M : KM) : Sim G Y_X_familyAlive (f_X_familyAlive a0 M) (kC 0 [some (VR (some 0)), some (VI a0), none, none] [] S M) (fun (q : Int) => Sum.inr (some (VI q), S, M)) := by
  unfold f_X_familyAlive
  refine s_iconst (dt_X_familyAlive 0 _ _ _ rfl) rfl ?_
  refine s_istore_n (dt_X_familyAlive 1 _ _ _ rfl) rfl ?_
  refine s_iconst (dt_X_familyAlive 2 _ _ _ rfl) rfl ?_
  refine s_istore_n (dt_X_familyAlive 3 _ _ _ rfl) rfl ?_
  refine s_bd (κ := (fun (e5 : Int) => kC 50 [none, none, some (VI e5), none] [] S M)) (s_mask [true, true, true, true] (s_while (c := fun s1 => kC 4 [some (VR (some 0)), some (VI a0), some (VI s1.1), some (VI s1.2)] [] S M) (fun s1 => ?_) (0, 0))) ?_
  · refine s_iload_n (dt_X_familyAlive 4 _ _ _ rfl) rfl ?_
    refine s_aload_n (dt_X_familyAlive 5 _ _ _ rfl) rfl ?_
    refine s_getR (o := (some 2)) (dt_X_familyAlive 6 _ _ _ rfl) (kf_X_20) (sc_0 hS) rfl rfl ?_
    refine s_getI (dt_X_familyAlive 7 _ _ _ rfl) (kf_X_124) (sc_2 hS) rfl ?_
    refine s_if_icmp_ge (tgt := 50) (dt_X_familyAlive 8 _ _ _ rfl) rfl ?_ ?_
    · refine s_aload_n (dt_X_familyAlive 9 _ _ _ rfl) rfl ?_
      refine s_iload_n (dt_X_familyAlive 10 _ _ _ rfl) rfl ?_
      refine s_callO (y := y_X_isAlive) (Y' := Y_X_isAlive) (as := [VR (some 0), VI s1.2]) (r := fun q => some (VI q)) (M' := fun q => M) (kInvV (dt_X_familyAlive 11 _ _ _ rfl) kin_X_isAlive 0 rfl (sc_0 hS) kse_X_isAlive rfl) kl_X_147 md_X_isAlive rfl rfl (fun q hq => c_X_isAlive hS s1.2 M q hq) (fun q2 => ?_)
      refine s_bd (κ := fun t4 => kC 44 [some (VR (some 0)), some (VI a0), some (VI t4), some (VI s1.2)] [] S M) ?_ (fun t4 => ?_)
      · refine s_if_eq (tgt := 44) (dt_X_familyAlive 12 _ _ _ rfl) rfl ?_ ?_
        · exact s_mask [true, true, true, true] (s_ret0 rfl)
        · refine s_aload_n (dt_X_familyAlive 13 _ _ _ rfl) rfl ?_
          refine s_getR (o := (some 2)) (dt_X_familyAlive 14 _ _ _ rfl) (kf_X_20) (sc_0 hS) rfl rfl ?_
          refine s_getR (o := (some 6)) (dt_X_familyAlive 15 _ _ _ rfl) (kf_X_153) (sc_2 hS) rfl rfl ?_
          refine s_iload_n (dt_X_familyAlive 16 _ _ _ rfl) rfl ?_
          refine s_inv (y := y_X_at) (Y' := Y_X_at) (as := [VR (some 6), VI s1.2]) (r := some (VI (atM M 6 8 s1.2))) (M' := M) (kInvS (dt_X_familyAlive 17 _ _ _ rfl) kst_X_at rfl) kl_X_140 md_X_at rfl rfl (c_X_at hS ⟨(sc_6 hS), by decide⟩ s1.2 M) ?_
          refine s_iload_n (dt_X_familyAlive 18 _ _ _ rfl) rfl ?_
          refine s_if_icmp_ne (tgt := 44) (dt_X_familyAlive 19 _ _ _ rfl) rfl ?_ ?_
          · refine s_iload_n (dt_X_familyAlive 20 _ _ _ rfl) rfl ?_
            refine s_iconst (dt_X_familyAlive 21 _ _ _ rfl) rfl ?_
            refine s_iload_n (dt_X_familyAlive 22 _ _ _ rfl) rfl ?_
            refine s_ishl (dt_X_familyAlive 23 _ _ _ rfl) ?_
            refine s_ior (dt_X_familyAlive 24 _ _ _ rfl) ?_
            refine s_letI (fun v3 => ?_)
            refine s_istore_n (dt_X_familyAlive 25 _ _ _ rfl) rfl ?_
            exact s_mask [true, true, true, true] (s_ret0 rfl)
          · exact s_mask [true, true, true, true] (s_ret0 rfl)
      refine s_iinc (dt_X_familyAlive 26 _ _ _ rfl) rfl rfl ?_
      refine s_goto (tgt := 4) (dt_X_familyAlive 27 _ _ _ rfl) rfl ?_
      exact s_mask [true, true, true, true] (s_ret0 rfl)
    · exact s_mask [false, false, true, false] (s_ret0 rfl)
  intro e5
  refine s_iload_n (dt_X_familyAlive 28 _ _ _ rfl) rfl ?_
  exact s_iret (dt_X_familyAlive 29 _ _ _ rfl) rfl rfl
theorem c_X_familyAlive {S : KS} (hS : KExt 382 S)  (a0 : Int) (M : KM) : ∀ q, f_X_familyAlive a0 M = some q → Ctr y_X_familyAlive Y_X_familyAlive [VR (some 0), VI a0] S M (some (VI q)) S (M) := fun q hq =>
  ctr_of md_X_familyAlive (Nat.le_of_ble_eq_true rfl) ⟨Nat.le_refl _, Nat.le_refl _⟩ 2 hq rfl (fun _ G => sim_X_familyAlive hS  a0 M)
noncomputable def f_X_olderThan (a0 : Int) (a1 : Int) (M : KM) : Option (Int) := Option.bind (whileO (σ := Int × Int) (ε := Int) (fun s1 => (if s1.2 < M 2 0 then letI_ (w32 ((atM M 35 8 s1.2) - (atM M 35 8 a0))) (fun v2 => Option.bind ((if isInV a1 s1.2 = 0 then some s1.1 else (if v2 ≤ 0 then (if v2 = 0 then (if s1.2 < a0 then some (w32 (s1.1 + 1)) else some s1.1) else some s1.1) else some (w32 (s1.1 + 1)))) : Option (Int)) (fun t3 => some (Sum.inl (t3, w32 (s1.2 + 1))))) else some (Sum.inr s1.1))) (0, 0)) (fun e4 => some e4)
set_option maxRecDepth 100000 in
theorem sim_X_olderThan {G : Gam} {S : KS} (hS : KExt 382 S)  (a0 : Int) (a1 : Int) (M : KM) : Sim G Y_X_olderThan (f_X_olderThan a0 a1 M) (kC 0 [some (VR (some 0)), some (VI a0), some (VI a1), none, none, none] [] S M) (fun (q : Int) => Sum.inr (some (VI q), S, M)) := by
  unfold f_X_olderThan
  refine s_iconst (dt_X_olderThan 0 _ _ _ rfl) rfl ?_
  refine s_istore_n (dt_X_olderThan 1 _ _ _ rfl) rfl ?_
  refine s_iconst (dt_X_olderThan 2 _ _ _ rfl) rfl ?_
  refine s_istore (dt_X_olderThan 3 _ _ _ rfl) rfl ?_
  refine s_bd (κ := (fun (e4 : Int) => kC 77 [none, none, none, some (VI e4), none, none] [] S M)) (s_mask [true, true, true, true, true, false] (s_while (c := fun s1 => kC 5 [some (VR (some 0)), some (VI a0), some (VI a1), some (VI s1.1), some (VI s1.2), none] [] S M) (fun s1 => ?_) (0, 0))) ?_
  · refine s_iload (dt_X_olderThan 4 _ _ _ rfl) rfl ?_
    refine s_aload_n (dt_X_olderThan 5 _ _ _ rfl) rfl ?_
    refine s_getR (o := (some 2)) (dt_X_olderThan 6 _ _ _ rfl) (kf_X_20) (sc_0 hS) rfl rfl ?_
    refine s_getI (dt_X_olderThan 7 _ _ _ rfl) (kf_X_124) (sc_2 hS) rfl ?_
    refine s_if_icmp_ge (tgt := 77) (dt_X_olderThan 8 _ _ _ rfl) rfl ?_ ?_
    · refine s_aload_n (dt_X_olderThan 9 _ _ _ rfl) rfl ?_
      refine s_getR (o := (some 34)) (dt_X_olderThan 10 _ _ _ rfl) (kf_X_34) (sc_0 hS) rfl rfl ?_
      refine s_getR (o := (some 35)) (dt_X_olderThan 11 _ _ _ rfl) (kf_X_137) (sc_34 hS) rfl rfl ?_
      refine s_iload (dt_X_olderThan 12 _ _ _ rfl) rfl ?_
      refine s_inv (y := y_X_at) (Y' := Y_X_at) (as := [VR (some 35), VI s1.2]) (r := some (VI (atM M 35 8 s1.2))) (M' := M) (kInvS (dt_X_olderThan 13 _ _ _ rfl) kst_X_at rfl) kl_X_140 md_X_at rfl rfl (c_X_at hS ⟨(sc_35 hS), by decide⟩ s1.2 M) ?_
      refine s_aload_n (dt_X_olderThan 14 _ _ _ rfl) rfl ?_
      refine s_getR (o := (some 34)) (dt_X_olderThan 15 _ _ _ rfl) (kf_X_34) (sc_0 hS) rfl rfl ?_
      refine s_getR (o := (some 35)) (dt_X_olderThan 16 _ _ _ rfl) (kf_X_137) (sc_34 hS) rfl rfl ?_
      refine s_iload_n (dt_X_olderThan 17 _ _ _ rfl) rfl ?_
      refine s_inv (y := y_X_at) (Y' := Y_X_at) (as := [VR (some 35), VI a0]) (r := some (VI (atM M 35 8 a0))) (M' := M) (kInvS (dt_X_olderThan 18 _ _ _ rfl) kst_X_at rfl) kl_X_140 md_X_at rfl rfl (c_X_at hS ⟨(sc_35 hS), by decide⟩ a0 M) ?_
      refine s_isub (dt_X_olderThan 19 _ _ _ rfl) ?_
      refine s_letI (fun v2 => ?_)
      refine s_istore (dt_X_olderThan 20 _ _ _ rfl) rfl ?_
      refine s_iload_n (dt_X_olderThan 21 _ _ _ rfl) rfl ?_
      refine s_iload (dt_X_olderThan 22 _ _ _ rfl) rfl ?_
      refine s_inv (y := y_X_isIn) (Y' := Y_X_isIn) (as := [VI a1, VI s1.2]) (r := some (VI (isInV a1 s1.2))) (M' := M) (kInvS (dt_X_olderThan 23 _ _ _ rfl) kst_X_isIn rfl) kl_X_186 md_X_isIn rfl rfl (c_X_isIn hS a1 s1.2 M) ?_
      refine s_bd (κ := fun t3 => kC 71 [some (VR (some 0)), some (VI a0), some (VI a1), some (VI t3), some (VI s1.2), none] [] S M) ?_ (fun t3 => ?_)
      · refine s_if_eq (tgt := 71) (dt_X_olderThan 24 _ _ _ rfl) rfl ?_ ?_
        · exact s_mask [true, true, true, true, true, false] (s_ret0 rfl)
        · refine s_iload (dt_X_olderThan 25 _ _ _ rfl) rfl ?_
          refine s_if_gt (tgt := 68) (dt_X_olderThan 26 _ _ _ rfl) rfl ?_ ?_
          · refine s_iload (dt_X_olderThan 27 _ _ _ rfl) rfl ?_
            refine s_if_ne (tgt := 71) (dt_X_olderThan 28 _ _ _ rfl) rfl ?_ ?_
            · refine s_iload (dt_X_olderThan 29 _ _ _ rfl) rfl ?_
              refine s_iload_n (dt_X_olderThan 30 _ _ _ rfl) rfl ?_
              refine s_if_icmp_ge (tgt := 71) (dt_X_olderThan 31 _ _ _ rfl) rfl ?_ ?_
              · refine s_iinc (dt_X_olderThan 32 _ _ _ rfl) rfl rfl ?_
                exact s_mask [true, true, true, true, true, false] (s_ret0 rfl)
              · exact s_mask [true, true, true, true, true, false] (s_ret0 rfl)
            · exact s_mask [true, true, true, true, true, false] (s_ret0 rfl)
          · refine s_iinc (dt_X_olderThan 32 _ _ _ rfl) rfl rfl ?_
            exact s_mask [true, true, true, true, true, false] (s_ret0 rfl)
      refine s_iinc (dt_X_olderThan 33 _ _ _ rfl) rfl rfl ?_
      refine s_goto (tgt := 5) (dt_X_olderThan 34 _ _ _ rfl) rfl ?_
      exact s_mask [true, true, true, true, true, false] (s_ret0 rfl)
    · exact s_mask [false, false, false, true, false, false] (s_ret0 rfl)
  intro e4
  refine s_iload_n (dt_X_olderThan 35 _ _ _ rfl) rfl ?_
  exact s_iret (dt_X_olderThan 36 _ _ _ rfl) rfl rfl
theorem c_X_olderThan {S : KS} (hS : KExt 382 S)  (a0 : Int) (a1 : Int) (M : KM) : ∀ q, f_X_olderThan a0 a1 M = some q → Ctr y_X_olderThan Y_X_olderThan [VR (some 0), VI a0, VI a1] S M (some (VI q)) S (M) := fun q hq =>
  ctr_of md_X_olderThan (Nat.le_of_ble_eq_true rfl) ⟨Nat.le_refl _, Nat.le_refl _⟩ 3 hq rfl (fun _ G => sim_X_olderThan hS  a0 a1 M)
noncomputable def f_X_fair (a0 : Int) (M : KM) : Option (Int × KM) := letM_ (mupd M 0 16 0) (fun M1 => Option.bind (f_X_isFamily a0 M1) (fun q2 => (if q2 = 0 then some ((-1), M1) else Option.bind (f_X_familyAlive a0 M1) (fun q3 => Option.bind (f_JI_bitCount q3 M1) (fun q4 => (if q4 = 0 then some (0, M1) else Option.bind (f_X_sum a0 M1) (fun q5 => Option.bind (whileO (σ := Int × Int × KM) (ε := (Int × KM)) (fun s6 => (if s6.2.1 < s6.2.2 2 0 then Option.bind ((if isInV q3 s6.2.1 = 0 then some (s6.1, s6.2.2) else (if q4 = 0 then none else Option.bind (f_X_olderThan s6.2.1 q3 s6.2.2) (fun q7 => (if q4 = 0 then none else Option.bind ((if q7 < krem q5 q4 then some 1 else some 0) : Option (Int)) (fun t8 => letI_ (w32 ((kdiv q5 q4) + t8)) (fun v9 => Option.bind (f_X_lay v9 s6.2.2) (fun q10 => letI_ (w32 (s6.1 + (max 0 (w32 (v9 - (atM q10 35 8 s6.2.1)))))) (fun v11 => some (v11, q10))))))))) : Option (Int × KM)) (fun t12 => some (Sum.inl (t12.1, w32 (s6.2.1 + 1), t12.2))) else some (Sum.inr (s6.1, s6.2.2)))) (0, 0, M1)) (fun e13 => some (e13.1, e13.2)))))))))
set_option maxRecDepth 100000 in
theorem sim_X_fair {G : Gam} {S : KS} (hS : KExt 382 S)  (a0 : Int) (M : KM) : Sim G Y_X_fair (f_X_fair a0 M) (kC 0 [some (VR (some 0)), some (VI a0), none, none, none, none, none, none] [] S M) (fun (q : Int × KM) => Sum.inr (some (VI q.1), S, q.2)) := by
  unfold f_X_fair
  refine s_aload_n (dt_X_fair 0 _ _ _ rfl) rfl ?_
  refine s_iconst (dt_X_fair 1 _ _ _ rfl) rfl ?_
  refine s_putI (dt_X_fair 2 _ _ _ rfl) kp_X_97 (sc_0 hS) ⟨rfl, rfl⟩ ?_
  refine s_letM (fun M1 => ?_)
  refine s_iload_n (dt_X_fair 3 _ _ _ rfl) rfl ?_
  refine s_callO (y := y_X_isFamily) (Y' := Y_X_isFamily) (as := [VI a0]) (r := fun q => some (VI q)) (M' := fun q => M1) (kInvS (dt_X_fair 4 _ _ _ rfl) kst_X_isFamily rfl) kl_X_170 md_X_isFamily rfl rfl (fun q hq => c_X_isFamily hS a0 M1 q hq) (fun q2 => ?_)
  refine s_if_ne (tgt := 14) (dt_X_fair 5 _ _ _ rfl) rfl ?_ ?_
  · refine s_iconst (dt_X_fair 6 _ _ _ rfl) rfl ?_
    exact s_iret (dt_X_fair 7 _ _ _ rfl) rfl rfl
  · refine s_aload_n (dt_X_fair 8 _ _ _ rfl) rfl ?_
    refine s_iload_n (dt_X_fair 9 _ _ _ rfl) rfl ?_
    refine s_callO (y := y_X_familyAlive) (Y' := Y_X_familyAlive) (as := [VR (some 0), VI a0]) (r := fun q => some (VI q)) (M' := fun q => M1) (kInvV (dt_X_fair 10 _ _ _ rfl) kin_X_familyAlive 0 rfl (sc_0 hS) kse_X_familyAlive rfl) kl_X_366 md_X_familyAlive rfl rfl (fun q hq => c_X_familyAlive hS a0 M1 q hq) (fun q3 => ?_)
    refine s_istore_n (dt_X_fair 11 _ _ _ rfl) rfl ?_
    refine s_iload_n (dt_X_fair 12 _ _ _ rfl) rfl ?_
    refine s_callO (y := y_JI_bitCount) (Y' := Y_JI_bitCount) (as := [VI q3]) (r := fun q => some (VI q)) (M' := fun q => M1) (kInvS (dt_X_fair 13 _ _ _ rfl) kst_JI_bitCount rfl) kl_X_292 md_JI_bitCount rfl rfl (fun q hq => c_JI_bitCount hS q3 M1 q hq) (fun q4 => ?_)
    refine s_istore_n (dt_X_fair 14 _ _ _ rfl) rfl ?_
    refine s_iload_n (dt_X_fair 15 _ _ _ rfl) rfl ?_
    refine s_if_ne (tgt := 31) (dt_X_fair 16 _ _ _ rfl) rfl ?_ ?_
    · refine s_iconst (dt_X_fair 17 _ _ _ rfl) rfl ?_
      exact s_iret (dt_X_fair 18 _ _ _ rfl) rfl rfl
    · refine s_aload_n (dt_X_fair 19 _ _ _ rfl) rfl ?_
      refine s_iload_n (dt_X_fair 20 _ _ _ rfl) rfl ?_
      refine s_callO (y := y_X_sum) (Y' := Y_X_sum) (as := [VR (some 0), VI a0]) (r := fun q => some (VI q)) (M' := fun q => M1) (kInvV (dt_X_fair 21 _ _ _ rfl) kin_X_sum 0 rfl (sc_0 hS) kse_X_sum rfl) kl_X_369 md_X_sum rfl rfl (fun q hq => c_X_sum hS a0 M1 q hq) (fun q5 => ?_)
      refine s_istore (dt_X_fair 22 _ _ _ rfl) rfl ?_
      refine s_iconst (dt_X_fair 23 _ _ _ rfl) rfl ?_
      refine s_istore (dt_X_fair 24 _ _ _ rfl) rfl ?_
      refine s_iconst (dt_X_fair 25 _ _ _ rfl) rfl ?_
      refine s_istore (dt_X_fair 26 _ _ _ rfl) rfl ?_
      refine s_bd (κ := (fun (e13 : Int × KM) => kC 127 [none, none, none, none, none, some (VI e13.1), none, none] [] S e13.2)) (s_mask [true, false, true, true, true, true, true, false] (s_while (c := fun s6 => kC 44 [some (VR (some 0)), none, some (VI q3), some (VI q4), some (VI q5), some (VI s6.1), some (VI s6.2.1), none] [] S s6.2.2) (fun s6 => ?_) (0, 0, M1))) ?_
      · refine s_iload (dt_X_fair 27 _ _ _ rfl) rfl ?_
        refine s_aload_n (dt_X_fair 28 _ _ _ rfl) rfl ?_
        refine s_getR (o := (some 2)) (dt_X_fair 29 _ _ _ rfl) (kf_X_20) (sc_0 hS) rfl rfl ?_
        refine s_getI (dt_X_fair 30 _ _ _ rfl) (kf_X_124) (sc_2 hS) rfl ?_
        refine s_if_icmp_ge (tgt := 127) (dt_X_fair 31 _ _ _ rfl) rfl ?_ ?_
        · refine s_iload_n (dt_X_fair 32 _ _ _ rfl) rfl ?_
          refine s_iload (dt_X_fair 33 _ _ _ rfl) rfl ?_
          refine s_inv (y := y_X_isIn) (Y' := Y_X_isIn) (as := [VI q3, VI s6.2.1]) (r := some (VI (isInV q3 s6.2.1))) (M' := s6.2.2) (kInvS (dt_X_fair 34 _ _ _ rfl) kst_X_isIn rfl) kl_X_186 md_X_isIn rfl rfl (c_X_isIn hS q3 s6.2.1 s6.2.2) ?_
          refine s_bd (κ := fun t12 => kC 121 [some (VR (some 0)), none, some (VI q3), some (VI q4), some (VI q5), some (VI t12.1), some (VI s6.2.1), none] [] S t12.2) ?_ (fun t12 => ?_)
          · refine s_if_eq (tgt := 121) (dt_X_fair 35 _ _ _ rfl) rfl ?_ ?_
            · exact s_mask [true, false, true, true, true, true, true, false] (s_ret0 rfl)
            · refine s_iload (dt_X_fair 36 _ _ _ rfl) rfl ?_
              refine s_iload_n (dt_X_fair 37 _ _ _ rfl) rfl ?_
              refine s_idiv (dt_X_fair 38 _ _ _ rfl) ?_
              refine s_aload_n (dt_X_fair 39 _ _ _ rfl) rfl ?_
              refine s_iload (dt_X_fair 40 _ _ _ rfl) rfl ?_
              refine s_iload_n (dt_X_fair 41 _ _ _ rfl) rfl ?_
              refine s_callO (y := y_X_olderThan) (Y' := Y_X_olderThan) (as := [VR (some 0), VI s6.2.1, VI q3]) (r := fun q => some (VI q)) (M' := fun q => s6.2.2) (kInvV (dt_X_fair 42 _ _ _ rfl) kin_X_olderThan 0 rfl (sc_0 hS) kse_X_olderThan rfl) kl_X_372 md_X_olderThan rfl rfl (fun q hq => c_X_olderThan hS s6.2.1 q3 s6.2.2 q hq) (fun q7 => ?_)
              refine s_iload (dt_X_fair 43 _ _ _ rfl) rfl ?_
              refine s_iload_n (dt_X_fair 44 _ _ _ rfl) rfl ?_
              refine s_irem (dt_X_fair 45 _ _ _ rfl) ?_
              refine s_bd (κ := fun t8 => kC 88 [some (VR (some 0)), none, some (VI q3), some (VI q4), some (VI q5), some (VI s6.1), some (VI s6.2.1), none] [VI t8, VI (kdiv q5 q4)] S s6.2.2) ?_ (fun t8 => ?_)
              · refine s_if_icmp_ge (tgt := 87) (dt_X_fair 46 _ _ _ rfl) rfl ?_ ?_
                · refine s_iconst (dt_X_fair 47 _ _ _ rfl) rfl ?_
                  refine s_goto (tgt := 88) (dt_X_fair 48 _ _ _ rfl) rfl ?_
                  exact s_mask [true, false, true, true, true, true, true, false] (s_ret0 rfl)
                · refine s_iconst (dt_X_fair 49 _ _ _ rfl) rfl ?_
                  exact s_mask [true, false, true, true, true, true, true, false] (s_ret0 rfl)
              refine s_iadd (dt_X_fair 50 _ _ _ rfl) ?_
              refine s_letI (fun v9 => ?_)
              refine s_istore (dt_X_fair 51 _ _ _ rfl) rfl ?_
              refine s_aload_n (dt_X_fair 52 _ _ _ rfl) rfl ?_
              refine s_iload (dt_X_fair 53 _ _ _ rfl) rfl ?_
              refine s_callO (y := y_X_lay) (Y' := Y_X_lay) (as := [VR (some 0), VI v9]) (r := fun q => none) (M' := fun q => q) (kInvV (dt_X_fair 54 _ _ _ rfl) kin_X_lay 0 rfl (sc_0 hS) kse_X_lay rfl) kl_X_351 md_X_lay rfl rfl (fun q hq => c_X_lay hS v9 s6.2.2 q hq) (fun q10 => ?_)
              refine s_iload (dt_X_fair 55 _ _ _ rfl) rfl ?_
              refine s_iconst (dt_X_fair 56 _ _ _ rfl) rfl ?_
              refine s_iload (dt_X_fair 57 _ _ _ rfl) rfl ?_
              refine s_aload_n (dt_X_fair 58 _ _ _ rfl) rfl ?_
              refine s_getR (o := (some 34)) (dt_X_fair 59 _ _ _ rfl) (kf_X_34) (sc_0 hS) rfl rfl ?_
              refine s_getR (o := (some 35)) (dt_X_fair 60 _ _ _ rfl) (kf_X_137) (sc_34 hS) rfl rfl ?_
              refine s_iload (dt_X_fair 61 _ _ _ rfl) rfl ?_
              refine s_inv (y := y_X_at) (Y' := Y_X_at) (as := [VR (some 35), VI s6.2.1]) (r := some (VI (atM q10 35 8 s6.2.1))) (M' := q10) (kInvS (dt_X_fair 62 _ _ _ rfl) kst_X_at rfl) kl_X_140 md_X_at rfl rfl (c_X_at hS ⟨(sc_35 hS), by decide⟩ s6.2.1 q10) ?_
              refine s_isub (dt_X_fair 63 _ _ _ rfl) ?_
              refine s_mmax (dt_X_fair 64 _ _ _ rfl) kj_X_218 rfl ?_
              refine s_iadd (dt_X_fair 65 _ _ _ rfl) ?_
              refine s_letI (fun v11 => ?_)
              refine s_istore (dt_X_fair 66 _ _ _ rfl) rfl ?_
              exact s_mask [true, false, true, true, true, true, true, false] (s_ret0 rfl)
          refine s_iinc (dt_X_fair 67 _ _ _ rfl) rfl rfl ?_
          refine s_goto (tgt := 44) (dt_X_fair 68 _ _ _ rfl) rfl ?_
          exact s_mask [true, false, true, true, true, true, true, false] (s_ret0 rfl)
        · exact s_mask [false, false, false, false, false, true, false, false] (s_ret0 rfl)
      intro e13
      refine s_iload (dt_X_fair 69 _ _ _ rfl) rfl ?_
      exact s_iret (dt_X_fair 70 _ _ _ rfl) rfl rfl
theorem c_X_fair {S : KS} (hS : KExt 382 S)  (a0 : Int) (M : KM) : ∀ q, f_X_fair a0 M = some q → Ctr y_X_fair Y_X_fair [VR (some 0), VI a0] S M (some (VI q.1)) S (q.2) := fun q hq =>
  ctr_of md_X_fair (Nat.le_of_ble_eq_true rfl) ⟨Nat.le_refl _, Nat.le_refl _⟩ 6 hq rfl (fun _ G => sim_X_fair hS  a0 M)
noncomputable def f_X_cheapestToServe (a0 : Int) (a1 : Int) (a2 : Int) (a3 : Int) (M : KM) : Option (Int × KM) := letI_ (w32 (a2 + 1)) (fun v1 => Option.bind (whileO (σ := Int × Int × Int × KM) (ε := (Int × KM)) (fun s2 => (if s2.2.2.1 < s2.2.2.2 2 0 then Option.bind ((if isInV a3 s2.2.2.1 = 0 then Option.bind (f_Town_friendsOfT a0 s2.2.2.1 s2.2.2.2) (fun q3 => (if q3 = (-1) then some (s2.1, s2.2.1, s2.2.2.2) else Option.bind (f_X_fewestToHave s2.2.2.1 a1 (w32 (s2.2.1 - 1)) s2.2.2.2) (fun q4 => (if q4.1 ≤ 0 then some (s2.1, s2.2.1, q4.2) else some (s2.2.2.1, q4.1, q4.2))))) else some (s2.1, s2.2.1, s2.2.2.2)) : Option (Int × Int × KM)) (fun t5 => some (Sum.inl (t5.1, t5.2.1, w32 (s2.2.2.1 + 1), t5.2.2))) else some (Sum.inr (s2.1, s2.2.2.2)))) ((-1), v1, 0, M)) (fun e6 => some (e6.1, e6.2)))
set_option maxRecDepth 100000 in
theorem sim_X_cheapestToServe {G : Gam} {S : KS} (hS : KExt 382 S)  (a0 : Int) (a1 : Int) (a2 : Int) (a3 : Int) (M : KM) : Sim G Y_X_cheapestToServe (f_X_cheapestToServe a0 a1 a2 a3 M) (kC 0 [some (VR (some 0)), some (VI a0), some (VI a1), some (VI a2), some (VI a3), none, none, none, none] [] S M) (fun (q : Int × KM) => Sum.inr (some (VI q.1), S, q.2)) := by
  unfold f_X_cheapestToServe
  refine s_iconst (dt_X_cheapestToServe 0 _ _ _ rfl) rfl ?_
  refine s_istore (dt_X_cheapestToServe 1 _ _ _ rfl) rfl ?_
  refine s_iload_n (dt_X_cheapestToServe 2 _ _ _ rfl) rfl ?_
  refine s_iconst (dt_X_cheapestToServe 3 _ _ _ rfl) rfl ?_
  refine s_iadd (dt_X_cheapestToServe 4 _ _ _ rfl) ?_
  refine s_letI (fun v1 => ?_)
  refine s_istore (dt_X_cheapestToServe 5 _ _ _ rfl) rfl ?_
  refine s_iconst (dt_X_cheapestToServe 6 _ _ _ rfl) rfl ?_
  refine s_istore (dt_X_cheapestToServe 7 _ _ _ rfl) rfl ?_
  refine s_bd (κ := (fun (e6 : Int × KM) => kC 79 [none, none, none, none, none, some (VI e6.1), none, none, none] [] S e6.2)) (s_mask [true, true, true, false, true, true, true, true, false] (s_while (c := fun s2 => kC 11 [some (VR (some 0)), some (VI a0), some (VI a1), none, some (VI a3), some (VI s2.1), some (VI s2.2.1), some (VI s2.2.2.1), none] [] S s2.2.2.2) (fun s2 => ?_) ((-1), v1, 0, M))) ?_
  · refine s_iload (dt_X_cheapestToServe 8 _ _ _ rfl) rfl ?_
    refine s_aload_n (dt_X_cheapestToServe 9 _ _ _ rfl) rfl ?_
    refine s_getR (o := (some 2)) (dt_X_cheapestToServe 10 _ _ _ rfl) (kf_X_20) (sc_0 hS) rfl rfl ?_
    refine s_getI (dt_X_cheapestToServe 11 _ _ _ rfl) (kf_X_124) (sc_2 hS) rfl ?_
    refine s_if_icmp_ge (tgt := 79) (dt_X_cheapestToServe 12 _ _ _ rfl) rfl ?_ ?_
    · refine s_iload (dt_X_cheapestToServe 13 _ _ _ rfl) rfl ?_
      refine s_iload (dt_X_cheapestToServe 14 _ _ _ rfl) rfl ?_
      refine s_inv (y := y_X_isIn) (Y' := Y_X_isIn) (as := [VI a3, VI s2.2.2.1]) (r := some (VI (isInV a3 s2.2.2.1))) (M' := s2.2.2.2) (kInvS (dt_X_cheapestToServe 15 _ _ _ rfl) kst_X_isIn rfl) kl_X_186 md_X_isIn rfl rfl (c_X_isIn hS a3 s2.2.2.1 s2.2.2.2) ?_
      refine s_bd (κ := fun t5 => kC 73 [some (VR (some 0)), some (VI a0), some (VI a1), none, some (VI a3), some (VI t5.1), some (VI t5.2.1), some (VI s2.2.2.1), none] [] S t5.2.2) ?_ (fun t5 => ?_)
      · refine s_if_ne (tgt := 73) (dt_X_cheapestToServe 16 _ _ _ rfl) rfl ?_ ?_
        · refine s_aload_n (dt_X_cheapestToServe 17 _ _ _ rfl) rfl ?_
          refine s_getR (o := (some 2)) (dt_X_cheapestToServe 18 _ _ _ rfl) (kf_X_20) (sc_0 hS) rfl rfl ?_
          refine s_iload_n (dt_X_cheapestToServe 19 _ _ _ rfl) rfl ?_
          refine s_iload (dt_X_cheapestToServe 20 _ _ _ rfl) rfl ?_
          refine s_callO (y := y_Town_friendsOf) (Y' := Y_Town_friendsOf) (as := [VR (some 2), VI a0, VI s2.2.2.1]) (r := fun q => some (VI q)) (M' := fun q => s2.2.2.2) (kInvV (dt_X_cheapestToServe 21 _ _ _ rfl) kin_Town_friendsOf 12 rfl (sc_2 hS) kse_Town_friendsOf rfl) kl_X_249 md_Town_friendsOf rfl rfl (fun q hq => c_Town_friendsOfT hS a0 s2.2.2.1 s2.2.2.2 q hq) (fun q3 => ?_)
          refine s_iconst (dt_X_cheapestToServe 22 _ _ _ rfl) rfl ?_
          refine s_if_icmp_eq (tgt := 73) (dt_X_cheapestToServe 23 _ _ _ rfl) rfl ?_ ?_
          · exact s_mask [true, true, true, false, true, true, true, true, false] (s_ret0 rfl)
          · refine s_aload_n (dt_X_cheapestToServe 24 _ _ _ rfl) rfl ?_
            refine s_iload (dt_X_cheapestToServe 25 _ _ _ rfl) rfl ?_
            refine s_iload_n (dt_X_cheapestToServe 26 _ _ _ rfl) rfl ?_
            refine s_iload (dt_X_cheapestToServe 27 _ _ _ rfl) rfl ?_
            refine s_iconst (dt_X_cheapestToServe 28 _ _ _ rfl) rfl ?_
            refine s_isub (dt_X_cheapestToServe 29 _ _ _ rfl) ?_
            refine s_callO (y := y_X_fewestToHave) (Y' := Y_X_fewestToHave) (as := [VR (some 0), VI s2.2.2.1, VI a1, VI (w32 (s2.2.1 - 1))]) (r := fun q => some (VI q.1)) (M' := fun q => q.2) (kInvV (dt_X_cheapestToServe 30 _ _ _ rfl) kin_X_fewestToHave 0 rfl (sc_0 hS) kse_X_fewestToHave rfl) kl_X_363 md_X_fewestToHave rfl rfl (fun q hq => c_X_fewestToHave hS s2.2.2.1 a1 (w32 (s2.2.1 - 1)) s2.2.2.2 q hq) (fun q4 => ?_)
            refine s_istore (dt_X_cheapestToServe 31 _ _ _ rfl) rfl ?_
            refine s_iload (dt_X_cheapestToServe 32 _ _ _ rfl) rfl ?_
            refine s_if_le (tgt := 73) (dt_X_cheapestToServe 33 _ _ _ rfl) rfl ?_ ?_
            · exact s_mask [true, true, true, false, true, true, true, true, false] (s_ret0 rfl)
            · refine s_iload (dt_X_cheapestToServe 34 _ _ _ rfl) rfl ?_
              refine s_istore (dt_X_cheapestToServe 35 _ _ _ rfl) rfl ?_
              refine s_iload (dt_X_cheapestToServe 36 _ _ _ rfl) rfl ?_
              refine s_istore (dt_X_cheapestToServe 37 _ _ _ rfl) rfl ?_
              exact s_mask [true, true, true, false, true, true, true, true, false] (s_ret0 rfl)
        · exact s_mask [true, true, true, false, true, true, true, true, false] (s_ret0 rfl)
      refine s_iinc (dt_X_cheapestToServe 38 _ _ _ rfl) rfl rfl ?_
      refine s_goto (tgt := 11) (dt_X_cheapestToServe 39 _ _ _ rfl) rfl ?_
      exact s_mask [true, true, true, false, true, true, true, true, false] (s_ret0 rfl)
    · exact s_mask [false, false, false, false, false, true, false, false, false] (s_ret0 rfl)
  intro e6
  refine s_iload (dt_X_cheapestToServe 40 _ _ _ rfl) rfl ?_
  exact s_iret (dt_X_cheapestToServe 41 _ _ _ rfl) rfl rfl
theorem c_X_cheapestToServe {S : KS} (hS : KExt 382 S)  (a0 : Int) (a1 : Int) (a2 : Int) (a3 : Int) (M : KM) : ∀ q, f_X_cheapestToServe a0 a1 a2 a3 M = some q → Ctr y_X_cheapestToServe Y_X_cheapestToServe [VR (some 0), VI a0, VI a1, VI a2, VI a3] S M (some (VI q.1)) S (q.2) := fun q hq =>
  ctr_of md_X_cheapestToServe (Nat.le_of_ble_eq_true rfl) ⟨Nat.le_refl _, Nat.le_refl _⟩ 4 hq rfl (fun _ G => sim_X_cheapestToServe hS  a0 a1 a2 a3 M)
