set_option maxRecDepth 100000 in
theorem sim_X_cheapest {G : Gam} {S : KS} (hS : KExt 382 S)   (M : KM) : Sim G Y_X_cheapest (f_X_cheapest  M) (kC 0 [some (VR (some 0)), none, none] [] S M) (fun (q : Int × KM) => Sum.inr (some (VI q.1), S, q.2)) := by
  unfold f_X_cheapest
  refine s_iconst (dt_X_cheapest 0 _ _ _ rfl) rfl ?_
  refine s_istore_n (dt_X_cheapest 1 _ _ _ rfl) rfl ?_
  refine s_bd (κ := (fun (e6 : KM) => kC 78 [some (VR (some 0)), none, none] [] S e6)) (s_mask [true, true, false] (s_while (c := fun s1 => kC 2 [some (VR (some 0)), some (VI s1.1), none] [] S s1.2) (fun s1 => ?_) ((0 : Int), M))) ?_
  · refine s_iload_n (dt_X_cheapest 2 _ _ _ rfl) rfl ?_
    refine s_bipush (dt_X_cheapest 3 _ _ _ rfl) rfl ?_
    refine s_if_icmp_ge (tgt := 78) (dt_X_cheapest 4 _ _ _ rfl) rfl ?_ ?_
    · refine s_aload_n (dt_X_cheapest 5 _ _ _ rfl) rfl ?_
      refine s_iload_n (dt_X_cheapest 6 _ _ _ rfl) rfl ?_
      refine s_callO (y := y_X_isAlive) (Y' := Y_X_isAlive) (as := [VR (some 0), VI s1.1]) (r := fun q => some (VI q)) (M' := fun q => s1.2) (kInvV (dt_X_cheapest 7 _ _ _ rfl) kin_X_isAlive 0 rfl (sc_0 hS) kse_X_isAlive rfl) kl_X_147 md_X_isAlive rfl rfl (fun q hq => c_X_isAlive hS s1.1 s1.2 q hq) (fun q2 => ?_)
      refine s_bd (κ := fun t3 => kC 32 [some (VR (some 0)), some (VI s1.1), none] [VI t3] S s1.2) ?_ (fun t3 => ?_)
      · refine s_if_eq (tgt := 31) (dt_X_cheapest 8 _ _ _ rfl) rfl ?_ ?_
        · refine s_iconst (dt_X_cheapest 16 _ _ _ rfl) rfl ?_
          exact s_mask [true, true, false] (s_ret0 rfl)
        · refine s_aload_n (dt_X_cheapest 9 _ _ _ rfl) rfl ?_
          refine s_getI (c := 0) (j := 9) (dt_X_cheapest 10 _ _ _ rfl) (kf_X_56) (sc_0 hS) rfl ?_
          refine s_iload_n (dt_X_cheapest 11 _ _ _ rfl) rfl ?_
          refine s_inv (y := y_X_isIn) (Y' := Y_X_isIn) (as := [VI (s1.2 0 9), VI s1.1]) (r := some (VI (isInV (s1.2 0 9) s1.1))) (M' := s1.2) (kInvS (dt_X_cheapest 12 _ _ _ rfl) kst_X_isIn rfl) kl_X_186 md_X_isIn rfl rfl (c_X_isIn hS (s1.2 0 9) s1.1 s1.2) ?_
          refine s_if_eq (tgt := 31) (dt_X_cheapest 13 _ _ _ rfl) rfl ?_ ?_
          · refine s_iconst (dt_X_cheapest 16 _ _ _ rfl) rfl ?_
            exact s_mask [true, true, false] (s_ret0 rfl)
          · refine s_iconst (dt_X_cheapest 14 _ _ _ rfl) rfl ?_
            refine s_goto (tgt := 32) (dt_X_cheapest 15 _ _ _ rfl) rfl ?_
            exact s_mask [true, true, false] (s_ret0 rfl)
      refine s_istore_n (dt_X_cheapest 17 _ _ _ rfl) rfl ?_
      refine s_aload_n (dt_X_cheapest 18 _ _ _ rfl) rfl ?_
      refine s_getR (c := 0) (j := 10) (o := (some 332)) (dt_X_cheapest 19 _ _ _ rfl) (kf_X_62) (sc_0 hS) rfl rfl ?_
      refine s_getR (c := 8) (j := 0) (o := (some 333)) (dt_X_cheapest 20 _ _ _ rfl) (kf_X_297) (sc_332 hS) rfl rfl ?_
      refine s_iload_n (dt_X_cheapest 21 _ _ _ rfl) rfl ?_
      refine s_iload_n (dt_X_cheapest 22 _ _ _ rfl) rfl ?_
      refine s_bd (κ := fun t4 => kC 69 [some (VR (some 0)), some (VI s1.1), none] [VI t4, VI s1.1, VR (some 333)] S s1.2) ?_ (fun t4 => ?_)
      · refine s_if_eq (tgt := 68) (dt_X_cheapest 23 _ _ _ rfl) rfl ?_ ?_
        · refine s_iconst (dt_X_cheapest 35 _ _ _ rfl) rfl ?_
          exact s_mask [true, true, false] (s_ret0 rfl)
        · refine s_aload_n (dt_X_cheapest 24 _ _ _ rfl) rfl ?_
          refine s_getR (c := 0) (j := 4) (o := (some 34)) (dt_X_cheapest 25 _ _ _ rfl) (kf_X_34) (sc_0 hS) rfl rfl ?_
          refine s_getR (c := 10) (j := 0) (o := (some 35)) (dt_X_cheapest 26 _ _ _ rfl) (kf_X_137) (sc_34 hS) rfl rfl ?_
          refine s_iload_n (dt_X_cheapest 27 _ _ _ rfl) rfl ?_
          refine s_inv (y := y_X_at) (Y' := Y_X_at) (as := [VR (some 35), VI s1.1]) (r := some (VI (atM s1.2 35 8 s1.1))) (M' := s1.2) (kInvS (dt_X_cheapest 28 _ _ _ rfl) kst_X_at rfl) kl_X_140 md_X_at rfl rfl (c_X_at hS ⟨(sc_35 hS), by decide⟩ s1.1 s1.2) ?_
          refine s_aload_n (dt_X_cheapest 29 _ _ _ rfl) rfl ?_
          refine s_getR (c := 0) (j := 8) (o := (some 331)) (dt_X_cheapest 30 _ _ _ rfl) (kf_X_52) (sc_0 hS) rfl rfl ?_
          refine s_iload_n (dt_X_cheapest 31 _ _ _ rfl) rfl ?_
          refine s_inv (y := y_X_at) (Y' := Y_X_at) (as := [VR (some 331), VI s1.1]) (r := some (VI (atM s1.2 331 8 s1.1))) (M' := s1.2) (kInvS (dt_X_cheapest 32 _ _ _ rfl) kst_X_at rfl) kl_X_140 md_X_at rfl rfl (c_X_at hS ⟨(sc_331 hS), by decide⟩ s1.1 s1.2) ?_
          refine s_isub (dt_X_cheapest 33 _ _ _ rfl) ?_
          refine s_goto (tgt := 69) (dt_X_cheapest 34 _ _ _ rfl) rfl ?_
          exact s_mask [true, true, false] (s_ret0 rfl)
      refine s_inv (y := y_X_put) (Y' := Y_X_put) (as := [VR (some 333), VI s1.1, VI t4]) (r := none) (M' := (putM s1.2 333 8 s1.1 t4)) (kInvS (dt_X_cheapest 36 _ _ _ rfl) kst_X_put rfl) kl_X_288 md_X_put rfl rfl (c_X_put hS ⟨(sc_333 hS), by decide⟩ s1.1 t4 s1.2) ?_
      refine s_letM (fun M5 => ?_)
      refine s_iinc (dt_X_cheapest 37 _ _ _ rfl) rfl rfl ?_
      refine s_goto (tgt := 2) (dt_X_cheapest 38 _ _ _ rfl) rfl ?_
      exact s_mask [true, true, false] (s_ret0 rfl)
    · exact s_mask [true, false, false] (s_ret0 rfl)
  intro e6
  refine s_aload_n (dt_X_cheapest 39 _ _ _ rfl) rfl ?_
  refine s_getR (c := 0) (j := 10) (o := (some 332)) (dt_X_cheapest 40 _ _ _ rfl) (kf_X_62) (sc_0 hS) rfl rfl ?_
  refine s_aload_n (dt_X_cheapest 41 _ _ _ rfl) rfl ?_
  refine s_getR (c := 0) (j := 2) (o := (some 2)) (dt_X_cheapest 42 _ _ _ rfl) (kf_X_20) (sc_0 hS) rfl rfl ?_
  refine s_aload_n (dt_X_cheapest 43 _ _ _ rfl) rfl ?_
  refine s_getR (c := 0) (j := 4) (o := (some 34)) (dt_X_cheapest 44 _ _ _ rfl) (kf_X_34) (sc_0 hS) rfl rfl ?_
  refine s_getI (c := 10) (j := 3) (dt_X_cheapest 45 _ _ _ rfl) (kf_X_183) (sc_34 hS) rfl ?_
  refine s_callO (y := y_Roads_settle) (Y' := Y_Roads_settle) (as := [VR (some 332), VR (some 2), VI (e6 34 3)]) (r := fun q => some (VI q.1)) (M' := fun q => q.2) (kInvV (dt_X_cheapest 46 _ _ _ rfl) kin_Roads_settle 8 rfl (sc_332 hS) kse_Roads_settle rfl) kl_X_300 md_Roads_settle rfl rfl (fun q hq => c_Roads_settle hS (e6 34 3) e6 q hq) (fun q7 => ?_)
  exact s_iret (dt_X_cheapest 47 _ _ _ rfl) rfl rfl
theorem c_X_cheapest {S : KS} (hS : KExt 382 S)   (M : KM) : ∀ q, f_X_cheapest  M = some q → Ctr y_X_cheapest Y_X_cheapest [VR (some 0)] S M (some (VI q.1)) S (q.2) := fun q hq =>
  ctr_of md_X_cheapest (Nat.le_of_ble_eq_true rfl) ⟨Nat.le_refl _, Nat.le_refl _⟩ 2 hq rfl (fun _ G => sim_X_cheapest hS   M)
set_option maxRecDepth 100000 in
theorem sim_Roads_roadFrom {G : Gam} {S : KS} (hS : KExt 382 S)  (a0 : Int) (a1 : Int) (M : KM) : Sim G Y_Roads_roadFrom (f_Roads_roadFrom a0 a1 M) (kC 0 [some (VR (some 332)), some (VI a0), some (VI a1)] [] S M) (fun (q : Int) => Sum.inr (some (VI q), S, M)) := by
  unfold f_Roads_roadFrom
  refine s_aload_n (dt_Roads_roadFrom 0 _ _ _ rfl) rfl ?_
  refine s_getR (c := 8) (j := 2) (o := (some 335)) (dt_Roads_roadFrom 1 _ _ _ rfl) (kf_Roads_18) (sc_332 hS) rfl rfl ?_
  refine s_iload_n (dt_Roads_roadFrom 2 _ _ _ rfl) rfl ?_
  refine s_bipush (dt_Roads_roadFrom 3 _ _ _ rfl) rfl ?_
  refine s_imul (dt_Roads_roadFrom 4 _ _ _ rfl) ?_
  refine s_iload_n (dt_Roads_roadFrom 5 _ _ _ rfl) rfl ?_
  refine s_iadd (dt_Roads_roadFrom 6 _ _ _ rfl) ?_
  refine s_inv (y := y_X_at) (Y' := Y_X_at) (as := [VR (some 335), VI (w32 ((w32 (a0 * (8 : Int))) + a1))]) (r := some (VI (atM M 335 64 (w32 ((w32 (a0 * (8 : Int))) + a1))))) (M' := M) (kInvS (dt_Roads_roadFrom 7 _ _ _ rfl) kst_X_at rfl) kl_Roads_43 md_X_at rfl rfl (c_X_at hS ⟨(sc_335 hS), by decide⟩ (w32 ((w32 (a0 * (8 : Int))) + a1)) M) ?_
  exact s_iret (dt_Roads_roadFrom 8 _ _ _ rfl) rfl rfl
theorem c_Roads_roadFrom {S : KS} (hS : KExt 382 S)  (a0 : Int) (a1 : Int) (M : KM) : ∀ q, f_Roads_roadFrom a0 a1 M = some q → Ctr y_Roads_roadFrom Y_Roads_roadFrom [VR (some 332), VI a0, VI a1] S M (some (VI q)) S (M) := fun q hq =>
  ctr_of md_Roads_roadFrom (Nat.le_of_ble_eq_true rfl) ⟨Nat.le_refl _, Nat.le_refl _⟩ 0 hq rfl (fun _ G => sim_Roads_roadFrom hS  a0 a1 M)
set_option maxRecDepth 100000 in
theorem sim_Roads_shortenRoads {G : Gam} {S : KS} (hS : KExt 382 S)  (a0 : Int) (a1 : Int) (a2 : Int) (M : KM) : Sim G Y_Roads_shortenRoads (f_Roads_shortenRoads a0 a1 a2 M) (kC 0 [some (VR (some 332)), some (VI a0), some (VI a1), some (VI a2), none, none, none] [] S M) (fun (q : KM) => Sum.inr (none, S, q)) := by
  unfold f_Roads_shortenRoads
  refine s_aload_n (dt_Roads_shortenRoads 0 _ _ _ rfl) rfl ?_
  refine s_iload_n (dt_Roads_shortenRoads 1 _ _ _ rfl) rfl ?_
  refine s_iload_n (dt_Roads_shortenRoads 2 _ _ _ rfl) rfl ?_
  refine s_callO (y := y_Roads_roadFrom) (Y' := Y_Roads_roadFrom) (as := [VR (some 332), VI a0, VI a1]) (r := fun q => some (VI q)) (M' := fun q => M) (kInvV (dt_Roads_shortenRoads 3 _ _ _ rfl) kin_Roads_roadFrom 8 rfl (sc_332 hS) kse_Roads_roadFrom rfl) kl_Roads_68 md_Roads_roadFrom rfl rfl (fun q hq => c_Roads_roadFrom hS a0 a1 M q hq) (fun q1 => ?_)
  refine s_istore (dt_Roads_shortenRoads 4 _ _ _ rfl) rfl ?_
  refine s_iload (dt_Roads_shortenRoads 5 _ _ _ rfl) rfl ?_
  refine s_ldc (n := (100000000 : Int)) (kc_Roads_33) (dt_Roads_shortenRoads 6 _ _ _ rfl) rfl ?_
  refine s_if_icmp_lt (tgt := 16) (dt_Roads_shortenRoads 7 _ _ _ rfl) rfl ?_ ?_
  · refine s_iconst (dt_Roads_shortenRoads 9 _ _ _ rfl) rfl ?_
    refine s_istore (dt_Roads_shortenRoads 10 _ _ _ rfl) rfl ?_
    refine s_bd (κ := (fun (e8 : KM) => kC 71 [none, none, none, none, none, none, none] [] S e8)) (s_mask [true, true, true, true, true, true, false] (s_while (c := fun s2 => kC 19 [some (VR (some 332)), some (VI a0), some (VI a1), some (VI a2), some (VI q1), some (VI s2.1), none] [] S s2.2) (fun s2 => ?_) ((0 : Int), M))) ?_
    · refine s_iload (dt_Roads_shortenRoads 11 _ _ _ rfl) rfl ?_
      refine s_iload_n (dt_Roads_shortenRoads 12 _ _ _ rfl) rfl ?_
      refine s_if_icmp_ge (tgt := 71) (dt_Roads_shortenRoads 13 _ _ _ rfl) rfl ?_ ?_
      · refine s_iload (dt_Roads_shortenRoads 14 _ _ _ rfl) rfl ?_
        refine s_aload_n (dt_Roads_shortenRoads 15 _ _ _ rfl) rfl ?_
        refine s_iload_n (dt_Roads_shortenRoads 16 _ _ _ rfl) rfl ?_
        refine s_iload (dt_Roads_shortenRoads 17 _ _ _ rfl) rfl ?_
        refine s_callO (y := y_Roads_roadFrom) (Y' := Y_Roads_roadFrom) (as := [VR (some 332), VI a1, VI s2.1]) (r := fun q => some (VI q)) (M' := fun q => s2.2) (kInvV (dt_Roads_shortenRoads 18 _ _ _ rfl) kin_Roads_roadFrom 8 rfl (sc_332 hS) kse_Roads_roadFrom rfl) kl_Roads_68 md_Roads_roadFrom rfl rfl (fun q hq => c_Roads_roadFrom hS a1 s2.1 s2.2 q hq) (fun q3 => ?_)
        refine s_iadd (dt_Roads_shortenRoads 19 _ _ _ rfl) ?_
        refine s_letI (fun v4 => ?_)
        refine s_istore (dt_Roads_shortenRoads 20 _ _ _ rfl) rfl ?_
        refine s_iload (dt_Roads_shortenRoads 21 _ _ _ rfl) rfl ?_
        refine s_aload_n (dt_Roads_shortenRoads 22 _ _ _ rfl) rfl ?_
        refine s_iload_n (dt_Roads_shortenRoads 23 _ _ _ rfl) rfl ?_
        refine s_iload (dt_Roads_shortenRoads 24 _ _ _ rfl) rfl ?_
        refine s_callO (y := y_Roads_roadFrom) (Y' := Y_Roads_roadFrom) (as := [VR (some 332), VI a0, VI s2.1]) (r := fun q => some (VI q)) (M' := fun q => s2.2) (kInvV (dt_Roads_shortenRoads 25 _ _ _ rfl) kin_Roads_roadFrom 8 rfl (sc_332 hS) kse_Roads_roadFrom rfl) kl_Roads_68 md_Roads_roadFrom rfl rfl (fun q hq => c_Roads_roadFrom hS a0 s2.1 s2.2 q hq) (fun q5 => ?_)
        refine s_bd (κ := fun t7 => kC 65 [some (VR (some 332)), some (VI a0), some (VI a1), some (VI a2), some (VI q1), some (VI s2.1), none] [] S t7) ?_ (fun t7 => ?_)
        · refine s_if_icmp_ge (tgt := 65) (dt_Roads_shortenRoads 26 _ _ _ rfl) rfl ?_ ?_
          · refine s_aload_n (dt_Roads_shortenRoads 27 _ _ _ rfl) rfl ?_
            refine s_getR (c := 8) (j := 2) (o := (some 335)) (dt_Roads_shortenRoads 28 _ _ _ rfl) (kf_Roads_18) (sc_332 hS) rfl rfl ?_
            refine s_iload_n (dt_Roads_shortenRoads 29 _ _ _ rfl) rfl ?_
            refine s_bipush (dt_Roads_shortenRoads 30 _ _ _ rfl) rfl ?_
            refine s_imul (dt_Roads_shortenRoads 31 _ _ _ rfl) ?_
            refine s_iload (dt_Roads_shortenRoads 32 _ _ _ rfl) rfl ?_
            refine s_iadd (dt_Roads_shortenRoads 33 _ _ _ rfl) ?_
            refine s_iload (dt_Roads_shortenRoads 34 _ _ _ rfl) rfl ?_
            refine s_inv (y := y_X_put) (Y' := Y_X_put) (as := [VR (some 335), VI (w32 ((w32 (a0 * (8 : Int))) + s2.1)), VI v4]) (r := none) (M' := (putM s2.2 335 64 (w32 ((w32 (a0 * (8 : Int))) + s2.1)) v4)) (kInvS (dt_Roads_shortenRoads 35 _ _ _ rfl) kst_X_put rfl) kl_Roads_57 md_X_put rfl rfl (c_X_put hS ⟨(sc_335 hS), by decide⟩ (w32 ((w32 (a0 * (8 : Int))) + s2.1)) v4 s2.2) ?_
            refine s_letM (fun M6 => ?_)
            exact s_mask [true, true, true, true, true, true, false] (s_ret0 rfl)
          · exact s_mask [true, true, true, true, true, true, false] (s_ret0 rfl)
        refine s_iinc (dt_Roads_shortenRoads 36 _ _ _ rfl) rfl rfl ?_
        refine s_goto (tgt := 19) (dt_Roads_shortenRoads 37 _ _ _ rfl) rfl ?_
        exact s_mask [true, true, true, true, true, true, false] (s_ret0 rfl)
      · exact s_mask [false, false, false, false, false, false, false] (s_ret0 rfl)
    intro e8
    exact s_vret (dt_Roads_shortenRoads 38 _ _ _ rfl) rfl rfl
  · exact s_vret (dt_Roads_shortenRoads 8 _ _ _ rfl) rfl rfl
theorem c_Roads_shortenRoads {S : KS} (hS : KExt 382 S)  (a0 : Int) (a1 : Int) (a2 : Int) (M : KM) : ∀ q, f_Roads_shortenRoads a0 a1 a2 M = some q → Ctr y_Roads_shortenRoads Y_Roads_shortenRoads [VR (some 332), VI a0, VI a1, VI a2] S M (none) S (q) := fun q hq =>
  ctr_of md_Roads_shortenRoads (Nat.le_of_ble_eq_true rfl) ⟨Nat.le_refl _, Nat.le_refl _⟩ 3 hq rfl (fun _ G => sim_Roads_shortenRoads hS  a0 a1 a2 M)
set_option maxRecDepth 100000 in
theorem sim_Roads_measure {G : Gam} {S : KS} (hS : KExt 382 S)  (a1 : Int) (M : KM) : Sim G Y_Roads_measure (f_Roads_measure a1 M) (kC 0 [some (VR (some 332)), some (VR (some 2)), some (VI a1), none, none, none] [] S M) (fun (q : KM) => Sum.inr (none, S, q)) := by
  unfold f_Roads_measure
  refine s_iconst (dt_Roads_measure 0 _ _ _ rfl) rfl ?_
  refine s_istore_n (dt_Roads_measure 1 _ _ _ rfl) rfl ?_
  refine s_bd (κ := (fun (e3 : KM) => kC 25 [some (VR (some 332)), some (VR (some 2)), some (VI a1), none, none, none] [] S e3)) (s_mask [true, true, true, true, false, false] (s_while (c := fun s1 => kC 2 [some (VR (some 332)), some (VR (some 2)), some (VI a1), some (VI s1.1), none, none] [] S s1.2) (fun s1 => ?_) ((0 : Int), M))) ?_
  · refine s_iload_n (dt_Roads_measure 2 _ _ _ rfl) rfl ?_
    refine s_aload_n (dt_Roads_measure 3 _ _ _ rfl) rfl ?_
    refine s_getR (c := 8) (j := 2) (o := (some 335)) (dt_Roads_measure 4 _ _ _ rfl) (kf_Roads_18) (sc_332 hS) rfl rfl ?_
    refine s_alen (N := 64) (dt_Roads_measure 5 _ _ _ rfl) (sc_335 hS) rfl rfl (by decide) ?_
    refine s_if_icmp_ge (tgt := 25) (dt_Roads_measure 6 _ _ _ rfl) rfl ?_ ?_
    · refine s_aload_n (dt_Roads_measure 7 _ _ _ rfl) rfl ?_
      refine s_getR (c := 8) (j := 2) (o := (some 335)) (dt_Roads_measure 8 _ _ _ rfl) (kf_Roads_18) (sc_332 hS) rfl rfl ?_
      refine s_iload_n (dt_Roads_measure 9 _ _ _ rfl) rfl ?_
      refine s_ldc (n := (100000000 : Int)) (kc_Roads_33) (dt_Roads_measure 10 _ _ _ rfl) rfl ?_
      refine s_iast (N := 64) (dt_Roads_measure 11 _ _ _ rfl) (sc_335 hS) rfl ?_
      refine s_letM (fun M2 => ?_)
      refine s_iinc (dt_Roads_measure 12 _ _ _ rfl) rfl rfl ?_
      refine s_goto (tgt := 2) (dt_Roads_measure 13 _ _ _ rfl) rfl ?_
      exact s_mask [true, true, true, true, false, false] (s_ret0 rfl)
    · exact s_mask [true, true, true, false, false, false] (s_ret0 rfl)
  intro e3
  refine s_iconst (dt_Roads_measure 14 _ _ _ rfl) rfl ?_
  refine s_istore_n (dt_Roads_measure 15 _ _ _ rfl) rfl ?_
  refine s_bd (κ := (fun (e9 : KM) => kC 102 [some (VR (some 332)), some (VR (some 2)), none, none, none, none] [] S e9)) (s_mask [true, true, true, true, false, false] (s_while (c := fun s4 => kC 27 [some (VR (some 332)), some (VR (some 2)), some (VI a1), some (VI s4.1), none, none] [] S s4.2) (fun s4 => ?_) ((0 : Int), e3))) ?_
  · refine s_iload_n (dt_Roads_measure 16 _ _ _ rfl) rfl ?_
    refine s_aload_n (dt_Roads_measure 17 _ _ _ rfl) rfl ?_
    refine s_getI (c := 12) (j := 5) (dt_Roads_measure 18 _ _ _ rfl) (kf_Roads_34) (sc_2 hS) rfl ?_
    refine s_if_icmp_ge (tgt := 102) (dt_Roads_measure 19 _ _ _ rfl) rfl ?_ ?_
    · refine s_aload_n (dt_Roads_measure 20 _ _ _ rfl) rfl ?_
      refine s_getR (c := 12) (j := 6) (o := (some 7)) (dt_Roads_measure 21 _ _ _ rfl) (kf_Roads_40) (sc_2 hS) rfl rfl ?_
      refine s_iload_n (dt_Roads_measure 22 _ _ _ rfl) rfl ?_
      refine s_inv (y := y_X_at) (Y' := Y_X_at) (as := [VR (some 7), VI s4.1]) (r := some (VI (atM s4.2 7 20 s4.1))) (M' := s4.2) (kInvS (dt_Roads_measure 23 _ _ _ rfl) kst_X_at rfl) kl_Roads_43 md_X_at rfl rfl (c_X_at hS ⟨(sc_7 hS), by decide⟩ s4.1 s4.2) ?_
      refine s_letI (fun v5 => ?_)
      refine s_istore (dt_Roads_measure 24 _ _ _ rfl) rfl ?_
      refine s_aload_n (dt_Roads_measure 25 _ _ _ rfl) rfl ?_
      refine s_getR (c := 12) (j := 7) (o := (some 8)) (dt_Roads_measure 26 _ _ _ rfl) (kf_Roads_47) (sc_2 hS) rfl rfl ?_
      refine s_iload_n (dt_Roads_measure 27 _ _ _ rfl) rfl ?_
      refine s_inv (y := y_X_at) (Y' := Y_X_at) (as := [VR (some 8), VI s4.1]) (r := some (VI (atM s4.2 8 20 s4.1))) (M' := s4.2) (kInvS (dt_Roads_measure 28 _ _ _ rfl) kst_X_at rfl) kl_Roads_43 md_X_at rfl rfl (c_X_at hS ⟨(sc_8 hS), by decide⟩ s4.1 s4.2) ?_
      refine s_letI (fun v6 => ?_)
      refine s_istore (dt_Roads_measure 29 _ _ _ rfl) rfl ?_
      refine s_iload_n (dt_Roads_measure 30 _ _ _ rfl) rfl ?_
      refine s_iload (dt_Roads_measure 31 _ _ _ rfl) rfl ?_
      refine s_inv (y := y_X_isIn) (Y' := Y_X_isIn) (as := [VI a1, VI v5]) (r := some (VI (isInV a1 v5))) (M' := s4.2) (kInvS (dt_Roads_measure 32 _ _ _ rfl) kst_X_isIn rfl) kl_Roads_50 md_X_isIn rfl rfl (c_X_isIn hS a1 v5 s4.2) ?_
      refine s_bd (κ := fun t8 => kC 96 [some (VR (some 332)), some (VR (some 2)), some (VI a1), some (VI s4.1), none, none] [] S t8) ?_ (fun t8 => ?_)
      · refine s_if_eq (tgt := 96) (dt_Roads_measure 33 _ _ _ rfl) rfl ?_ ?_
        · exact s_mask [true, true, true, true, false, false] (s_ret0 rfl)
        · refine s_iload_n (dt_Roads_measure 34 _ _ _ rfl) rfl ?_
          refine s_iload (dt_Roads_measure 35 _ _ _ rfl) rfl ?_
          refine s_inv (y := y_X_isIn) (Y' := Y_X_isIn) (as := [VI a1, VI v6]) (r := some (VI (isInV a1 v6))) (M' := s4.2) (kInvS (dt_Roads_measure 36 _ _ _ rfl) kst_X_isIn rfl) kl_Roads_50 md_X_isIn rfl rfl (c_X_isIn hS a1 v6 s4.2) ?_
          refine s_if_eq (tgt := 96) (dt_Roads_measure 37 _ _ _ rfl) rfl ?_ ?_
          · exact s_mask [true, true, true, true, false, false] (s_ret0 rfl)
          · refine s_aload_n (dt_Roads_measure 38 _ _ _ rfl) rfl ?_
            refine s_getR (c := 8) (j := 2) (o := (some 335)) (dt_Roads_measure 39 _ _ _ rfl) (kf_Roads_18) (sc_332 hS) rfl rfl ?_
            refine s_iload (dt_Roads_measure 40 _ _ _ rfl) rfl ?_
            refine s_bipush (dt_Roads_measure 41 _ _ _ rfl) rfl ?_
            refine s_imul (dt_Roads_measure 42 _ _ _ rfl) ?_
            refine s_iload (dt_Roads_measure 43 _ _ _ rfl) rfl ?_
            refine s_iadd (dt_Roads_measure 44 _ _ _ rfl) ?_
            refine s_aload_n (dt_Roads_measure 45 _ _ _ rfl) rfl ?_
            refine s_getR (c := 12) (j := 8) (o := (some 9)) (dt_Roads_measure 46 _ _ _ rfl) (kf_Roads_54) (sc_2 hS) rfl rfl ?_
            refine s_iload_n (dt_Roads_measure 47 _ _ _ rfl) rfl ?_
            refine s_inv (y := y_X_at) (Y' := Y_X_at) (as := [VR (some 9), VI s4.1]) (r := some (VI (atM s4.2 9 20 s4.1))) (M' := s4.2) (kInvS (dt_Roads_measure 48 _ _ _ rfl) kst_X_at rfl) kl_Roads_43 md_X_at rfl rfl (c_X_at hS ⟨(sc_9 hS), by decide⟩ s4.1 s4.2) ?_
            refine s_inv (y := y_X_put) (Y' := Y_X_put) (as := [VR (some 335), VI (w32 ((w32 (v5 * (8 : Int))) + v6)), VI (atM s4.2 9 20 s4.1)]) (r := none) (M' := (putM s4.2 335 64 (w32 ((w32 (v5 * (8 : Int))) + v6)) (atM s4.2 9 20 s4.1))) (kInvS (dt_Roads_measure 49 _ _ _ rfl) kst_X_put rfl) kl_Roads_57 md_X_put rfl rfl (c_X_put hS ⟨(sc_335 hS), by decide⟩ (w32 ((w32 (v5 * (8 : Int))) + v6)) (atM s4.2 9 20 s4.1) s4.2) ?_
            refine s_letM (fun M7 => ?_)
            exact s_mask [true, true, true, true, false, false] (s_ret0 rfl)
      refine s_iinc (dt_Roads_measure 50 _ _ _ rfl) rfl rfl ?_
      refine s_goto (tgt := 27) (dt_Roads_measure 51 _ _ _ rfl) rfl ?_
      exact s_mask [true, true, true, true, false, false] (s_ret0 rfl)
    · exact s_mask [true, true, false, false, false, false] (s_ret0 rfl)
  intro e9
  refine s_iconst (dt_Roads_measure 52 _ _ _ rfl) rfl ?_
  refine s_istore_n (dt_Roads_measure 53 _ _ _ rfl) rfl ?_
  refine s_bd (κ := (fun (e14 : KM) => kC 147 [none, none, none, none, none, none] [] S e14)) (s_mask [true, true, false, true, false, false] (s_while (c := fun s10 => kC 104 [some (VR (some 332)), some (VR (some 2)), none, some (VI s10.1), none, none] [] S s10.2) (fun s10 => ?_) ((0 : Int), e9))) ?_
  · refine s_iload_n (dt_Roads_measure 54 _ _ _ rfl) rfl ?_
    refine s_aload_n (dt_Roads_measure 55 _ _ _ rfl) rfl ?_
    refine s_getI (c := 12) (j := 0) (dt_Roads_measure 56 _ _ _ rfl) (kf_Roads_61) (sc_2 hS) rfl ?_
    refine s_if_icmp_ge (tgt := 147) (dt_Roads_measure 57 _ _ _ rfl) rfl ?_ ?_
    · refine s_iconst (dt_Roads_measure 58 _ _ _ rfl) rfl ?_
      refine s_istore (dt_Roads_measure 59 _ _ _ rfl) rfl ?_
      refine s_bd (κ := (fun (e13 : KM) => kC 141 [some (VR (some 332)), some (VR (some 2)), none, some (VI s10.1), none, none] [] S e13)) (s_mask [true, true, false, true, true, false] (s_while (c := fun s11 => kC 115 [some (VR (some 332)), some (VR (some 2)), none, some (VI s10.1), some (VI s11.1), none] [] S s11.2) (fun s11 => ?_) ((0 : Int), s10.2))) ?_
      · refine s_iload (dt_Roads_measure 60 _ _ _ rfl) rfl ?_
        refine s_aload_n (dt_Roads_measure 61 _ _ _ rfl) rfl ?_
        refine s_getI (c := 12) (j := 0) (dt_Roads_measure 62 _ _ _ rfl) (kf_Roads_61) (sc_2 hS) rfl ?_
        refine s_if_icmp_ge (tgt := 141) (dt_Roads_measure 63 _ _ _ rfl) rfl ?_ ?_
        · refine s_aload_n (dt_Roads_measure 64 _ _ _ rfl) rfl ?_
          refine s_iload (dt_Roads_measure 65 _ _ _ rfl) rfl ?_
          refine s_iload_n (dt_Roads_measure 66 _ _ _ rfl) rfl ?_
          refine s_aload_n (dt_Roads_measure 67 _ _ _ rfl) rfl ?_
          refine s_getI (c := 12) (j := 0) (dt_Roads_measure 68 _ _ _ rfl) (kf_Roads_61) (sc_2 hS) rfl ?_
          refine s_callO (y := y_Roads_shortenRoads) (Y' := Y_Roads_shortenRoads) (as := [VR (some 332), VI s11.1, VI s10.1, VI (s11.2 2 0)]) (r := fun q => none) (M' := fun q => q) (kInvV (dt_Roads_measure 69 _ _ _ rfl) kin_Roads_shortenRoads 8 rfl (sc_332 hS) kse_Roads_shortenRoads rfl) kl_Roads_64 md_Roads_shortenRoads rfl rfl (fun q hq => c_Roads_shortenRoads hS s11.1 s10.1 (s11.2 2 0) s11.2 q hq) (fun q12 => ?_)
          refine s_iinc (dt_Roads_measure 70 _ _ _ rfl) rfl rfl ?_
          refine s_goto (tgt := 115) (dt_Roads_measure 71 _ _ _ rfl) rfl ?_
          exact s_mask [true, true, false, true, true, false] (s_ret0 rfl)
        · exact s_mask [true, true, false, true, false, false] (s_ret0 rfl)
      intro e13
      refine s_iinc (dt_Roads_measure 72 _ _ _ rfl) rfl rfl ?_
      refine s_goto (tgt := 104) (dt_Roads_measure 73 _ _ _ rfl) rfl ?_
      exact s_mask [true, true, false, true, false, false] (s_ret0 rfl)
    · exact s_mask [false, false, false, false, false, false] (s_ret0 rfl)
  intro e14
  exact s_vret (dt_Roads_measure 74 _ _ _ rfl) rfl rfl
theorem c_Roads_measure {S : KS} (hS : KExt 382 S)  (a1 : Int) (M : KM) : ∀ q, f_Roads_measure a1 M = some q → Ctr y_Roads_measure Y_Roads_measure [VR (some 332), VR (some 2), VI a1] S M (none) S (q) := fun q hq =>
  ctr_of md_Roads_measure (Nat.le_of_ble_eq_true rfl) ⟨Nat.le_refl _, Nat.le_refl _⟩ 3 hq rfl (fun _ G => sim_Roads_measure hS  a1 M)
set_option maxRecDepth 100000 in
theorem sim_Roads_nearestWithRoom {G : Gam} {S : KS} (hS : KExt 382 S)  (a0 : Int) (a1 : Int) (M : KM) : Sim G Y_Roads_nearestWithRoom (f_Roads_nearestWithRoom a0 a1 M) (kC 0 [some (VR (some 332)), some (VI a0), some (VI a1), none, none, none, none] [] S M) (fun (q : Int) => Sum.inr (some (VI q), S, M)) := by
  unfold f_Roads_nearestWithRoom
  refine s_ldc (n := (100000000 : Int)) (kc_Roads_33) (dt_Roads_nearestWithRoom 0 _ _ _ rfl) rfl ?_
  refine s_istore_n (dt_Roads_nearestWithRoom 1 _ _ _ rfl) rfl ?_
  refine s_iconst (dt_Roads_nearestWithRoom 2 _ _ _ rfl) rfl ?_
  refine s_istore (dt_Roads_nearestWithRoom 3 _ _ _ rfl) rfl ?_
  refine s_iconst (dt_Roads_nearestWithRoom 4 _ _ _ rfl) rfl ?_
  refine s_istore (dt_Roads_nearestWithRoom 5 _ _ _ rfl) rfl ?_
  refine s_bd (κ := (fun (e6 : Int) => kC 70 [none, none, none, none, some (VI e6), none, none] [] S M)) (s_mask [true, true, true, true, true, true, false] (s_while (c := fun s1 => kC 9 [some (VR (some 332)), some (VI a0), some (VI a1), some (VI s1.1), some (VI s1.2.1), some (VI s1.2.2), none] [] S M) (fun s1 => ?_) ((100000000 : Int), (-1 : Int), (0 : Int)))) ?_
  · refine s_iload (dt_Roads_nearestWithRoom 6 _ _ _ rfl) rfl ?_
    refine s_bipush (dt_Roads_nearestWithRoom 7 _ _ _ rfl) rfl ?_
    refine s_if_icmp_ge (tgt := 70) (dt_Roads_nearestWithRoom 8 _ _ _ rfl) rfl ?_ ?_
    · refine s_iload_n (dt_Roads_nearestWithRoom 9 _ _ _ rfl) rfl ?_
      refine s_bd (κ := fun t4 => kC 37 [some (VR (some 332)), some (VI a0), some (VI a1), some (VI s1.1), some (VI s1.2.1), some (VI s1.2.2), none] [VI t4] S M) ?_ (fun t4 => ?_)
      · refine s_if_eq (tgt := 30) (dt_Roads_nearestWithRoom 10 _ _ _ rfl) rfl ?_ ?_
        · refine s_aload_n (dt_Roads_nearestWithRoom 16 _ _ _ rfl) rfl ?_
          refine s_iload_n (dt_Roads_nearestWithRoom 17 _ _ _ rfl) rfl ?_
          refine s_iload (dt_Roads_nearestWithRoom 18 _ _ _ rfl) rfl ?_
          refine s_callO (y := y_Roads_roadFrom) (Y' := Y_Roads_roadFrom) (as := [VR (some 332), VI a0, VI s1.2.2]) (r := fun q => some (VI q)) (M' := fun q => M) (kInvV (dt_Roads_nearestWithRoom 19 _ _ _ rfl) kin_Roads_roadFrom 8 rfl (sc_332 hS) kse_Roads_roadFrom rfl) kl_Roads_68 md_Roads_roadFrom rfl rfl (fun q hq => c_Roads_roadFrom hS a0 s1.2.2 M q hq) (fun q2 => ?_)
          exact s_mask [true, true, true, true, true, true, false] (s_ret0 rfl)
        · refine s_aload_n (dt_Roads_nearestWithRoom 11 _ _ _ rfl) rfl ?_
          refine s_iload (dt_Roads_nearestWithRoom 12 _ _ _ rfl) rfl ?_
          refine s_iload_n (dt_Roads_nearestWithRoom 13 _ _ _ rfl) rfl ?_
          refine s_callO (y := y_Roads_roadFrom) (Y' := Y_Roads_roadFrom) (as := [VR (some 332), VI s1.2.2, VI a0]) (r := fun q => some (VI q)) (M' := fun q => M) (kInvV (dt_Roads_nearestWithRoom 14 _ _ _ rfl) kin_Roads_roadFrom 8 rfl (sc_332 hS) kse_Roads_roadFrom rfl) kl_Roads_68 md_Roads_roadFrom rfl rfl (fun q hq => c_Roads_roadFrom hS s1.2.2 a0 M q hq) (fun q3 => ?_)
          refine s_goto (tgt := 37) (dt_Roads_nearestWithRoom 15 _ _ _ rfl) rfl ?_
          exact s_mask [true, true, true, true, true, true, false] (s_ret0 rfl)
      refine s_istore (dt_Roads_nearestWithRoom 20 _ _ _ rfl) rfl ?_
      refine s_aload_n (dt_Roads_nearestWithRoom 21 _ _ _ rfl) rfl ?_
      refine s_getR (c := 8) (j := 3) (o := (some 336)) (dt_Roads_nearestWithRoom 22 _ _ _ rfl) (kf_Roads_21) (sc_332 hS) rfl rfl ?_
      refine s_iload (dt_Roads_nearestWithRoom 23 _ _ _ rfl) rfl ?_
      refine s_inv (y := y_X_at) (Y' := Y_X_at) (as := [VR (some 336), VI s1.2.2]) (r := some (VI (atM M 336 8 s1.2.2))) (M' := M) (kInvS (dt_Roads_nearestWithRoom 24 _ _ _ rfl) kst_X_at rfl) kl_Roads_43 md_X_at rfl rfl (c_X_at hS ⟨(sc_336 hS), by decide⟩ s1.2.2 M) ?_
      refine s_bd (κ := fun t5 => kC 64 [some (VR (some 332)), some (VI a0), some (VI a1), some (VI t5.1), some (VI t5.2), some (VI s1.2.2), none] [] S M) ?_ (fun t5 => ?_)
      · refine s_if_le (tgt := 64) (dt_Roads_nearestWithRoom 25 _ _ _ rfl) rfl ?_ ?_
        · exact s_mask [true, true, true, true, true, true, false] (s_ret0 rfl)
        · refine s_iload (dt_Roads_nearestWithRoom 26 _ _ _ rfl) rfl ?_
          refine s_iload_n (dt_Roads_nearestWithRoom 27 _ _ _ rfl) rfl ?_
          refine s_if_icmp_ge (tgt := 64) (dt_Roads_nearestWithRoom 28 _ _ _ rfl) rfl ?_ ?_
          · refine s_iload (dt_Roads_nearestWithRoom 29 _ _ _ rfl) rfl ?_
            refine s_istore_n (dt_Roads_nearestWithRoom 30 _ _ _ rfl) rfl ?_
            refine s_iload (dt_Roads_nearestWithRoom 31 _ _ _ rfl) rfl ?_
            refine s_istore (dt_Roads_nearestWithRoom 32 _ _ _ rfl) rfl ?_
            exact s_mask [true, true, true, true, true, true, false] (s_ret0 rfl)
          · exact s_mask [true, true, true, true, true, true, false] (s_ret0 rfl)
      refine s_iinc (dt_Roads_nearestWithRoom 33 _ _ _ rfl) rfl rfl ?_
      refine s_goto (tgt := 9) (dt_Roads_nearestWithRoom 34 _ _ _ rfl) rfl ?_
      exact s_mask [true, true, true, true, true, true, false] (s_ret0 rfl)
    · exact s_mask [false, false, false, false, true, false, false] (s_ret0 rfl)
  intro e6
  refine s_iload (dt_Roads_nearestWithRoom 35 _ _ _ rfl) rfl ?_
  exact s_iret (dt_Roads_nearestWithRoom 36 _ _ _ rfl) rfl rfl
theorem c_Roads_nearestWithRoom {S : KS} (hS : KExt 382 S)  (a0 : Int) (a1 : Int) (M : KM) : ∀ q, f_Roads_nearestWithRoom a0 a1 M = some q → Ctr y_Roads_nearestWithRoom Y_Roads_nearestWithRoom [VR (some 332), VI a0, VI a1] S M (some (VI q)) S (M) := fun q hq =>
  ctr_of md_Roads_nearestWithRoom (Nat.le_of_ble_eq_true rfl) ⟨Nat.le_refl _, Nat.le_refl _⟩ 4 hq rfl (fun _ G => sim_Roads_nearestWithRoom hS  a0 a1 M)
set_option maxRecDepth 100000 in
theorem sim_Roads_priceSteps {G : Gam} {S : KS} (hS : KExt 382 S)  (a0 : Int) (a1 : Int) (a2 : Int) (a3 : Int) (M : KM) : Sim G Y_Roads_priceSteps (f_Roads_priceSteps a0 a1 a2 a3 M) (kC 0 [some (VR (some 332)), some (VI a0), some (VI a1), some (VI a2), some (VI a3), none, none, none, none] [] S M) (fun (q : KM) => Sum.inr (none, S, q)) := by
  unfold f_Roads_priceSteps
  refine s_iconst (dt_Roads_priceSteps 0 _ _ _ rfl) rfl ?_
  refine s_istore (dt_Roads_priceSteps 1 _ _ _ rfl) rfl ?_
  refine s_iload_n (dt_Roads_priceSteps 2 _ _ _ rfl) rfl ?_
  refine s_iload_n (dt_Roads_priceSteps 3 _ _ _ rfl) rfl ?_
  refine s_isub (dt_Roads_priceSteps 4 _ _ _ rfl) ?_
  refine s_iload (dt_Roads_priceSteps 5 _ _ _ rfl) rfl ?_
  refine s_imul (dt_Roads_priceSteps 6 _ _ _ rfl) ?_
  refine s_letI (fun v1 => ?_)
  refine s_istore (dt_Roads_priceSteps 7 _ _ _ rfl) rfl ?_
  refine s_iconst (dt_Roads_priceSteps 8 _ _ _ rfl) rfl ?_
  refine s_istore (dt_Roads_priceSteps 9 _ _ _ rfl) rfl ?_
  refine s_bd (κ := (Sum.elim (fun (e11 : KM) => kC 44 [none, none, none, none, none, none, none, none, none] [] S e11) (fun (e12 : KM) => kC 114 [none, none, none, none, none, none, none, none, none] [] S e12))) (s_mask [true, true, true, false, true, true, true, true, false] (s_while (c := fun s2 => kC 14 [some (VR (some 332)), some (VI a0), some (VI a1), none, some (VI a3), some (VI s2.1), some (VI v1), some (VI s2.2.1), none] [] S s2.2.2) (fun s2 => ?_) ((0 : Int), (1 : Int), M))) ?_
  · refine s_iload (dt_Roads_priceSteps 10 _ _ _ rfl) rfl ?_
    refine s_iload (dt_Roads_priceSteps 11 _ _ _ rfl) rfl ?_
    refine s_if_icmp_gt (tgt := 114) (dt_Roads_priceSteps 12 _ _ _ rfl) rfl ?_ ?_
    · refine s_aload_n (dt_Roads_priceSteps 13 _ _ _ rfl) rfl ?_
      refine s_iload_n (dt_Roads_priceSteps 14 _ _ _ rfl) rfl ?_
      refine s_iload (dt_Roads_priceSteps 15 _ _ _ rfl) rfl ?_
      refine s_bd (κ := fun t3 => kC 33 [some (VR (some 332)), some (VI a0), some (VI a1), none, some (VI a3), some (VI s2.1), some (VI v1), some (VI s2.2.1), none] [VI t3, VI a0, VR (some 332)] S s2.2.2) ?_ (fun t3 => ?_)
      · refine s_if_le (tgt := 32) (dt_Roads_priceSteps 16 _ _ _ rfl) rfl ?_ ?_
        · refine s_iconst (dt_Roads_priceSteps 19 _ _ _ rfl) rfl ?_
          exact s_mask [true, true, true, false, true, true, true, true, false] (s_ret0 rfl)
        · refine s_iconst (dt_Roads_priceSteps 17 _ _ _ rfl) rfl ?_
          refine s_goto (tgt := 33) (dt_Roads_priceSteps 18 _ _ _ rfl) rfl ?_
          exact s_mask [true, true, true, false, true, true, true, true, false] (s_ret0 rfl)
      refine s_callO (y := y_Roads_nearestWithRoom) (Y' := Y_Roads_nearestWithRoom) (as := [VR (some 332), VI a0, VI t3]) (r := fun q => some (VI q)) (M' := fun q => s2.2.2) (kInvV (dt_Roads_priceSteps 20 _ _ _ rfl) kin_Roads_nearestWithRoom 8 rfl (sc_332 hS) kse_Roads_nearestWithRoom rfl) kl_Roads_90 md_Roads_nearestWithRoom rfl rfl (fun q hq => c_Roads_nearestWithRoom hS a0 t3 s2.2.2 q hq) (fun q4 => ?_)
      refine s_istore (dt_Roads_priceSteps 21 _ _ _ rfl) rfl ?_
      refine s_iload (dt_Roads_priceSteps 22 _ _ _ rfl) rfl ?_
      refine s_iconst (dt_Roads_priceSteps 23 _ _ _ rfl) rfl ?_
      refine s_if_icmp_ne (tgt := 45) (dt_Roads_priceSteps 24 _ _ _ rfl) rfl ?_ ?_
      · exact s_mask [false, false, false, false, false, false, false, false, false] (s_ret0 rfl)
      · refine s_aload_n (dt_Roads_priceSteps 26 _ _ _ rfl) rfl ?_
        refine s_getR (c := 8) (j := 3) (o := (some 336)) (dt_Roads_priceSteps 27 _ _ _ rfl) (kf_Roads_21) (sc_332 hS) rfl rfl ?_
        refine s_iload (dt_Roads_priceSteps 28 _ _ _ rfl) rfl ?_
        refine s_aload_n (dt_Roads_priceSteps 29 _ _ _ rfl) rfl ?_
        refine s_getR (c := 8) (j := 3) (o := (some 336)) (dt_Roads_priceSteps 30 _ _ _ rfl) (kf_Roads_21) (sc_332 hS) rfl rfl ?_
        refine s_iload (dt_Roads_priceSteps 31 _ _ _ rfl) rfl ?_
        refine s_inv (y := y_X_at) (Y' := Y_X_at) (as := [VR (some 336), VI q4]) (r := some (VI (atM s2.2.2 336 8 q4))) (M' := s2.2.2) (kInvS (dt_Roads_priceSteps 32 _ _ _ rfl) kst_X_at rfl) kl_Roads_43 md_X_at rfl rfl (c_X_at hS ⟨(sc_336 hS), by decide⟩ q4 s2.2.2) ?_
        refine s_iconst (dt_Roads_priceSteps 33 _ _ _ rfl) rfl ?_
        refine s_isub (dt_Roads_priceSteps 34 _ _ _ rfl) ?_
        refine s_inv (y := y_X_put) (Y' := Y_X_put) (as := [VR (some 336), VI q4, VI (w32 ((atM s2.2.2 336 8 q4) - (1 : Int)))]) (r := none) (M' := (putM s2.2.2 336 8 q4 (w32 ((atM s2.2.2 336 8 q4) - (1 : Int))))) (kInvS (dt_Roads_priceSteps 35 _ _ _ rfl) kst_X_put rfl) kl_Roads_57 md_X_put rfl rfl (c_X_put hS ⟨(sc_336 hS), by decide⟩ q4 (w32 ((atM s2.2.2 336 8 q4) - (1 : Int))) s2.2.2) ?_
        refine s_letM (fun M5 => ?_)
        refine s_iload (dt_Roads_priceSteps 36 _ _ _ rfl) rfl ?_
        refine s_iload (dt_Roads_priceSteps 37 _ _ _ rfl) rfl ?_
        refine s_bd (κ := fun t8 => kC 89 [some (VR (some 332)), some (VI a0), some (VI a1), none, some (VI a3), none, some (VI v1), some (VI s2.2.1), none] [VI t8, VI s2.1] S M5) ?_ (fun t8 => ?_)
        · refine s_if_le (tgt := 82) (dt_Roads_priceSteps 38 _ _ _ rfl) rfl ?_ ?_
          · refine s_aload_n (dt_Roads_priceSteps 44 _ _ _ rfl) rfl ?_
            refine s_iload_n (dt_Roads_priceSteps 45 _ _ _ rfl) rfl ?_
            refine s_iload (dt_Roads_priceSteps 46 _ _ _ rfl) rfl ?_
            refine s_callO (y := y_Roads_roadFrom) (Y' := Y_Roads_roadFrom) (as := [VR (some 332), VI a0, VI q4]) (r := fun q => some (VI q)) (M' := fun q => M5) (kInvV (dt_Roads_priceSteps 47 _ _ _ rfl) kin_Roads_roadFrom 8 rfl (sc_332 hS) kse_Roads_roadFrom rfl) kl_Roads_68 md_Roads_roadFrom rfl rfl (fun q hq => c_Roads_roadFrom hS a0 q4 M5 q hq) (fun q6 => ?_)
            exact s_mask [true, true, true, false, true, false, true, true, false] (s_ret0 rfl)
          · refine s_aload_n (dt_Roads_priceSteps 39 _ _ _ rfl) rfl ?_
            refine s_iload (dt_Roads_priceSteps 40 _ _ _ rfl) rfl ?_
            refine s_iload_n (dt_Roads_priceSteps 41 _ _ _ rfl) rfl ?_
            refine s_callO (y := y_Roads_roadFrom) (Y' := Y_Roads_roadFrom) (as := [VR (some 332), VI q4, VI a0]) (r := fun q => some (VI q)) (M' := fun q => M5) (kInvV (dt_Roads_priceSteps 42 _ _ _ rfl) kin_Roads_roadFrom 8 rfl (sc_332 hS) kse_Roads_roadFrom rfl) kl_Roads_68 md_Roads_roadFrom rfl rfl (fun q hq => c_Roads_roadFrom hS q4 a0 M5 q hq) (fun q7 => ?_)
            refine s_goto (tgt := 89) (dt_Roads_priceSteps 43 _ _ _ rfl) rfl ?_
            exact s_mask [true, true, true, false, true, false, true, true, false] (s_ret0 rfl)
        refine s_iadd (dt_Roads_priceSteps 48 _ _ _ rfl) ?_
        refine s_letI (fun v9 => ?_)
        refine s_istore (dt_Roads_priceSteps 49 _ _ _ rfl) rfl ?_
        refine s_aload_n (dt_Roads_priceSteps 50 _ _ _ rfl) rfl ?_
        refine s_getR (c := 8) (j := 1) (o := (some 334)) (dt_Roads_priceSteps 51 _ _ _ rfl) (kf_Roads_15) (sc_332 hS) rfl rfl ?_
        refine s_iload_n (dt_Roads_priceSteps 52 _ _ _ rfl) rfl ?_
        refine s_iload (dt_Roads_priceSteps 53 _ _ _ rfl) rfl ?_
        refine s_iload (dt_Roads_priceSteps 54 _ _ _ rfl) rfl ?_
        refine s_imul (dt_Roads_priceSteps 55 _ _ _ rfl) ?_
        refine s_iadd (dt_Roads_priceSteps 56 _ _ _ rfl) ?_
        refine s_iload (dt_Roads_priceSteps 57 _ _ _ rfl) rfl ?_
        refine s_inv (y := y_X_put) (Y' := Y_X_put) (as := [VR (some 334), VI (w32 (a1 + (w32 (s2.2.1 * a3)))), VI v9]) (r := none) (M' := (putM M5 334 151 (w32 (a1 + (w32 (s2.2.1 * a3)))) v9)) (kInvS (dt_Roads_priceSteps 58 _ _ _ rfl) kst_X_put rfl) kl_Roads_57 md_X_put rfl rfl (c_X_put hS ⟨(sc_334 hS), by decide⟩ (w32 (a1 + (w32 (s2.2.1 * a3)))) v9 M5) ?_
        refine s_letM (fun M10 => ?_)
        refine s_iinc (dt_Roads_priceSteps 59 _ _ _ rfl) rfl rfl ?_
        refine s_goto (tgt := 14) (dt_Roads_priceSteps 60 _ _ _ rfl) rfl ?_
        exact s_mask [true, true, true, false, true, true, true, true, false] (s_ret0 rfl)
    · exact s_mask [false, false, false, false, false, false, false, false, false] (s_ret0 rfl)
  refine s_elim (fun e11 => ?_) ?_
  · exact s_vret (dt_Roads_priceSteps 25 _ _ _ rfl) rfl rfl
  intro e12
  exact s_vret (dt_Roads_priceSteps 61 _ _ _ rfl) rfl rfl
theorem c_Roads_priceSteps {S : KS} (hS : KExt 382 S)  (a0 : Int) (a1 : Int) (a2 : Int) (a3 : Int) (M : KM) : ∀ q, f_Roads_priceSteps a0 a1 a2 a3 M = some q → Ctr y_Roads_priceSteps Y_Roads_priceSteps [VR (some 332), VI a0, VI a1, VI a2, VI a3] S M (none) S (q) := fun q hq =>
  ctr_of md_Roads_priceSteps (Nat.le_of_ble_eq_true rfl) ⟨Nat.le_refl _, Nat.le_refl _⟩ 4 hq rfl (fun _ G => sim_Roads_priceSteps hS  a0 a1 a2 a3 M)
set_option maxRecDepth 100000 in
theorem sim_Roads_priceAges {G : Gam} {S : KS} (hS : KExt 382 S)  (a2 : Int) (M : KM) : Sim G Y_Roads_priceAges (f_Roads_priceAges a2 M) (kC 0 [some (VR (some 332)), some (VR (some 2)), some (VR (some 34)), some (VI a2), none, none, none] [] S M) (fun (q : KM) => Sum.inr (none, S, q)) := by
  unfold f_Roads_priceAges
  refine s_iconst (dt_Roads_priceAges 0 _ _ _ rfl) rfl ?_
  refine s_istore (dt_Roads_priceAges 1 _ _ _ rfl) rfl ?_
  refine s_bd (κ := (fun (e3 : KM) => kC 28 [some (VR (some 332)), some (VR (some 2)), some (VR (some 34)), some (VI a2), none, none, none] [] S e3)) (s_mask [true, true, true, true, true, false, false] (s_while (c := fun s1 => kC 3 [some (VR (some 332)), some (VR (some 2)), some (VR (some 34)), some (VI a2), some (VI s1.1), none, none] [] S s1.2) (fun s1 => ?_) ((0 : Int), M))) ?_
  · refine s_iload (dt_Roads_priceAges 2 _ _ _ rfl) rfl ?_
    refine s_aload_n (dt_Roads_priceAges 3 _ _ _ rfl) rfl ?_
    refine s_getR (c := 8) (j := 1) (o := (some 334)) (dt_Roads_priceAges 4 _ _ _ rfl) (kf_Roads_15) (sc_332 hS) rfl rfl ?_
    refine s_alen (N := 151) (dt_Roads_priceAges 5 _ _ _ rfl) (sc_334 hS) rfl rfl (by decide) ?_
    refine s_if_icmp_ge (tgt := 28) (dt_Roads_priceAges 6 _ _ _ rfl) rfl ?_ ?_
    · refine s_aload_n (dt_Roads_priceAges 7 _ _ _ rfl) rfl ?_
      refine s_getR (c := 8) (j := 1) (o := (some 334)) (dt_Roads_priceAges 8 _ _ _ rfl) (kf_Roads_15) (sc_332 hS) rfl rfl ?_
      refine s_iload (dt_Roads_priceAges 9 _ _ _ rfl) rfl ?_
      refine s_ldc (n := (100000000 : Int)) (kc_Roads_33) (dt_Roads_priceAges 10 _ _ _ rfl) rfl ?_
      refine s_iast (N := 151) (dt_Roads_priceAges 11 _ _ _ rfl) (sc_334 hS) rfl ?_
      refine s_letM (fun M2 => ?_)
      refine s_iinc (dt_Roads_priceAges 12 _ _ _ rfl) rfl rfl ?_
      refine s_goto (tgt := 3) (dt_Roads_priceAges 13 _ _ _ rfl) rfl ?_
      exact s_mask [true, true, true, true, true, false, false] (s_ret0 rfl)
    · exact s_mask [true, true, true, true, false, false, false] (s_ret0 rfl)
  intro e3
  refine s_aload_n (dt_Roads_priceAges 14 _ _ _ rfl) rfl ?_
  refine s_getR (c := 10) (j := 0) (o := (some 35)) (dt_Roads_priceAges 15 _ _ _ rfl) (kf_Roads_72) (sc_34 hS) rfl rfl ?_
  refine s_iload_n (dt_Roads_priceAges 16 _ _ _ rfl) rfl ?_
  refine s_inv (y := y_X_at) (Y' := Y_X_at) (as := [VR (some 35), VI a2]) (r := some (VI (atM e3 35 8 a2))) (M' := e3) (kInvS (dt_Roads_priceAges 17 _ _ _ rfl) kst_X_at rfl) kl_Roads_43 md_X_at rfl rfl (c_X_at hS ⟨(sc_35 hS), by decide⟩ a2 e3) ?_
  refine s_letI (fun v4 => ?_)
  refine s_istore (dt_Roads_priceAges 18 _ _ _ rfl) rfl ?_
  refine s_aload_n (dt_Roads_priceAges 19 _ _ _ rfl) rfl ?_
  refine s_getR (c := 8) (j := 1) (o := (some 334)) (dt_Roads_priceAges 20 _ _ _ rfl) (kf_Roads_15) (sc_332 hS) rfl rfl ?_
  refine s_iload (dt_Roads_priceAges 21 _ _ _ rfl) rfl ?_
  refine s_iconst (dt_Roads_priceAges 22 _ _ _ rfl) rfl ?_
  refine s_inv (y := y_X_put) (Y' := Y_X_put) (as := [VR (some 334), VI v4, VI (0 : Int)]) (r := none) (M' := (putM e3 334 151 v4 (0 : Int))) (kInvS (dt_Roads_priceAges 23 _ _ _ rfl) kst_X_put rfl) kl_Roads_57 md_X_put rfl rfl (c_X_put hS ⟨(sc_334 hS), by decide⟩ v4 (0 : Int) e3) ?_
  refine s_letM (fun M5 => ?_)
  refine s_iconst (dt_Roads_priceAges 24 _ _ _ rfl) rfl ?_
  refine s_istore (dt_Roads_priceAges 25 _ _ _ rfl) rfl ?_
  refine s_bd (κ := (fun (e10 : KM) => kC 121 [some (VR (some 332)), some (VR (some 2)), some (VR (some 34)), some (VI a2), some (VI v4), none, none] [] S e10)) (s_mask [true, true, true, true, true, true, false] (s_while (c := fun s6 => kC 51 [some (VR (some 332)), some (VR (some 2)), some (VR (some 34)), some (VI a2), some (VI v4), some (VI s6.1), none] [] S s6.2) (fun s6 => ?_) ((0 : Int), M5))) ?_
  · refine s_iload (dt_Roads_priceAges 26 _ _ _ rfl) rfl ?_
    refine s_bipush (dt_Roads_priceAges 27 _ _ _ rfl) rfl ?_
    refine s_if_icmp_ge (tgt := 121) (dt_Roads_priceAges 28 _ _ _ rfl) rfl ?_ ?_
    · refine s_aload_n (dt_Roads_priceAges 29 _ _ _ rfl) rfl ?_
      refine s_getI (c := 10) (j := 3) (dt_Roads_priceAges 30 _ _ _ rfl) (kf_Roads_77) (sc_34 hS) rfl ?_
      refine s_iload (dt_Roads_priceAges 31 _ _ _ rfl) rfl ?_
      refine s_inv (y := y_X_isIn) (Y' := Y_X_isIn) (as := [VI (s6.2 34 3), VI s6.1]) (r := some (VI (isInV (s6.2 34 3) s6.1))) (M' := s6.2) (kInvS (dt_Roads_priceAges 32 _ _ _ rfl) kst_X_isIn rfl) kl_Roads_50 md_X_isIn rfl rfl (c_X_isIn hS (s6.2 34 3) s6.1 s6.2) ?_
      refine s_bd (κ := fun t7 => kC 81 [some (VR (some 332)), some (VR (some 2)), some (VR (some 34)), some (VI a2), some (VI v4), some (VI s6.1), none] [VI t7] S s6.2) ?_ (fun t7 => ?_)
      · refine s_if_eq (tgt := 80) (dt_Roads_priceAges 33 _ _ _ rfl) rfl ?_ ?_
        · refine s_iconst (dt_Roads_priceAges 39 _ _ _ rfl) rfl ?_
          exact s_mask [true, true, true, true, true, true, false] (s_ret0 rfl)
        · refine s_iload (dt_Roads_priceAges 34 _ _ _ rfl) rfl ?_
          refine s_iload_n (dt_Roads_priceAges 35 _ _ _ rfl) rfl ?_
          refine s_if_icmp_eq (tgt := 80) (dt_Roads_priceAges 36 _ _ _ rfl) rfl ?_ ?_
          · refine s_iconst (dt_Roads_priceAges 39 _ _ _ rfl) rfl ?_
            exact s_mask [true, true, true, true, true, true, false] (s_ret0 rfl)
          · refine s_iconst (dt_Roads_priceAges 37 _ _ _ rfl) rfl ?_
            refine s_goto (tgt := 81) (dt_Roads_priceAges 38 _ _ _ rfl) rfl ?_
            exact s_mask [true, true, true, true, true, true, false] (s_ret0 rfl)
      refine s_istore (dt_Roads_priceAges 40 _ _ _ rfl) rfl ?_
      refine s_aload_n (dt_Roads_priceAges 41 _ _ _ rfl) rfl ?_
      refine s_getR (c := 8) (j := 3) (o := (some 336)) (dt_Roads_priceAges 42 _ _ _ rfl) (kf_Roads_21) (sc_332 hS) rfl rfl ?_
      refine s_iload (dt_Roads_priceAges 43 _ _ _ rfl) rfl ?_
      refine s_iload (dt_Roads_priceAges 44 _ _ _ rfl) rfl ?_
      refine s_bd (κ := fun t8 => kC 112 [some (VR (some 332)), some (VR (some 2)), some (VR (some 34)), some (VI a2), some (VI v4), some (VI s6.1), none] [VI t8, VI s6.1, VR (some 336)] S s6.2) ?_ (fun t8 => ?_)
      · refine s_if_eq (tgt := 111) (dt_Roads_priceAges 45 _ _ _ rfl) rfl ?_ ?_
        · refine s_iconst (dt_Roads_priceAges 54 _ _ _ rfl) rfl ?_
          exact s_mask [true, true, true, true, true, true, false] (s_ret0 rfl)
        · refine s_aload_n (dt_Roads_priceAges 46 _ _ _ rfl) rfl ?_
          refine s_getR (c := 10) (j := 0) (o := (some 35)) (dt_Roads_priceAges 47 _ _ _ rfl) (kf_Roads_72) (sc_34 hS) rfl rfl ?_
          refine s_iload (dt_Roads_priceAges 48 _ _ _ rfl) rfl ?_
          refine s_inv (y := y_X_at) (Y' := Y_X_at) (as := [VR (some 35), VI s6.1]) (r := some (VI (atM s6.2 35 8 s6.1))) (M' := s6.2) (kInvS (dt_Roads_priceAges 49 _ _ _ rfl) kst_X_at rfl) kl_Roads_43 md_X_at rfl rfl (c_X_at hS ⟨(sc_35 hS), by decide⟩ s6.1 s6.2) ?_
          refine s_aload_n (dt_Roads_priceAges 50 _ _ _ rfl) rfl ?_
          refine s_getI (c := 12) (j := 12) (dt_Roads_priceAges 51 _ _ _ rfl) (kf_Roads_80) (sc_2 hS) rfl ?_
          refine s_isub (dt_Roads_priceAges 52 _ _ _ rfl) ?_
          refine s_goto (tgt := 112) (dt_Roads_priceAges 53 _ _ _ rfl) rfl ?_
          exact s_mask [true, true, true, true, true, true, false] (s_ret0 rfl)
      refine s_inv (y := y_X_put) (Y' := Y_X_put) (as := [VR (some 336), VI s6.1, VI t8]) (r := none) (M' := (putM s6.2 336 8 s6.1 t8)) (kInvS (dt_Roads_priceAges 55 _ _ _ rfl) kst_X_put rfl) kl_Roads_57 md_X_put rfl rfl (c_X_put hS ⟨(sc_336 hS), by decide⟩ s6.1 t8 s6.2) ?_
      refine s_letM (fun M9 => ?_)
      refine s_iinc (dt_Roads_priceAges 56 _ _ _ rfl) rfl rfl ?_
      refine s_goto (tgt := 51) (dt_Roads_priceAges 57 _ _ _ rfl) rfl ?_
      exact s_mask [true, true, true, true, true, true, false] (s_ret0 rfl)
    · exact s_mask [true, true, true, true, true, false, false] (s_ret0 rfl)
  intro e10
  refine s_aload_n (dt_Roads_priceAges 58 _ _ _ rfl) rfl ?_
  refine s_iload_n (dt_Roads_priceAges 59 _ _ _ rfl) rfl ?_
  refine s_iload (dt_Roads_priceAges 60 _ _ _ rfl) rfl ?_
  refine s_aload_n (dt_Roads_priceAges 61 _ _ _ rfl) rfl ?_
  refine s_getI (c := 12) (j := 13) (dt_Roads_priceAges 62 _ _ _ rfl) (kf_Roads_83) (sc_2 hS) rfl ?_
  refine s_iconst (dt_Roads_priceAges 63 _ _ _ rfl) rfl ?_
  refine s_callO (y := y_Roads_priceSteps) (Y' := Y_Roads_priceSteps) (as := [VR (some 332), VI a2, VI v4, VI (e10 2 13), VI (1 : Int)]) (r := fun q => none) (M' := fun q => q) (kInvV (dt_Roads_priceAges 64 _ _ _ rfl) kin_Roads_priceSteps 8 rfl (sc_332 hS) kse_Roads_priceSteps rfl) kl_Roads_86 md_Roads_priceSteps rfl rfl (fun q hq => c_Roads_priceSteps hS a2 v4 (e10 2 13) (1 : Int) e10 q hq) (fun q11 => ?_)
  refine s_iconst (dt_Roads_priceAges 65 _ _ _ rfl) rfl ?_
  refine s_istore (dt_Roads_priceAges 66 _ _ _ rfl) rfl ?_
  refine s_bd (κ := (fun (e16 : KM) => kC 206 [some (VR (some 332)), some (VR (some 2)), none, some (VI a2), some (VI v4), none, none] [] S e16)) (s_mask [true, true, true, true, true, true, false] (s_while (c := fun s12 => kC 136 [some (VR (some 332)), some (VR (some 2)), some (VR (some 34)), some (VI a2), some (VI v4), some (VI s12.1), none] [] S s12.2) (fun s12 => ?_) ((0 : Int), q11))) ?_
  · refine s_iload (dt_Roads_priceAges 67 _ _ _ rfl) rfl ?_
    refine s_bipush (dt_Roads_priceAges 68 _ _ _ rfl) rfl ?_
    refine s_if_icmp_ge (tgt := 206) (dt_Roads_priceAges 69 _ _ _ rfl) rfl ?_ ?_
    · refine s_aload_n (dt_Roads_priceAges 70 _ _ _ rfl) rfl ?_
      refine s_getI (c := 10) (j := 3) (dt_Roads_priceAges 71 _ _ _ rfl) (kf_Roads_77) (sc_34 hS) rfl ?_
      refine s_iload (dt_Roads_priceAges 72 _ _ _ rfl) rfl ?_
      refine s_inv (y := y_X_isIn) (Y' := Y_X_isIn) (as := [VI (s12.2 34 3), VI s12.1]) (r := some (VI (isInV (s12.2 34 3) s12.1))) (M' := s12.2) (kInvS (dt_Roads_priceAges 73 _ _ _ rfl) kst_X_isIn rfl) kl_Roads_50 md_X_isIn rfl rfl (c_X_isIn hS (s12.2 34 3) s12.1 s12.2) ?_
      refine s_bd (κ := fun t13 => kC 166 [some (VR (some 332)), some (VR (some 2)), some (VR (some 34)), some (VI a2), some (VI v4), some (VI s12.1), none] [VI t13] S s12.2) ?_ (fun t13 => ?_)
      · refine s_if_eq (tgt := 165) (dt_Roads_priceAges 74 _ _ _ rfl) rfl ?_ ?_
        · refine s_iconst (dt_Roads_priceAges 80 _ _ _ rfl) rfl ?_
          exact s_mask [true, true, true, true, true, true, false] (s_ret0 rfl)
        · refine s_iload (dt_Roads_priceAges 75 _ _ _ rfl) rfl ?_
          refine s_iload_n (dt_Roads_priceAges 76 _ _ _ rfl) rfl ?_
          refine s_if_icmp_eq (tgt := 165) (dt_Roads_priceAges 77 _ _ _ rfl) rfl ?_ ?_
          · refine s_iconst (dt_Roads_priceAges 80 _ _ _ rfl) rfl ?_
            exact s_mask [true, true, true, true, true, true, false] (s_ret0 rfl)
          · refine s_iconst (dt_Roads_priceAges 78 _ _ _ rfl) rfl ?_
            refine s_goto (tgt := 166) (dt_Roads_priceAges 79 _ _ _ rfl) rfl ?_
            exact s_mask [true, true, true, true, true, true, false] (s_ret0 rfl)
      refine s_istore (dt_Roads_priceAges 81 _ _ _ rfl) rfl ?_
      refine s_aload_n (dt_Roads_priceAges 82 _ _ _ rfl) rfl ?_
      refine s_getR (c := 8) (j := 3) (o := (some 336)) (dt_Roads_priceAges 83 _ _ _ rfl) (kf_Roads_21) (sc_332 hS) rfl rfl ?_
      refine s_iload (dt_Roads_priceAges 84 _ _ _ rfl) rfl ?_
      refine s_iload (dt_Roads_priceAges 85 _ _ _ rfl) rfl ?_
      refine s_bd (κ := fun t14 => kC 197 [some (VR (some 332)), some (VR (some 2)), some (VR (some 34)), some (VI a2), some (VI v4), some (VI s12.1), none] [VI t14, VI s12.1, VR (some 336)] S s12.2) ?_ (fun t14 => ?_)
      · refine s_if_eq (tgt := 196) (dt_Roads_priceAges 86 _ _ _ rfl) rfl ?_ ?_
        · refine s_iconst (dt_Roads_priceAges 95 _ _ _ rfl) rfl ?_
          exact s_mask [true, true, true, true, true, true, false] (s_ret0 rfl)
        · refine s_aload_n (dt_Roads_priceAges 87 _ _ _ rfl) rfl ?_
          refine s_getI (c := 12) (j := 13) (dt_Roads_priceAges 88 _ _ _ rfl) (kf_Roads_83) (sc_2 hS) rfl ?_
          refine s_aload_n (dt_Roads_priceAges 89 _ _ _ rfl) rfl ?_
          refine s_getR (c := 10) (j := 0) (o := (some 35)) (dt_Roads_priceAges 90 _ _ _ rfl) (kf_Roads_72) (sc_34 hS) rfl rfl ?_
          refine s_iload (dt_Roads_priceAges 91 _ _ _ rfl) rfl ?_
          refine s_inv (y := y_X_at) (Y' := Y_X_at) (as := [VR (some 35), VI s12.1]) (r := some (VI (atM s12.2 35 8 s12.1))) (M' := s12.2) (kInvS (dt_Roads_priceAges 92 _ _ _ rfl) kst_X_at rfl) kl_Roads_43 md_X_at rfl rfl (c_X_at hS ⟨(sc_35 hS), by decide⟩ s12.1 s12.2) ?_
          refine s_isub (dt_Roads_priceAges 93 _ _ _ rfl) ?_
          refine s_goto (tgt := 197) (dt_Roads_priceAges 94 _ _ _ rfl) rfl ?_
          exact s_mask [true, true, true, true, true, true, false] (s_ret0 rfl)
      refine s_inv (y := y_X_put) (Y' := Y_X_put) (as := [VR (some 336), VI s12.1, VI t14]) (r := none) (M' := (putM s12.2 336 8 s12.1 t14)) (kInvS (dt_Roads_priceAges 96 _ _ _ rfl) kst_X_put rfl) kl_Roads_57 md_X_put rfl rfl (c_X_put hS ⟨(sc_336 hS), by decide⟩ s12.1 t14 s12.2) ?_
      refine s_letM (fun M15 => ?_)
      refine s_iinc (dt_Roads_priceAges 97 _ _ _ rfl) rfl rfl ?_
      refine s_goto (tgt := 136) (dt_Roads_priceAges 98 _ _ _ rfl) rfl ?_
      exact s_mask [true, true, true, true, true, true, false] (s_ret0 rfl)
    · exact s_mask [true, true, false, true, true, false, false] (s_ret0 rfl)
  intro e16
  refine s_aload_n (dt_Roads_priceAges 99 _ _ _ rfl) rfl ?_
  refine s_iload_n (dt_Roads_priceAges 100 _ _ _ rfl) rfl ?_
  refine s_iload (dt_Roads_priceAges 101 _ _ _ rfl) rfl ?_
  refine s_aload_n (dt_Roads_priceAges 102 _ _ _ rfl) rfl ?_
  refine s_getI (c := 12) (j := 12) (dt_Roads_priceAges 103 _ _ _ rfl) (kf_Roads_80) (sc_2 hS) rfl ?_
  refine s_iconst (dt_Roads_priceAges 104 _ _ _ rfl) rfl ?_
  refine s_callO (y := y_Roads_priceSteps) (Y' := Y_Roads_priceSteps) (as := [VR (some 332), VI a2, VI v4, VI (e16 2 12), VI (-1 : Int)]) (r := fun q => none) (M' := fun q => q) (kInvV (dt_Roads_priceAges 105 _ _ _ rfl) kin_Roads_priceSteps 8 rfl (sc_332 hS) kse_Roads_priceSteps rfl) kl_Roads_86 md_Roads_priceSteps rfl rfl (fun q hq => c_Roads_priceSteps hS a2 v4 (e16 2 12) (-1 : Int) e16 q hq) (fun q17 => ?_)
  exact s_vret (dt_Roads_priceAges 106 _ _ _ rfl) rfl rfl
theorem c_Roads_priceAges {S : KS} (hS : KExt 382 S)  (a2 : Int) (M : KM) : ∀ q, f_Roads_priceAges a2 M = some q → Ctr y_Roads_priceAges Y_Roads_priceAges [VR (some 332), VR (some 2), VR (some 34), VI a2] S M (none) S (q) := fun q hq =>
  ctr_of md_Roads_priceAges (Nat.le_of_ble_eq_true rfl) ⟨Nat.le_refl _, Nat.le_refl _⟩ 3 hq rfl (fun _ G => sim_Roads_priceAges hS  a2 M)
