set_option maxRecDepth 100000 in
theorem sim_X_town {G : Gam} {S : KS} (hS : KExt 382 S)   (M : KM) : Sim G Y_X_town (f_X_town  M) (kC 0 [some (VR (some 0)), none] [] S M) (fun (q : Int × KM) => Sum.inr (some (VI q.1), S, q.2)) := by
  unfold f_X_town
  refine s_aload_n (dt_X_town 0 _ _ _ rfl) rfl ?_
  refine s_getR (c := 0) (j := 3) (o := (some 14)) (dt_X_town 1 _ _ _ rfl) (kf_X_27) (sc_0 hS) rfl rfl ?_
  refine s_aload_n (dt_X_town 2 _ _ _ rfl) rfl ?_
  refine s_getR (c := 0) (j := 0) (o := (some 1)) (dt_X_town 3 _ _ _ rfl) (kf_X_9) (sc_0 hS) rfl rfl ?_
  refine s_aload_n (dt_X_town 4 _ _ _ rfl) rfl ?_
  refine s_getI (c := 0) (j := 1) (dt_X_town 5 _ _ _ rfl) (kf_X_13) (sc_0 hS) rfl ?_
  refine s_callO (y := y_Reader_read) (Y' := Y_Reader_read) (as := [VR (some 14), VR (some 1), VI (M 0 1)]) (r := fun q => some (VI q.1)) (M' := fun q => q.2) (kInvV (dt_X_town 6 _ _ _ rfl) kin_Reader_read 7 rfl (sc_14 hS) kse_Reader_read rfl) kl_X_104 md_Reader_read rfl rfl (fun q hq => c_Reader_read hS (M 0 1) M q hq) (fun q1 => ?_)
  refine s_istore_n (dt_X_town 7 _ _ _ rfl) rfl ?_
  refine s_aload_n (dt_X_town 8 _ _ _ rfl) rfl ?_
  refine s_iconst (dt_X_town 9 _ _ _ rfl) rfl ?_
  refine s_putI (c := 0) (j := 1) (dt_X_town 10 _ _ _ rfl) kp_X_13 (sc_0 hS) ⟨rfl, rfl⟩ ?_
  refine s_letM (fun M2 => ?_)
  refine s_iload_n (dt_X_town 11 _ _ _ rfl) rfl ?_
  refine s_if_ne (tgt := 27) (dt_X_town 12 _ _ _ rfl) rfl ?_ ?_
  · refine s_iconst (dt_X_town 13 _ _ _ rfl) rfl ?_
    exact s_iret (dt_X_town 14 _ _ _ rfl) rfl rfl
  · refine s_aload_n (dt_X_town 15 _ _ _ rfl) rfl ?_
    refine s_getR (c := 0) (j := 2) (o := (some 2)) (dt_X_town 16 _ _ _ rfl) (kf_X_20) (sc_0 hS) rfl rfl ?_
    refine s_aload_n (dt_X_town 17 _ _ _ rfl) rfl ?_
    refine s_getR (c := 0) (j := 3) (o := (some 14)) (dt_X_town 18 _ _ _ rfl) (kf_X_27) (sc_0 hS) rfl rfl ?_
    refine s_getR (c := 7) (j := 2) (o := (some 15)) (dt_X_town 19 _ _ _ rfl) (kf_X_108) (sc_14 hS) rfl rfl ?_
    refine s_callO (y := y_Town_become) (Y' := Y_Town_become) (as := [VR (some 2), VR (some 15)]) (r := fun q => none) (M' := fun q => q) (kInvV (dt_X_town 20 _ _ _ rfl) kin_Town_become 12 rfl (sc_2 hS) kse_Town_become rfl) kl_X_111 md_Town_become rfl rfl (fun q hq => c_Town_become hS M2 q hq) (fun q3 => ?_)
    refine s_aload_n (dt_X_town 21 _ _ _ rfl) rfl ?_
    refine s_getR (c := 0) (j := 4) (o := (some 34)) (dt_X_town 22 _ _ _ rfl) (kf_X_34) (sc_0 hS) rfl rfl ?_
    refine s_aload_n (dt_X_town 23 _ _ _ rfl) rfl ?_
    refine s_getR (c := 0) (j := 2) (o := (some 2)) (dt_X_town 24 _ _ _ rfl) (kf_X_20) (sc_0 hS) rfl rfl ?_
    refine s_callO (y := y_State_begin) (Y' := Y_State_begin) (as := [VR (some 34), VR (some 2)]) (r := fun q => none) (M' := fun q => q) (kInvV (dt_X_town 25 _ _ _ rfl) kin_State_begin 10 rfl (sc_34 hS) kse_State_begin rfl) kl_X_115 md_State_begin rfl rfl (fun q hq => c_State_begin hS q3 q hq) (fun q4 => ?_)
    refine s_aload_n (dt_X_town 26 _ _ _ rfl) rfl ?_
    refine s_getR (c := 0) (j := 5) (o := (some 41)) (dt_X_town 27 _ _ _ rfl) (kf_X_41) (sc_0 hS) rfl rfl ?_
    refine s_aload_n (dt_X_town 28 _ _ _ rfl) rfl ?_
    refine s_getR (c := 0) (j := 4) (o := (some 34)) (dt_X_town 29 _ _ _ rfl) (kf_X_34) (sc_0 hS) rfl rfl ?_
    refine s_callO (y := y_History_begin) (Y' := Y_History_begin) (as := [VR (some 41), VR (some 34)]) (r := fun q => none) (M' := fun q => q) (kInvV (dt_X_town 30 _ _ _ rfl) kin_History_begin 6 rfl (sc_41 hS) kse_History_begin rfl) kl_X_118 md_History_begin rfl rfl (fun q hq => c_History_begin hS q4 q hq) (fun q5 => ?_)
    refine s_aload_n (dt_X_town 31 _ _ _ rfl) rfl ?_
    refine s_iconst (dt_X_town 32 _ _ _ rfl) rfl ?_
    refine s_putI (c := 0) (j := 7) (dt_X_town 33 _ _ _ rfl) kp_X_49 (sc_0 hS) ⟨rfl, rfl⟩ ?_
    refine s_letM (fun M6 => ?_)
    refine s_aload_n (dt_X_town 34 _ _ _ rfl) rfl ?_
    refine s_iconst (dt_X_town 35 _ _ _ rfl) rfl ?_
    refine s_putI (c := 0) (j := 9) (dt_X_town 36 _ _ _ rfl) kp_X_56 (sc_0 hS) ⟨rfl, rfl⟩ ?_
    refine s_letM (fun M7 => ?_)
    refine s_aload_n (dt_X_town 37 _ _ _ rfl) rfl ?_
    refine s_getR (c := 0) (j := 13) (o := (some 349)) (dt_X_town 38 _ _ _ rfl) (kf_X_83) (sc_0 hS) rfl rfl ?_
    refine s_callO (y := y_Faces_clear) (Y' := Y_Faces_clear) (as := [VR (some 349)]) (r := fun q => none) (M' := fun q => q) (kInvV (dt_X_town 39 _ _ _ rfl) kin_Faces_clear 3 rfl (sc_349 hS) kse_Faces_clear rfl) kl_X_121 md_Faces_clear rfl rfl (fun q hq => c_Faces_clear hS M7 q hq) (fun q8 => ?_)
    refine s_aload_n (dt_X_town 40 _ _ _ rfl) rfl ?_
    refine s_iconst (dt_X_town 41 _ _ _ rfl) rfl ?_
    refine s_putI (c := 0) (j := 16) (dt_X_town 42 _ _ _ rfl) kp_X_97 (sc_0 hS) ⟨rfl, rfl⟩ ?_
    refine s_letM (fun M9 => ?_)
    refine s_aload_n (dt_X_town 43 _ _ _ rfl) rfl ?_
    refine s_getR (c := 0) (j := 2) (o := (some 2)) (dt_X_town 44 _ _ _ rfl) (kf_X_20) (sc_0 hS) rfl rfl ?_
    refine s_getI (c := 12) (j := 0) (dt_X_town 45 _ _ _ rfl) (kf_X_124) (sc_2 hS) rfl ?_
    exact s_iret (dt_X_town 46 _ _ _ rfl) rfl rfl
theorem c_X_town {S : KS} (hS : KExt 382 S)   (M : KM) : ∀ q, f_X_town  M = some q → Ctr y_X_town Y_X_town [VR (some 0)] S M (some (VI q.1)) S (q.2) := fun q hq =>
  ctr_of md_X_town (Nat.le_of_ble_eq_true rfl) ⟨Nat.le_refl _, Nat.le_refl _⟩ 1 hq rfl (fun _ G => sim_X_town hS   M)
set_option maxRecDepth 100000 in
theorem sim_X_fault {G : Gam} {S : KS} (hS : KExt 382 S)  (a0 : Int) (M : KM) : Sim G Y_X_fault (f_X_fault a0 M) (kC 0 [some (VR (some 0)), some (VI a0)] [] S M) (fun (q : Int) => Sum.inr (some (VI q), S, M)) := by
  unfold f_X_fault
  refine s_iload_n (dt_X_fault 0 _ _ _ rfl) rfl ?_
  refine s_lcase (tgt := 28) (dt_X_fault 1 _ _ _ rfl) rfl rfl rfl ?_ (fun h1 => ?_)
  · refine s_aload_n (dt_X_fault 2 _ _ _ rfl) rfl ?_
    refine s_getR (c := 0) (j := 3) (o := (some 14)) (dt_X_fault 3 _ _ _ rfl) (kf_X_27) (sc_0 hS) rfl rfl ?_
    refine s_getI (c := 7) (j := 0) (dt_X_fault 4 _ _ _ rfl) (kf_X_127) (sc_14 hS) rfl ?_
    exact s_iret (dt_X_fault 5 _ _ _ rfl) rfl rfl
  refine s_lcase (tgt := 36) (dt_X_fault 1 _ _ _ rfl) rfl rfl rfl ?_ (fun h2 => ?_)
  · refine s_aload_n (dt_X_fault 6 _ _ _ rfl) rfl ?_
    refine s_getR (c := 0) (j := 3) (o := (some 14)) (dt_X_fault 7 _ _ _ rfl) (kf_X_27) (sc_0 hS) rfl rfl ?_
    refine s_getI (c := 7) (j := 1) (dt_X_fault 8 _ _ _ rfl) (kf_X_130) (sc_14 hS) rfl ?_
    exact s_iret (dt_X_fault 9 _ _ _ rfl) rfl rfl
  refine s_ldef (tgt := 44) (off := 43) (dt_X_fault 1 _ _ _ rfl) rfl (by show Op.lookupswitch.offset [(0, 27), (1, 35)] _ _ = _; rw [kos_ne h1, kos_ne h2]; rfl) rfl ?_
  refine s_iconst (dt_X_fault 10 _ _ _ rfl) rfl ?_
  exact s_iret (dt_X_fault 11 _ _ _ rfl) rfl rfl
theorem c_X_fault {S : KS} (hS : KExt 382 S)  (a0 : Int) (M : KM) : ∀ q, f_X_fault a0 M = some q → Ctr y_X_fault Y_X_fault [VR (some 0), VI a0] S M (some (VI q)) S (M) := fun q hq =>
  ctr_of md_X_fault (Nat.le_of_ble_eq_true rfl) ⟨Nat.le_refl _, Nat.le_refl _⟩ 0 hq rfl (fun _ G => sim_X_fault hS  a0 M)
set_option maxRecDepth 100000 in
theorem sim_X_isPerson {G : Gam} {S : KS} (hS : KExt 382 S)  (a0 : Int) (M : KM) : Sim G Y_X_isPerson (f_X_isPerson a0 M) (kC 0 [some (VR (some 0)), some (VI a0)] [] S M) (fun (q : Int) => Sum.inr (some (VI q), S, M)) := by
  unfold f_X_isPerson
  refine s_iload_n (dt_X_isPerson 0 _ _ _ rfl) rfl ?_
  refine s_bd (κ := fun t1 => kC 20 [none, none] [VI t1] S M) ?_ (fun t1 => ?_)
  · refine s_if_lt (tgt := 19) (dt_X_isPerson 1 _ _ _ rfl) rfl ?_ ?_
    · refine s_iconst (dt_X_isPerson 9 _ _ _ rfl) rfl ?_
      exact s_mask [false, false] (s_ret0 rfl)
    · refine s_iload_n (dt_X_isPerson 2 _ _ _ rfl) rfl ?_
      refine s_aload_n (dt_X_isPerson 3 _ _ _ rfl) rfl ?_
      refine s_getR (c := 0) (j := 2) (o := (some 2)) (dt_X_isPerson 4 _ _ _ rfl) (kf_X_20) (sc_0 hS) rfl rfl ?_
      refine s_getI (c := 12) (j := 0) (dt_X_isPerson 5 _ _ _ rfl) (kf_X_124) (sc_2 hS) rfl ?_
      refine s_if_icmp_ge (tgt := 19) (dt_X_isPerson 6 _ _ _ rfl) rfl ?_ ?_
      · refine s_iconst (dt_X_isPerson 7 _ _ _ rfl) rfl ?_
        refine s_goto (tgt := 20) (dt_X_isPerson 8 _ _ _ rfl) rfl ?_
        exact s_mask [false, false] (s_ret0 rfl)
      · refine s_iconst (dt_X_isPerson 9 _ _ _ rfl) rfl ?_
        exact s_mask [false, false] (s_ret0 rfl)
  exact s_zret (dt_X_isPerson 10 _ _ _ rfl) rfl rfl
theorem c_X_isPerson {S : KS} (hS : KExt 382 S)  (a0 : Int) (M : KM) : ∀ q, f_X_isPerson a0 M = some q → Ctr y_X_isPerson Y_X_isPerson [VR (some 0), VI a0] S M (some (VI q)) S (M) := fun q hq =>
  ctr_of md_X_isPerson (Nat.le_of_ble_eq_true rfl) ⟨Nat.le_refl _, Nat.le_refl _⟩ 0 hq rfl (fun _ G => sim_X_isPerson hS  a0 M)
set_option maxRecDepth 100000 in
theorem sim_X_isAlive {G : Gam} {S : KS} (hS : KExt 382 S)  (a0 : Int) (M : KM) : Sim G Y_X_isAlive (f_X_isAlive a0 M) (kC 0 [some (VR (some 0)), some (VI a0)] [] S M) (fun (q : Int) => Sum.inr (some (VI q), S, M)) := by
  unfold f_X_isAlive
  refine s_aload_n (dt_X_isAlive 0 _ _ _ rfl) rfl ?_
  refine s_iload_n (dt_X_isAlive 1 _ _ _ rfl) rfl ?_
  refine s_callO (y := y_X_isPerson) (Y' := Y_X_isPerson) (as := [VR (some 0), VI a0]) (r := fun q => some (VI q)) (M' := fun q => M) (kInvV (dt_X_isAlive 2 _ _ _ rfl) kin_X_isPerson 0 rfl (sc_0 hS) kse_X_isPerson rfl) kl_X_133 md_X_isPerson rfl rfl (fun q hq => c_X_isPerson hS a0 M q hq) (fun q1 => ?_)
  refine s_bd (κ := fun t2 => kC 27 [none, none] [VI t2] S M) ?_ (fun t2 => ?_)
  · refine s_if_eq (tgt := 26) (dt_X_isAlive 3 _ _ _ rfl) rfl ?_ ?_
    · refine s_iconst (dt_X_isAlive 12 _ _ _ rfl) rfl ?_
      exact s_mask [false, false] (s_ret0 rfl)
    · refine s_aload_n (dt_X_isAlive 4 _ _ _ rfl) rfl ?_
      refine s_getR (c := 0) (j := 4) (o := (some 34)) (dt_X_isAlive 5 _ _ _ rfl) (kf_X_34) (sc_0 hS) rfl rfl ?_
      refine s_getI (c := 10) (j := 3) (dt_X_isAlive 6 _ _ _ rfl) (kf_X_183) (sc_34 hS) rfl ?_
      refine s_iload_n (dt_X_isAlive 7 _ _ _ rfl) rfl ?_
      refine s_inv (y := y_X_isIn) (Y' := Y_X_isIn) (as := [VI (M 34 3), VI a0]) (r := some (VI (isInV (M 34 3) a0))) (M' := M) (kInvS (dt_X_isAlive 8 _ _ _ rfl) kst_X_isIn rfl) kl_X_186 md_X_isIn rfl rfl (c_X_isIn hS (M 34 3) a0 M) ?_
      refine s_if_eq (tgt := 26) (dt_X_isAlive 9 _ _ _ rfl) rfl ?_ ?_
      · refine s_iconst (dt_X_isAlive 12 _ _ _ rfl) rfl ?_
        exact s_mask [false, false] (s_ret0 rfl)
      · refine s_iconst (dt_X_isAlive 10 _ _ _ rfl) rfl ?_
        refine s_goto (tgt := 27) (dt_X_isAlive 11 _ _ _ rfl) rfl ?_
        exact s_mask [false, false] (s_ret0 rfl)
  exact s_zret (dt_X_isAlive 13 _ _ _ rfl) rfl rfl
theorem c_X_isAlive {S : KS} (hS : KExt 382 S)  (a0 : Int) (M : KM) : ∀ q, f_X_isAlive a0 M = some q → Ctr y_X_isAlive Y_X_isAlive [VR (some 0), VI a0] S M (some (VI q)) S (M) := fun q hq =>
  ctr_of md_X_isAlive (Nat.le_of_ble_eq_true rfl) ⟨Nat.le_refl _, Nat.le_refl _⟩ 0 hq rfl (fun _ G => sim_X_isAlive hS  a0 M)
set_option maxRecDepth 100000 in
theorem sim_X_person {G : Gam} {S : KS} (hS : KExt 382 S)  (a0 : Int) (a1 : Int) (M : KM) : Sim G Y_X_person (f_X_person a0 a1 M) (kC 0 [some (VR (some 0)), some (VI a0), some (VI a1)] [] S M) (fun (q : Int) => Sum.inr (some (VI q), S, M)) := by
  unfold f_X_person
  refine s_aload_n (dt_X_person 0 _ _ _ rfl) rfl ?_
  refine s_iload_n (dt_X_person 1 _ _ _ rfl) rfl ?_
  refine s_callO (y := y_X_isPerson) (Y' := Y_X_isPerson) (as := [VR (some 0), VI a0]) (r := fun q => some (VI q)) (M' := fun q => M) (kInvV (dt_X_person 2 _ _ _ rfl) kin_X_isPerson 0 rfl (sc_0 hS) kse_X_isPerson rfl) kl_X_133 md_X_isPerson rfl rfl (fun q hq => c_X_isPerson hS a0 M q hq) (fun q1 => ?_)
  refine s_if_ne (tgt := 10) (dt_X_person 3 _ _ _ rfl) rfl ?_ ?_
  · refine s_iconst (dt_X_person 4 _ _ _ rfl) rfl ?_
    exact s_iret (dt_X_person 5 _ _ _ rfl) rfl rfl
  · refine s_iload_n (dt_X_person 6 _ _ _ rfl) rfl ?_
    refine s_tcase (tgt := 44) (dt_X_person 7 _ _ _ rfl) rfl rfl rfl ?_ (fun h4 => ?_)
    · refine s_aload_n (dt_X_person 8 _ _ _ rfl) rfl ?_
      refine s_getR (c := 0) (j := 4) (o := (some 34)) (dt_X_person 9 _ _ _ rfl) (kf_X_34) (sc_0 hS) rfl rfl ?_
      refine s_getR (c := 10) (j := 0) (o := (some 35)) (dt_X_person 10 _ _ _ rfl) (kf_X_137) (sc_34 hS) rfl rfl ?_
      refine s_iload_n (dt_X_person 11 _ _ _ rfl) rfl ?_
      refine s_inv (y := y_X_at) (Y' := Y_X_at) (as := [VR (some 35), VI a0]) (r := some (VI (atM M 35 8 a0))) (M' := M) (kInvS (dt_X_person 12 _ _ _ rfl) kst_X_at rfl) kl_X_140 md_X_at rfl rfl (c_X_at hS ⟨(sc_35 hS), by decide⟩ a0 M) ?_
      exact s_iret (dt_X_person 13 _ _ _ rfl) rfl rfl
    refine s_tcase (tgt := 56) (dt_X_person 7 _ _ _ rfl) rfl rfl rfl ?_ (fun h5 => ?_)
    · refine s_aload_n (dt_X_person 14 _ _ _ rfl) rfl ?_
      refine s_getR (c := 0) (j := 4) (o := (some 34)) (dt_X_person 15 _ _ _ rfl) (kf_X_34) (sc_0 hS) rfl rfl ?_
      refine s_getR (c := 10) (j := 1) (o := (some 36)) (dt_X_person 16 _ _ _ rfl) (kf_X_144) (sc_34 hS) rfl rfl ?_
      refine s_iload_n (dt_X_person 17 _ _ _ rfl) rfl ?_
      refine s_inv (y := y_X_at) (Y' := Y_X_at) (as := [VR (some 36), VI a0]) (r := some (VI (atM M 36 8 a0))) (M' := M) (kInvS (dt_X_person 18 _ _ _ rfl) kst_X_at rfl) kl_X_140 md_X_at rfl rfl (c_X_at hS ⟨(sc_36 hS), by decide⟩ a0 M) ?_
      exact s_iret (dt_X_person 19 _ _ _ rfl) rfl rfl
    refine s_tcase (tgt := 68) (dt_X_person 7 _ _ _ rfl) rfl rfl rfl ?_ (fun h6 => ?_)
    · refine s_aload_n (dt_X_person 20 _ _ _ rfl) rfl ?_
      refine s_iload_n (dt_X_person 21 _ _ _ rfl) rfl ?_
      refine s_callO (y := y_X_isAlive) (Y' := Y_X_isAlive) (as := [VR (some 0), VI a0]) (r := fun q => some (VI q)) (M' := fun q => M) (kInvV (dt_X_person 22 _ _ _ rfl) kin_X_isAlive 0 rfl (sc_0 hS) kse_X_isAlive rfl) kl_X_147 md_X_isAlive rfl rfl (fun q hq => c_X_isAlive hS a0 M q hq) (fun q2 => ?_)
      refine s_bd (κ := fun t3 => kC 81 [none, none, none] [VI t3] S M) ?_ (fun t3 => ?_)
      · refine s_if_eq (tgt := 80) (dt_X_person 23 _ _ _ rfl) rfl ?_ ?_
        · refine s_iconst (dt_X_person 26 _ _ _ rfl) rfl ?_
          exact s_mask [false, false, false] (s_ret0 rfl)
        · refine s_iconst (dt_X_person 24 _ _ _ rfl) rfl ?_
          refine s_goto (tgt := 81) (dt_X_person 25 _ _ _ rfl) rfl ?_
          exact s_mask [false, false, false] (s_ret0 rfl)
      exact s_iret (dt_X_person 27 _ _ _ rfl) rfl rfl
    refine s_tcase (tgt := 82) (dt_X_person 7 _ _ _ rfl) rfl rfl rfl ?_ (fun h7 => ?_)
    · refine s_aload_n (dt_X_person 28 _ _ _ rfl) rfl ?_
      refine s_getR (c := 0) (j := 2) (o := (some 2)) (dt_X_person 29 _ _ _ rfl) (kf_X_20) (sc_0 hS) rfl rfl ?_
      refine s_getR (c := 12) (j := 3) (o := (some 5)) (dt_X_person 30 _ _ _ rfl) (kf_X_150) (sc_2 hS) rfl rfl ?_
      refine s_iload_n (dt_X_person 31 _ _ _ rfl) rfl ?_
      refine s_inv (y := y_X_at) (Y' := Y_X_at) (as := [VR (some 5), VI a0]) (r := some (VI (atM M 5 8 a0))) (M' := M) (kInvS (dt_X_person 32 _ _ _ rfl) kst_X_at rfl) kl_X_140 md_X_at rfl rfl (c_X_at hS ⟨(sc_5 hS), by decide⟩ a0 M) ?_
      exact s_iret (dt_X_person 33 _ _ _ rfl) rfl rfl
    refine s_tcase (tgt := 94) (dt_X_person 7 _ _ _ rfl) rfl rfl rfl ?_ (fun h8 => ?_)
    · refine s_aload_n (dt_X_person 34 _ _ _ rfl) rfl ?_
      refine s_getR (c := 0) (j := 2) (o := (some 2)) (dt_X_person 35 _ _ _ rfl) (kf_X_20) (sc_0 hS) rfl rfl ?_
      refine s_getR (c := 12) (j := 4) (o := (some 6)) (dt_X_person 36 _ _ _ rfl) (kf_X_153) (sc_2 hS) rfl rfl ?_
      refine s_iload_n (dt_X_person 37 _ _ _ rfl) rfl ?_
      refine s_inv (y := y_X_at) (Y' := Y_X_at) (as := [VR (some 6), VI a0]) (r := some (VI (atM M 6 8 a0))) (M' := M) (kInvS (dt_X_person 38 _ _ _ rfl) kst_X_at rfl) kl_X_140 md_X_at rfl rfl (c_X_at hS ⟨(sc_6 hS), by decide⟩ a0 M) ?_
      exact s_iret (dt_X_person 39 _ _ _ rfl) rfl rfl
    refine s_tdef (tgt := 106) (dt_X_person 7 _ _ _ rfl) (by omega) rfl ?_
    refine s_iconst (dt_X_person 40 _ _ _ rfl) rfl ?_
    exact s_iret (dt_X_person 41 _ _ _ rfl) rfl rfl
theorem c_X_person {S : KS} (hS : KExt 382 S)  (a0 : Int) (a1 : Int) (M : KM) : ∀ q, f_X_person a0 a1 M = some q → Ctr y_X_person Y_X_person [VR (some 0), VI a0, VI a1] S M (some (VI q)) S (M) := fun q hq =>
  ctr_of md_X_person (Nat.le_of_ble_eq_true rfl) ⟨Nat.le_refl _, Nat.le_refl _⟩ 0 hq rfl (fun _ G => sim_X_person hS  a0 a1 M)
set_option maxRecDepth 100000 in
theorem sim_Formulas_truth {G : Gam} {S : KS} (hS : KExt 382 S)  (a0 : Int) (M : KM) : Sim G Y_Formulas_truth (f_Formulas_truth a0 M) (kC 0 [some (VI a0)] [] S M) (fun (q : Int) => Sum.inr (some (VI q), S, M)) := by
  unfold f_Formulas_truth
  refine s_iload_n (dt_Formulas_truth 0 _ _ _ rfl) rfl ?_
  refine s_bd (κ := fun t1 => kC 9 [none] [VI t1] S M) ?_ (fun t1 => ?_)
  · refine s_if_eq (tgt := 8) (dt_Formulas_truth 1 _ _ _ rfl) rfl ?_ ?_
    · refine s_iconst (dt_Formulas_truth 4 _ _ _ rfl) rfl ?_
      exact s_mask [false] (s_ret0 rfl)
    · refine s_iconst (dt_Formulas_truth 2 _ _ _ rfl) rfl ?_
      refine s_goto (tgt := 9) (dt_Formulas_truth 3 _ _ _ rfl) rfl ?_
      exact s_mask [false] (s_ret0 rfl)
  exact s_iret (dt_Formulas_truth 5 _ _ _ rfl) rfl rfl
theorem c_Formulas_truth {S : KS} (hS : KExt 382 S)  (a0 : Int) (M : KM) : ∀ q, f_Formulas_truth a0 M = some q → Ctr y_Formulas_truth Y_Formulas_truth [VI a0] S M (some (VI q)) S (M) := fun q hq =>
  ctr_of md_Formulas_truth (Nat.le_of_ble_eq_true rfl) ⟨Nat.le_refl _, Nat.le_refl _⟩ 0 hq rfl (fun _ G => sim_Formulas_truth hS  a0 M)
set_option maxRecDepth 100000 in
theorem sim_Formulas_joined {G : Gam} {S : KS} (hS : KExt 382 S)  (a0 : Int) (a1 : Int) (a2 : Int) (M : KM) : Sim G Y_Formulas_joined (f_Formulas_joined a0 a1 a2 M) (kC 0 [some (VI a0), some (VI a1), some (VI a2)] [] S M) (fun (q : Int) => Sum.inr (some (VI q), S, M)) := by
  unfold f_Formulas_joined
  refine s_iload_n (dt_Formulas_joined 0 _ _ _ rfl) rfl ?_
  refine s_lcase (tgt := 92) (dt_Formulas_joined 1 _ _ _ rfl) rfl rfl rfl ?_ (fun h13 => ?_)
  · refine s_iload_n (dt_Formulas_joined 2 _ _ _ rfl) rfl ?_
    refine s_bd (κ := fun t1 => kC 105 [none, none, none] [VI t1] S M) ?_ (fun t1 => ?_)
    · refine s_if_ne (tgt := 100) (dt_Formulas_joined 3 _ _ _ rfl) rfl ?_ ?_
      · refine s_iload_n (dt_Formulas_joined 4 _ _ _ rfl) rfl ?_
        refine s_if_eq (tgt := 104) (dt_Formulas_joined 5 _ _ _ rfl) rfl ?_ ?_
        · refine s_iconst (dt_Formulas_joined 8 _ _ _ rfl) rfl ?_
          exact s_mask [false, false, false] (s_ret0 rfl)
        · refine s_iconst (dt_Formulas_joined 6 _ _ _ rfl) rfl ?_
          refine s_goto (tgt := 105) (dt_Formulas_joined 7 _ _ _ rfl) rfl ?_
          exact s_mask [false, false, false] (s_ret0 rfl)
      · refine s_iconst (dt_Formulas_joined 6 _ _ _ rfl) rfl ?_
        refine s_goto (tgt := 105) (dt_Formulas_joined 7 _ _ _ rfl) rfl ?_
        exact s_mask [false, false, false] (s_ret0 rfl)
    refine s_callO (y := y_Formulas_truth) (Y' := Y_Formulas_truth) (as := [VI t1]) (r := fun q => some (VI q)) (M' := fun q => M) (kInvS (dt_Formulas_joined 9 _ _ _ rfl) kst_Formulas_truth rfl) kl_Formulas_33 md_Formulas_truth rfl rfl (fun q hq => c_Formulas_truth hS t1 M q hq) (fun q2 => ?_)
    exact s_iret (dt_Formulas_joined 10 _ _ _ rfl) rfl rfl
  refine s_lcase (tgt := 109) (dt_Formulas_joined 1 _ _ _ rfl) rfl rfl rfl ?_ (fun h14 => ?_)
  · refine s_iload_n (dt_Formulas_joined 11 _ _ _ rfl) rfl ?_
    refine s_bd (κ := fun t3 => kC 122 [none, none, none] [VI t3] S M) ?_ (fun t3 => ?_)
    · refine s_if_eq (tgt := 121) (dt_Formulas_joined 12 _ _ _ rfl) rfl ?_ ?_
      · refine s_iconst (dt_Formulas_joined 17 _ _ _ rfl) rfl ?_
        exact s_mask [false, false, false] (s_ret0 rfl)
      · refine s_iload_n (dt_Formulas_joined 13 _ _ _ rfl) rfl ?_
        refine s_if_eq (tgt := 121) (dt_Formulas_joined 14 _ _ _ rfl) rfl ?_ ?_
        · refine s_iconst (dt_Formulas_joined 17 _ _ _ rfl) rfl ?_
          exact s_mask [false, false, false] (s_ret0 rfl)
        · refine s_iconst (dt_Formulas_joined 15 _ _ _ rfl) rfl ?_
          refine s_goto (tgt := 122) (dt_Formulas_joined 16 _ _ _ rfl) rfl ?_
          exact s_mask [false, false, false] (s_ret0 rfl)
    refine s_callO (y := y_Formulas_truth) (Y' := Y_Formulas_truth) (as := [VI t3]) (r := fun q => some (VI q)) (M' := fun q => M) (kInvS (dt_Formulas_joined 18 _ _ _ rfl) kst_Formulas_truth rfl) kl_Formulas_33 md_Formulas_truth rfl rfl (fun q hq => c_Formulas_truth hS t3 M q hq) (fun q4 => ?_)
    exact s_iret (dt_Formulas_joined 19 _ _ _ rfl) rfl rfl
  refine s_lcase (tgt := 192) (dt_Formulas_joined 1 _ _ _ rfl) rfl rfl rfl ?_ (fun h15 => ?_)
  · refine s_iload_n (dt_Formulas_joined 64 _ _ _ rfl) rfl ?_
    refine s_bd (κ := fun t5 => kC 203 [none, none, none] [VI t5] S M) ?_ (fun t5 => ?_)
    · refine s_if_ne (tgt := 200) (dt_Formulas_joined 65 _ _ _ rfl) rfl ?_ ?_
      · refine s_iconst (dt_Formulas_joined 66 _ _ _ rfl) rfl ?_
        refine s_goto (tgt := 203) (dt_Formulas_joined 67 _ _ _ rfl) rfl ?_
        exact s_mask [false, false, false] (s_ret0 rfl)
      · refine s_iload_n (dt_Formulas_joined 68 _ _ _ rfl) rfl ?_
        refine s_iload_n (dt_Formulas_joined 69 _ _ _ rfl) rfl ?_
        refine s_irem (dt_Formulas_joined 70 _ _ _ rfl) ?_
        exact s_mask [false, false, false] (s_ret0 rfl)
    exact s_iret (dt_Formulas_joined 71 _ _ _ rfl) rfl rfl
  refine s_lcase (tgt := 176) (dt_Formulas_joined 1 _ _ _ rfl) rfl rfl rfl ?_ (fun h16 => ?_)
  · refine s_iload_n (dt_Formulas_joined 52 _ _ _ rfl) rfl ?_
    refine s_iload_n (dt_Formulas_joined 53 _ _ _ rfl) rfl ?_
    refine s_imul (dt_Formulas_joined 54 _ _ _ rfl) ?_
    exact s_iret (dt_Formulas_joined 55 _ _ _ rfl) rfl rfl
  refine s_lcase (tgt := 168) (dt_Formulas_joined 1 _ _ _ rfl) rfl rfl rfl ?_ (fun h17 => ?_)
  · refine s_iload_n (dt_Formulas_joined 44 _ _ _ rfl) rfl ?_
    refine s_iload_n (dt_Formulas_joined 45 _ _ _ rfl) rfl ?_
    refine s_iadd (dt_Formulas_joined 46 _ _ _ rfl) ?_
    exact s_iret (dt_Formulas_joined 47 _ _ _ rfl) rfl rfl
  refine s_lcase (tgt := 172) (dt_Formulas_joined 1 _ _ _ rfl) rfl rfl rfl ?_ (fun h18 => ?_)
  · refine s_iload_n (dt_Formulas_joined 48 _ _ _ rfl) rfl ?_
    refine s_iload_n (dt_Formulas_joined 49 _ _ _ rfl) rfl ?_
    refine s_isub (dt_Formulas_joined 50 _ _ _ rfl) ?_
    exact s_iret (dt_Formulas_joined 51 _ _ _ rfl) rfl rfl
  refine s_lcase (tgt := 180) (dt_Formulas_joined 1 _ _ _ rfl) rfl rfl rfl ?_ (fun h19 => ?_)
  · refine s_iload_n (dt_Formulas_joined 56 _ _ _ rfl) rfl ?_
    refine s_bd (κ := fun t6 => kC 191 [none, none, none] [VI t6] S M) ?_ (fun t6 => ?_)
    · refine s_if_ne (tgt := 188) (dt_Formulas_joined 57 _ _ _ rfl) rfl ?_ ?_
      · refine s_iconst (dt_Formulas_joined 58 _ _ _ rfl) rfl ?_
        refine s_goto (tgt := 191) (dt_Formulas_joined 59 _ _ _ rfl) rfl ?_
        exact s_mask [false, false, false] (s_ret0 rfl)
      · refine s_iload_n (dt_Formulas_joined 60 _ _ _ rfl) rfl ?_
        refine s_iload_n (dt_Formulas_joined 61 _ _ _ rfl) rfl ?_
        refine s_idiv (dt_Formulas_joined 62 _ _ _ rfl) ?_
        exact s_mask [false, false, false] (s_ret0 rfl)
    exact s_iret (dt_Formulas_joined 63 _ _ _ rfl) rfl rfl
  refine s_lcase (tgt := 126) (dt_Formulas_joined 1 _ _ _ rfl) rfl rfl rfl ?_ (fun h20 => ?_)
  · refine s_iload_n (dt_Formulas_joined 20 _ _ _ rfl) rfl ?_
    refine s_iload_n (dt_Formulas_joined 21 _ _ _ rfl) rfl ?_
    refine s_bd (κ := fun t7 => kC 136 [none, none, none] [VI t7] S M) ?_ (fun t7 => ?_)
    · refine s_if_icmp_ge (tgt := 135) (dt_Formulas_joined 22 _ _ _ rfl) rfl ?_ ?_
      · refine s_iconst (dt_Formulas_joined 23 _ _ _ rfl) rfl ?_
        refine s_goto (tgt := 136) (dt_Formulas_joined 24 _ _ _ rfl) rfl ?_
        exact s_mask [false, false, false] (s_ret0 rfl)
      · refine s_iconst (dt_Formulas_joined 25 _ _ _ rfl) rfl ?_
        exact s_mask [false, false, false] (s_ret0 rfl)
    refine s_callO (y := y_Formulas_truth) (Y' := Y_Formulas_truth) (as := [VI t7]) (r := fun q => some (VI q)) (M' := fun q => M) (kInvS (dt_Formulas_joined 26 _ _ _ rfl) kst_Formulas_truth rfl) kl_Formulas_33 md_Formulas_truth rfl rfl (fun q hq => c_Formulas_truth hS t7 M q hq) (fun q8 => ?_)
    exact s_iret (dt_Formulas_joined 27 _ _ _ rfl) rfl rfl
  refine s_lcase (tgt := 154) (dt_Formulas_joined 1 _ _ _ rfl) rfl rfl rfl ?_ (fun h21 => ?_)
  · refine s_iload_n (dt_Formulas_joined 36 _ _ _ rfl) rfl ?_
    refine s_iload_n (dt_Formulas_joined 37 _ _ _ rfl) rfl ?_
    refine s_bd (κ := fun t9 => kC 164 [none, none, none] [VI t9] S M) ?_ (fun t9 => ?_)
    · refine s_if_icmp_ne (tgt := 163) (dt_Formulas_joined 38 _ _ _ rfl) rfl ?_ ?_
      · refine s_iconst (dt_Formulas_joined 39 _ _ _ rfl) rfl ?_
        refine s_goto (tgt := 164) (dt_Formulas_joined 40 _ _ _ rfl) rfl ?_
        exact s_mask [false, false, false] (s_ret0 rfl)
      · refine s_iconst (dt_Formulas_joined 41 _ _ _ rfl) rfl ?_
        exact s_mask [false, false, false] (s_ret0 rfl)
    refine s_callO (y := y_Formulas_truth) (Y' := Y_Formulas_truth) (as := [VI t9]) (r := fun q => some (VI q)) (M' := fun q => M) (kInvS (dt_Formulas_joined 42 _ _ _ rfl) kst_Formulas_truth rfl) kl_Formulas_33 md_Formulas_truth rfl rfl (fun q hq => c_Formulas_truth hS t9 M q hq) (fun q10 => ?_)
    exact s_iret (dt_Formulas_joined 43 _ _ _ rfl) rfl rfl
  refine s_lcase (tgt := 140) (dt_Formulas_joined 1 _ _ _ rfl) rfl rfl rfl ?_ (fun h22 => ?_)
  · refine s_iload_n (dt_Formulas_joined 28 _ _ _ rfl) rfl ?_
    refine s_iload_n (dt_Formulas_joined 29 _ _ _ rfl) rfl ?_
    refine s_bd (κ := fun t11 => kC 150 [none, none, none] [VI t11] S M) ?_ (fun t11 => ?_)
    · refine s_if_icmp_le (tgt := 149) (dt_Formulas_joined 30 _ _ _ rfl) rfl ?_ ?_
      · refine s_iconst (dt_Formulas_joined 33 _ _ _ rfl) rfl ?_
        exact s_mask [false, false, false] (s_ret0 rfl)
      · refine s_iconst (dt_Formulas_joined 31 _ _ _ rfl) rfl ?_
        refine s_goto (tgt := 150) (dt_Formulas_joined 32 _ _ _ rfl) rfl ?_
        exact s_mask [false, false, false] (s_ret0 rfl)
    refine s_callO (y := y_Formulas_truth) (Y' := Y_Formulas_truth) (as := [VI t11]) (r := fun q => some (VI q)) (M' := fun q => M) (kInvS (dt_Formulas_joined 34 _ _ _ rfl) kst_Formulas_truth rfl) kl_Formulas_33 md_Formulas_truth rfl rfl (fun q hq => c_Formulas_truth hS t11 M q hq) (fun q12 => ?_)
    exact s_iret (dt_Formulas_joined 35 _ _ _ rfl) rfl rfl
  refine s_ldef (tgt := 204) (off := 203) (dt_Formulas_joined 1 _ _ _ rfl) rfl (by show Op.lookupswitch.offset [(6, 91), (7, 108), (37, 191), (42, 175), (43, 167), (45, 171), (47, 179), (60, 125), (61, 153), (62, 139)] _ _ = _; rw [kos_ne h13, kos_ne h14, kos_ne h15, kos_ne h16, kos_ne h17, kos_ne h18, kos_ne h19, kos_ne h20, kos_ne h21, kos_ne h22]; rfl) rfl ?_
  refine s_iconst (dt_Formulas_joined 72 _ _ _ rfl) rfl ?_
  exact s_iret (dt_Formulas_joined 73 _ _ _ rfl) rfl rfl
theorem c_Formulas_joined {S : KS} (hS : KExt 382 S)  (a0 : Int) (a1 : Int) (a2 : Int) (M : KM) : ∀ q, f_Formulas_joined a0 a1 a2 M = some q → Ctr y_Formulas_joined Y_Formulas_joined [VI a0, VI a1, VI a2] S M (some (VI q)) S (M) := fun q hq =>
  ctr_of md_Formulas_joined (Nat.le_of_ble_eq_true rfl) ⟨Nat.le_refl _, Nat.le_refl _⟩ 0 hq rfl (fun _ G => sim_Formulas_joined hS  a0 a1 a2 M)
set_option maxRecDepth 100000 in
theorem sim_Formulas_pop {G : Gam} {S : KS} (hS : KExt 382 S)   (M : KM) : Sim G Y_Formulas_pop (f_Formulas_pop  M) (kC 0 [some (VR (some 11))] [] S M) (fun (q : Int × KM) => Sum.inr (some (VI q.1), S, q.2)) := by
  unfold f_Formulas_pop
  refine s_aload_n (dt_Formulas_pop 0 _ _ _ rfl) rfl ?_
  refine s_getI (c := 4) (j := 3) (dt_Formulas_pop 1 _ _ _ rfl) (kf_Formulas_22) (sc_11 hS) rfl ?_
  refine s_if_le (tgt := 19) (dt_Formulas_pop 2 _ _ _ rfl) rfl ?_ ?_
  · refine s_iconst (dt_Formulas_pop 9 _ _ _ rfl) rfl ?_
    exact s_iret (dt_Formulas_pop 10 _ _ _ rfl) rfl rfl
  · refine s_aload_n (dt_Formulas_pop 3 _ _ _ rfl) rfl ?_
    refine s_getI (c := 4) (j := 3) (dt_Formulas_pop 4 _ _ _ rfl) (kf_Formulas_22) (sc_11 hS) rfl ?_
    refine s_aload_n (dt_Formulas_pop 5 _ _ _ rfl) rfl ?_
    refine s_getR (c := 4) (j := 2) (o := (some 13)) (dt_Formulas_pop 6 _ _ _ rfl) (kf_Formulas_15) (sc_11 hS) rfl rfl ?_
    refine s_alen (N := 31) (dt_Formulas_pop 7 _ _ _ rfl) (sc_13 hS) rfl rfl (by decide) ?_
    refine s_if_icmp_le (tgt := 21) (dt_Formulas_pop 8 _ _ _ rfl) rfl ?_ ?_
    · refine s_aload_n (dt_Formulas_pop 11 _ _ _ rfl) rfl ?_
      refine s_dup (dt_Formulas_pop 12 _ _ _ rfl) rfl ?_
      refine s_getI (c := 4) (j := 3) (dt_Formulas_pop 13 _ _ _ rfl) (kf_Formulas_22) (sc_11 hS) rfl ?_
      refine s_iconst (dt_Formulas_pop 14 _ _ _ rfl) rfl ?_
      refine s_isub (dt_Formulas_pop 15 _ _ _ rfl) ?_
      refine s_putI (c := 4) (j := 3) (dt_Formulas_pop 16 _ _ _ rfl) kp_Formulas_22 (sc_11 hS) ⟨rfl, rfl⟩ ?_
      refine s_letM (fun M1 => ?_)
      refine s_aload_n (dt_Formulas_pop 17 _ _ _ rfl) rfl ?_
      refine s_getR (c := 4) (j := 2) (o := (some 13)) (dt_Formulas_pop 18 _ _ _ rfl) (kf_Formulas_15) (sc_11 hS) rfl rfl ?_
      refine s_aload_n (dt_Formulas_pop 19 _ _ _ rfl) rfl ?_
      refine s_getI (c := 4) (j := 3) (dt_Formulas_pop 20 _ _ _ rfl) (kf_Formulas_22) (sc_11 hS) rfl ?_
      refine s_iald (N := 31) (dt_Formulas_pop 21 _ _ _ rfl) (sc_13 hS) rfl ?_
      exact s_iret (dt_Formulas_pop 22 _ _ _ rfl) rfl rfl
    · refine s_iconst (dt_Formulas_pop 9 _ _ _ rfl) rfl ?_
      exact s_iret (dt_Formulas_pop 10 _ _ _ rfl) rfl rfl
theorem c_Formulas_pop {S : KS} (hS : KExt 382 S)   (M : KM) : ∀ q, f_Formulas_pop  M = some q → Ctr y_Formulas_pop Y_Formulas_pop [VR (some 11)] S M (some (VI q.1)) S (q.2) := fun q hq =>
  ctr_of md_Formulas_pop (Nat.le_of_ble_eq_true rfl) ⟨Nat.le_refl _, Nat.le_refl _⟩ 0 hq rfl (fun _ G => sim_Formulas_pop hS   M)
set_option maxRecDepth 100000 in
theorem sim_Formulas_push {G : Gam} {S : KS} (hS : KExt 382 S)  (a0 : Int) (M : KM) : Sim G Y_Formulas_push (f_Formulas_push a0 M) (kC 0 [some (VR (some 11)), some (VI a0)] [] S M) (fun (q : KM) => Sum.inr (none, S, q)) := by
  unfold f_Formulas_push
  refine s_aload_n (dt_Formulas_push 0 _ _ _ rfl) rfl ?_
  refine s_getI (c := 4) (j := 3) (dt_Formulas_push 1 _ _ _ rfl) (kf_Formulas_22) (sc_11 hS) rfl ?_
  refine s_bd (κ := fun t3 => kC 39 [none, none] [] S t3) ?_ (fun t3 => ?_)
  · refine s_if_lt (tgt := 39) (dt_Formulas_push 2 _ _ _ rfl) rfl ?_ ?_
    · exact s_mask [false, false] (s_ret0 rfl)
    · refine s_aload_n (dt_Formulas_push 3 _ _ _ rfl) rfl ?_
      refine s_getI (c := 4) (j := 3) (dt_Formulas_push 4 _ _ _ rfl) (kf_Formulas_22) (sc_11 hS) rfl ?_
      refine s_aload_n (dt_Formulas_push 5 _ _ _ rfl) rfl ?_
      refine s_getR (c := 4) (j := 2) (o := (some 13)) (dt_Formulas_push 6 _ _ _ rfl) (kf_Formulas_15) (sc_11 hS) rfl rfl ?_
      refine s_alen (N := 31) (dt_Formulas_push 7 _ _ _ rfl) (sc_13 hS) rfl rfl (by decide) ?_
      refine s_if_icmp_ge (tgt := 39) (dt_Formulas_push 8 _ _ _ rfl) rfl ?_ ?_
      · refine s_aload_n (dt_Formulas_push 9 _ _ _ rfl) rfl ?_
        refine s_getR (c := 4) (j := 2) (o := (some 13)) (dt_Formulas_push 10 _ _ _ rfl) (kf_Formulas_15) (sc_11 hS) rfl rfl ?_
        refine s_aload_n (dt_Formulas_push 11 _ _ _ rfl) rfl ?_
        refine s_getI (c := 4) (j := 3) (dt_Formulas_push 12 _ _ _ rfl) (kf_Formulas_22) (sc_11 hS) rfl ?_
        refine s_iload_n (dt_Formulas_push 13 _ _ _ rfl) rfl ?_
        refine s_iast (N := 31) (dt_Formulas_push 14 _ _ _ rfl) (sc_13 hS) rfl ?_
        refine s_letM (fun M1 => ?_)
        refine s_aload_n (dt_Formulas_push 15 _ _ _ rfl) rfl ?_
        refine s_dup (dt_Formulas_push 16 _ _ _ rfl) rfl ?_
        refine s_getI (c := 4) (j := 3) (dt_Formulas_push 17 _ _ _ rfl) (kf_Formulas_22) (sc_11 hS) rfl ?_
        refine s_iconst (dt_Formulas_push 18 _ _ _ rfl) rfl ?_
        refine s_iadd (dt_Formulas_push 19 _ _ _ rfl) ?_
        refine s_putI (c := 4) (j := 3) (dt_Formulas_push 20 _ _ _ rfl) kp_Formulas_22 (sc_11 hS) ⟨rfl, rfl⟩ ?_
        refine s_letM (fun M2 => ?_)
        exact s_mask [false, false] (s_ret0 rfl)
      · exact s_mask [false, false] (s_ret0 rfl)
  exact s_vret (dt_Formulas_push 21 _ _ _ rfl) rfl rfl
theorem c_Formulas_push {S : KS} (hS : KExt 382 S)  (a0 : Int) (M : KM) : ∀ q, f_Formulas_push a0 M = some q → Ctr y_Formulas_push Y_Formulas_push [VR (some 11), VI a0] S M (none) S (q) := fun q hq =>
  ctr_of md_Formulas_push (Nat.le_of_ble_eq_true rfl) ⟨Nat.le_refl _, Nat.le_refl _⟩ 0 hq rfl (fun _ G => sim_Formulas_push hS  a0 M)
set_option maxRecDepth 100000 in
theorem sim_Formulas_value {G : Gam} {S : KS} (hS : KExt 382 S)  (a0 : Int) (a1 : Int) (a2 : Int) (a3 : Int) (a4 : Int) (M : KM) : Sim G Y_Formulas_value (f_Formulas_value a0 a1 a2 a3 a4 M) (kC 0 [some (VR (some 11)), some (VI a0), some (VI a1), some (VI a2), some (VI a3), some (VI a4), none, none, none] [] S M) (fun (q : Int × KM) => Sum.inr (some (VI q.1), S, q.2)) := by
  unfold f_Formulas_value
  refine s_aload_n (dt_Formulas_value 0 _ _ _ rfl) rfl ?_
  refine s_iconst (dt_Formulas_value 1 _ _ _ rfl) rfl ?_
  refine s_putI (c := 4) (j := 3) (dt_Formulas_value 2 _ _ _ rfl) kp_Formulas_22 (sc_11 hS) ⟨rfl, rfl⟩ ?_
  refine s_letM (fun M1 => ?_)
  refine s_iload_n (dt_Formulas_value 3 _ _ _ rfl) rfl ?_
  refine s_istore (dt_Formulas_value 4 _ _ _ rfl) rfl ?_
  refine s_bd (κ := (Sum.elim (fun (e18 : KM) => kC 191 [some (VR (some 11)), none, none, none, none, none, none, none, none] [] S e18) (fun (e20 : KM) => kC 46 [some (VR (some 11)), none, none, none, none, none, none, none, none] [] S e20))) (s_mask [true, false, true, true, true, true, true, false, false] (s_while (c := fun s2 => kC 8 [some (VR (some 11)), none, some (VI a1), some (VI a2), some (VI a3), some (VI a4), some (VI s2.1), none, none] [] S s2.2) (fun s2 => ?_) (a0, M1))) ?_
  · refine s_iload (dt_Formulas_value 5 _ _ _ rfl) rfl ?_
    refine s_if_lt (tgt := 191) (dt_Formulas_value 6 _ _ _ rfl) rfl ?_ ?_
    · exact s_mask [true, false, false, false, false, false, false, false, false] (s_ret0 rfl)
    · refine s_iload (dt_Formulas_value 7 _ _ _ rfl) rfl ?_
      refine s_aload_n (dt_Formulas_value 8 _ _ _ rfl) rfl ?_
      refine s_getI (c := 4) (j := 1) (dt_Formulas_value 9 _ _ _ rfl) (kf_Formulas_18) (sc_11 hS) rfl ?_
      refine s_if_icmp_ge (tgt := 191) (dt_Formulas_value 10 _ _ _ rfl) rfl ?_ ?_
      · refine s_iload (dt_Formulas_value 11 _ _ _ rfl) rfl ?_
        refine s_aload_n (dt_Formulas_value 12 _ _ _ rfl) rfl ?_
        refine s_getR (c := 4) (j := 0) (o := (some 12)) (dt_Formulas_value 13 _ _ _ rfl) (kf_Formulas_9) (sc_11 hS) rfl rfl ?_
        refine s_alen (N := 1600) (dt_Formulas_value 14 _ _ _ rfl) (sc_12 hS) rfl rfl (by decide) ?_
        refine s_if_icmp_ge (tgt := 191) (dt_Formulas_value 15 _ _ _ rfl) rfl ?_ ?_
        · refine s_aload_n (dt_Formulas_value 16 _ _ _ rfl) rfl ?_
          refine s_getR (c := 4) (j := 0) (o := (some 12)) (dt_Formulas_value 17 _ _ _ rfl) (kf_Formulas_9) (sc_11 hS) rfl rfl ?_
          refine s_iload (dt_Formulas_value 18 _ _ _ rfl) rfl ?_
          refine s_iald (N := 1600) (dt_Formulas_value 19 _ _ _ rfl) (sc_12 hS) rfl ?_
          refine s_letI (fun v3 => ?_)
          refine s_istore (dt_Formulas_value 20 _ _ _ rfl) rfl ?_
          refine s_iload (dt_Formulas_value 21 _ _ _ rfl) rfl ?_
          refine s_if_ne (tgt := 49) (dt_Formulas_value 22 _ _ _ rfl) rfl ?_ ?_
          · exact s_mask [true, false, false, false, false, false, false, false, false] (s_ret0 rfl)
          · refine s_iload (dt_Formulas_value 24 _ _ _ rfl) rfl ?_
            refine s_sipush (dt_Formulas_value 25 _ _ _ rfl) rfl ?_
            refine s_bd (κ := fun t17 => kC 185 [some (VR (some 11)), none, some (VI a1), some (VI a2), some (VI a3), some (VI a4), some (VI s2.1), none, none] [] S t17) ?_ (fun t17 => ?_)
            · refine s_if_icmp_lt (tgt := 70) (dt_Formulas_value 26 _ _ _ rfl) rfl ?_ ?_
              · refine s_iload (dt_Formulas_value 33 _ _ _ rfl) rfl ?_
                refine s_tcase (tgt := 108) (dt_Formulas_value 34 _ _ _ rfl) rfl rfl rfl ?_ (fun h22 => ?_)
                · refine s_aload_n (dt_Formulas_value 35 _ _ _ rfl) rfl ?_
                  refine s_iload_n (dt_Formulas_value 36 _ _ _ rfl) rfl ?_
                  refine s_callO (y := y_Formulas_push) (Y' := Y_Formulas_push) (as := [VR (some 11), VI a1]) (r := fun q => none) (M' := fun q => q) (kInvV (dt_Formulas_value 37 _ _ _ rfl) kin_Formulas_push 4 rfl (sc_11 hS) kse_Formulas_push rfl) kl_Formulas_25 md_Formulas_push rfl rfl (fun q hq => c_Formulas_push hS a1 s2.2 q hq) (fun q4 => ?_)
                  refine s_goto (tgt := 185) (dt_Formulas_value 38 _ _ _ rfl) rfl ?_
                  exact s_mask [true, false, true, true, true, true, true, false, false] (s_ret0 rfl)
                refine s_tcase (tgt := 116) (dt_Formulas_value 34 _ _ _ rfl) rfl rfl rfl ?_ (fun h23 => ?_)
                · refine s_aload_n (dt_Formulas_value 39 _ _ _ rfl) rfl ?_
                  refine s_iload_n (dt_Formulas_value 40 _ _ _ rfl) rfl ?_
                  refine s_callO (y := y_Formulas_push) (Y' := Y_Formulas_push) (as := [VR (some 11), VI a2]) (r := fun q => none) (M' := fun q => q) (kInvV (dt_Formulas_value 41 _ _ _ rfl) kin_Formulas_push 4 rfl (sc_11 hS) kse_Formulas_push rfl) kl_Formulas_25 md_Formulas_push rfl rfl (fun q hq => c_Formulas_push hS a2 s2.2 q hq) (fun q5 => ?_)
                  refine s_goto (tgt := 185) (dt_Formulas_value 42 _ _ _ rfl) rfl ?_
                  exact s_mask [true, false, true, true, true, true, true, false, false] (s_ret0 rfl)
                refine s_tcase (tgt := 124) (dt_Formulas_value 34 _ _ _ rfl) rfl rfl rfl ?_ (fun h24 => ?_)
                · refine s_aload_n (dt_Formulas_value 43 _ _ _ rfl) rfl ?_
                  refine s_iload (dt_Formulas_value 44 _ _ _ rfl) rfl ?_
                  refine s_callO (y := y_Formulas_push) (Y' := Y_Formulas_push) (as := [VR (some 11), VI a4]) (r := fun q => none) (M' := fun q => q) (kInvV (dt_Formulas_value 45 _ _ _ rfl) kin_Formulas_push 4 rfl (sc_11 hS) kse_Formulas_push rfl) kl_Formulas_25 md_Formulas_push rfl rfl (fun q hq => c_Formulas_push hS a4 s2.2 q hq) (fun q6 => ?_)
                  refine s_goto (tgt := 185) (dt_Formulas_value 46 _ _ _ rfl) rfl ?_
                  exact s_mask [true, false, true, true, true, true, true, false, false] (s_ret0 rfl)
                refine s_tcase (tgt := 133) (dt_Formulas_value 34 _ _ _ rfl) rfl rfl rfl ?_ (fun h25 => ?_)
                · refine s_aload_n (dt_Formulas_value 47 _ _ _ rfl) rfl ?_
                  refine s_iload (dt_Formulas_value 48 _ _ _ rfl) rfl ?_
                  refine s_callO (y := y_Formulas_push) (Y' := Y_Formulas_push) (as := [VR (some 11), VI a3]) (r := fun q => none) (M' := fun q => q) (kInvV (dt_Formulas_value 49 _ _ _ rfl) kin_Formulas_push 4 rfl (sc_11 hS) kse_Formulas_push rfl) kl_Formulas_25 md_Formulas_push rfl rfl (fun q hq => c_Formulas_push hS a3 s2.2 q hq) (fun q7 => ?_)
                  refine s_goto (tgt := 185) (dt_Formulas_value 50 _ _ _ rfl) rfl ?_
                  exact s_mask [true, false, true, true, true, true, true, false, false] (s_ret0 rfl)
                refine s_tcase (tgt := 142) (dt_Formulas_value 34 _ _ _ rfl) rfl rfl rfl ?_ (fun h26 => ?_)
                · refine s_aload_n (dt_Formulas_value 51 _ _ _ rfl) rfl ?_
                  refine s_aload_n (dt_Formulas_value 52 _ _ _ rfl) rfl ?_
                  refine s_callO (y := y_Formulas_pop) (Y' := Y_Formulas_pop) (as := [VR (some 11)]) (r := fun q => some (VI q.1)) (M' := fun q => q.2) (kInvV (dt_Formulas_value 53 _ _ _ rfl) kin_Formulas_pop 4 rfl (sc_11 hS) kse_Formulas_pop rfl) kl_Formulas_29 md_Formulas_pop rfl rfl (fun q hq => c_Formulas_pop hS s2.2 q hq) (fun q8 => ?_)
                  refine s_bd (κ := fun t9 => kC 155 [some (VR (some 11)), none, some (VI a1), some (VI a2), some (VI a3), some (VI a4), some (VI s2.1), none, none] [VI t9, VR (some 11)] S q8.2) ?_ (fun t9 => ?_)
                  · refine s_if_ne (tgt := 154) (dt_Formulas_value 54 _ _ _ rfl) rfl ?_ ?_
                    · refine s_iconst (dt_Formulas_value 55 _ _ _ rfl) rfl ?_
                      refine s_goto (tgt := 155) (dt_Formulas_value 56 _ _ _ rfl) rfl ?_
                      exact s_mask [true, false, true, true, true, true, true, false, false] (s_ret0 rfl)
                    · refine s_iconst (dt_Formulas_value 57 _ _ _ rfl) rfl ?_
                      exact s_mask [true, false, true, true, true, true, true, false, false] (s_ret0 rfl)
                  refine s_callO (y := y_Formulas_truth) (Y' := Y_Formulas_truth) (as := [VI t9]) (r := fun q => some (VI q)) (M' := fun q => q8.2) (kInvS (dt_Formulas_value 58 _ _ _ rfl) kst_Formulas_truth rfl) kl_Formulas_33 md_Formulas_truth rfl rfl (fun q hq => c_Formulas_truth hS t9 q8.2 q hq) (fun q10 => ?_)
                  refine s_callO (y := y_Formulas_push) (Y' := Y_Formulas_push) (as := [VR (some 11), VI q10]) (r := fun q => none) (M' := fun q => q) (kInvV (dt_Formulas_value 59 _ _ _ rfl) kin_Formulas_push 4 rfl (sc_11 hS) kse_Formulas_push rfl) kl_Formulas_25 md_Formulas_push rfl rfl (fun q hq => c_Formulas_push hS q10 q8.2 q hq) (fun q11 => ?_)
                  refine s_goto (tgt := 185) (dt_Formulas_value 60 _ _ _ rfl) rfl ?_
                  exact s_mask [true, false, true, true, true, true, true, false, false] (s_ret0 rfl)
                refine s_tdef (tgt := 164) (dt_Formulas_value 34 _ _ _ rfl) (by omega) rfl ?_
                refine s_aload_n (dt_Formulas_value 61 _ _ _ rfl) rfl ?_
                refine s_callO (y := y_Formulas_pop) (Y' := Y_Formulas_pop) (as := [VR (some 11)]) (r := fun q => some (VI q.1)) (M' := fun q => q.2) (kInvV (dt_Formulas_value 62 _ _ _ rfl) kin_Formulas_pop 4 rfl (sc_11 hS) kse_Formulas_pop rfl) kl_Formulas_29 md_Formulas_pop rfl rfl (fun q hq => c_Formulas_pop hS s2.2 q hq) (fun q12 => ?_)
                refine s_istore (dt_Formulas_value 63 _ _ _ rfl) rfl ?_
                refine s_aload_n (dt_Formulas_value 64 _ _ _ rfl) rfl ?_
                refine s_iload (dt_Formulas_value 65 _ _ _ rfl) rfl ?_
                refine s_aload_n (dt_Formulas_value 66 _ _ _ rfl) rfl ?_
                refine s_callO (y := y_Formulas_pop) (Y' := Y_Formulas_pop) (as := [VR (some 11)]) (r := fun q => some (VI q.1)) (M' := fun q => q.2) (kInvV (dt_Formulas_value 67 _ _ _ rfl) kin_Formulas_pop 4 rfl (sc_11 hS) kse_Formulas_pop rfl) kl_Formulas_29 md_Formulas_pop rfl rfl (fun q hq => c_Formulas_pop hS q12.2 q hq) (fun q13 => ?_)
                refine s_iload (dt_Formulas_value 68 _ _ _ rfl) rfl ?_
                refine s_callO (y := y_Formulas_joined) (Y' := Y_Formulas_joined) (as := [VI v3, VI q13.1, VI q12.1]) (r := fun q => some (VI q)) (M' := fun q => q13.2) (kInvS (dt_Formulas_value 69 _ _ _ rfl) kst_Formulas_joined rfl) kl_Formulas_37 md_Formulas_joined rfl rfl (fun q hq => c_Formulas_joined hS v3 q13.1 q12.1 q13.2 q hq) (fun q14 => ?_)
                refine s_callO (y := y_Formulas_push) (Y' := Y_Formulas_push) (as := [VR (some 11), VI q14]) (r := fun q => none) (M' := fun q => q) (kInvV (dt_Formulas_value 70 _ _ _ rfl) kin_Formulas_push 4 rfl (sc_11 hS) kse_Formulas_push rfl) kl_Formulas_25 md_Formulas_push rfl rfl (fun q hq => c_Formulas_push hS q14 q13.2 q hq) (fun q15 => ?_)
                exact s_mask [true, false, true, true, true, true, true, false, false] (s_ret0 rfl)
              · refine s_aload_n (dt_Formulas_value 27 _ _ _ rfl) rfl ?_
                refine s_iload (dt_Formulas_value 28 _ _ _ rfl) rfl ?_
                refine s_sipush (dt_Formulas_value 29 _ _ _ rfl) rfl ?_
                refine s_isub (dt_Formulas_value 30 _ _ _ rfl) ?_
                refine s_callO (y := y_Formulas_push) (Y' := Y_Formulas_push) (as := [VR (some 11), VI (w32 (v3 - (128 : Int)))]) (r := fun q => none) (M' := fun q => q) (kInvV (dt_Formulas_value 31 _ _ _ rfl) kin_Formulas_push 4 rfl (sc_11 hS) kse_Formulas_push rfl) kl_Formulas_25 md_Formulas_push rfl rfl (fun q hq => c_Formulas_push hS (w32 (v3 - (128 : Int))) s2.2 q hq) (fun q16 => ?_)
                refine s_goto (tgt := 185) (dt_Formulas_value 32 _ _ _ rfl) rfl ?_
                exact s_mask [true, false, true, true, true, true, true, false, false] (s_ret0 rfl)
            refine s_iinc (dt_Formulas_value 71 _ _ _ rfl) rfl rfl ?_
            refine s_goto (tgt := 8) (dt_Formulas_value 72 _ _ _ rfl) rfl ?_
            exact s_mask [true, false, true, true, true, true, true, false, false] (s_ret0 rfl)
        · exact s_mask [true, false, false, false, false, false, false, false, false] (s_ret0 rfl)
      · exact s_mask [true, false, false, false, false, false, false, false, false] (s_ret0 rfl)
  refine s_elim (fun e18 => ?_) ?_
  · refine s_aload_n (dt_Formulas_value 73 _ _ _ rfl) rfl ?_
    refine s_callO (y := y_Formulas_pop) (Y' := Y_Formulas_pop) (as := [VR (some 11)]) (r := fun q => some (VI q.1)) (M' := fun q => q.2) (kInvV (dt_Formulas_value 74 _ _ _ rfl) kin_Formulas_pop 4 rfl (sc_11 hS) kse_Formulas_pop rfl) kl_Formulas_29 md_Formulas_pop rfl rfl (fun q hq => c_Formulas_pop hS e18 q hq) (fun q19 => ?_)
    exact s_iret (dt_Formulas_value 75 _ _ _ rfl) rfl rfl
  intro e20
  refine s_goto (tgt := 191) (dt_Formulas_value 23 _ _ _ rfl) rfl ?_
  refine s_aload_n (dt_Formulas_value 73 _ _ _ rfl) rfl ?_
  refine s_callO (y := y_Formulas_pop) (Y' := Y_Formulas_pop) (as := [VR (some 11)]) (r := fun q => some (VI q.1)) (M' := fun q => q.2) (kInvV (dt_Formulas_value 74 _ _ _ rfl) kin_Formulas_pop 4 rfl (sc_11 hS) kse_Formulas_pop rfl) kl_Formulas_29 md_Formulas_pop rfl rfl (fun q hq => c_Formulas_pop hS e20 q hq) (fun q21 => ?_)
  exact s_iret (dt_Formulas_value 75 _ _ _ rfl) rfl rfl
theorem c_Formulas_value {S : KS} (hS : KExt 382 S)  (a0 : Int) (a1 : Int) (a2 : Int) (a3 : Int) (a4 : Int) (M : KM) : ∀ q, f_Formulas_value a0 a1 a2 a3 a4 M = some q → Ctr y_Formulas_value Y_Formulas_value [VR (some 11), VI a0, VI a1, VI a2, VI a3, VI a4] S M (some (VI q.1)) S (q.2) := fun q hq =>
  ctr_of md_Formulas_value (Nat.le_of_ble_eq_true rfl) ⟨Nat.le_refl _, Nat.le_refl _⟩ 3 hq rfl (fun _ G => sim_Formulas_value hS  a0 a1 a2 a3 a4 M)
set_option maxRecDepth 100000 in
theorem sim_X_isRight {G : Gam} {S : KS} (hS : KExt 382 S)  (a0 : Int) (M : KM) : Sim G Y_X_isRight (f_X_isRight a0 M) (kC 0 [some (VR (some 0)), some (VI a0)] [] S M) (fun (q : Int) => Sum.inr (some (VI q), S, M)) := by
  unfold f_X_isRight
  refine s_iload_n (dt_X_isRight 0 _ _ _ rfl) rfl ?_
  refine s_bd (κ := fun t1 => kC 20 [none, none] [VI t1] S M) ?_ (fun t1 => ?_)
  · refine s_if_lt (tgt := 19) (dt_X_isRight 1 _ _ _ rfl) rfl ?_ ?_
    · refine s_iconst (dt_X_isRight 9 _ _ _ rfl) rfl ?_
      exact s_mask [false, false] (s_ret0 rfl)
    · refine s_iload_n (dt_X_isRight 2 _ _ _ rfl) rfl ?_
      refine s_aload_n (dt_X_isRight 3 _ _ _ rfl) rfl ?_
      refine s_getR (c := 0) (j := 2) (o := (some 2)) (dt_X_isRight 4 _ _ _ rfl) (kf_X_20) (sc_0 hS) rfl rfl ?_
      refine s_getI (c := 12) (j := 9) (dt_X_isRight 5 _ _ _ rfl) (kf_X_174) (sc_2 hS) rfl ?_
      refine s_if_icmp_ge (tgt := 19) (dt_X_isRight 6 _ _ _ rfl) rfl ?_ ?_
      · refine s_iconst (dt_X_isRight 7 _ _ _ rfl) rfl ?_
        refine s_goto (tgt := 20) (dt_X_isRight 8 _ _ _ rfl) rfl ?_
        exact s_mask [false, false] (s_ret0 rfl)
      · refine s_iconst (dt_X_isRight 9 _ _ _ rfl) rfl ?_
        exact s_mask [false, false] (s_ret0 rfl)
  exact s_zret (dt_X_isRight 10 _ _ _ rfl) rfl rfl
theorem c_X_isRight {S : KS} (hS : KExt 382 S)  (a0 : Int) (M : KM) : ∀ q, f_X_isRight a0 M = some q → Ctr y_X_isRight Y_X_isRight [VR (some 0), VI a0] S M (some (VI q)) S (M) := fun q hq =>
  ctr_of md_X_isRight (Nat.le_of_ble_eq_true rfl) ⟨Nat.le_refl _, Nat.le_refl _⟩ 0 hq rfl (fun _ G => sim_X_isRight hS  a0 M)
set_option maxRecDepth 100000 in
theorem sim_X_wouldHave {G : Gam} {S : KS} (hS : KExt 382 S)  (a0 : Int) (a1 : Int) (a2 : Int) (M : KM) : Sim G Y_X_wouldHave (f_X_wouldHave a0 a1 a2 M) (kC 0 [some (VR (some 0)), some (VI a0), some (VI a1), some (VI a2), none] [] S M) (fun (q : Int × KM) => Sum.inr (some (VI q.1), S, q.2)) := by
  unfold f_X_wouldHave
  refine s_aload_n (dt_X_wouldHave 0 _ _ _ rfl) rfl ?_
  refine s_iload_n (dt_X_wouldHave 1 _ _ _ rfl) rfl ?_
  refine s_callO (y := y_X_isAlive) (Y' := Y_X_isAlive) (as := [VR (some 0), VI a0]) (r := fun q => some (VI q)) (M' := fun q => M) (kInvV (dt_X_wouldHave 2 _ _ _ rfl) kin_X_isAlive 0 rfl (sc_0 hS) kse_X_isAlive rfl) kl_X_147 md_X_isAlive rfl rfl (fun q hq => c_X_isAlive hS a0 M q hq) (fun q1 => ?_)
  refine s_if_eq (tgt := 16) (dt_X_wouldHave 3 _ _ _ rfl) rfl ?_ ?_
  · refine s_iconst (dt_X_wouldHave 8 _ _ _ rfl) rfl ?_
    exact s_zret01 (dt_X_wouldHave 9 _ _ _ rfl) rfl rfl rfl
  · refine s_aload_n (dt_X_wouldHave 4 _ _ _ rfl) rfl ?_
    refine s_iload_n (dt_X_wouldHave 5 _ _ _ rfl) rfl ?_
    refine s_callO (y := y_X_isRight) (Y' := Y_X_isRight) (as := [VR (some 0), VI a1]) (r := fun q => some (VI q)) (M' := fun q => M) (kInvV (dt_X_wouldHave 6 _ _ _ rfl) kin_X_isRight 0 rfl (sc_0 hS) kse_X_isRight rfl) kl_X_156 md_X_isRight rfl rfl (fun q hq => c_X_isRight hS a1 M q hq) (fun q2 => ?_)
    refine s_if_ne (tgt := 18) (dt_X_wouldHave 7 _ _ _ rfl) rfl ?_ ?_
    · refine s_iconst (dt_X_wouldHave 8 _ _ _ rfl) rfl ?_
      exact s_zret01 (dt_X_wouldHave 9 _ _ _ rfl) rfl rfl rfl
    · refine s_aload_n (dt_X_wouldHave 10 _ _ _ rfl) rfl ?_
      refine s_getR (c := 0) (j := 2) (o := (some 2)) (dt_X_wouldHave 11 _ _ _ rfl) (kf_X_20) (sc_0 hS) rfl rfl ?_
      refine s_getR (c := 12) (j := 10) (o := (some 10)) (dt_X_wouldHave 12 _ _ _ rfl) (kf_X_193) (sc_2 hS) rfl rfl ?_
      refine s_iload_n (dt_X_wouldHave 13 _ _ _ rfl) rfl ?_
      refine s_inv (y := y_X_at) (Y' := Y_X_at) (as := [VR (some 10), VI a1]) (r := some (VI (atM M 10 6 a1))) (M' := M) (kInvS (dt_X_wouldHave 14 _ _ _ rfl) kst_X_at rfl) kl_X_140 md_X_at rfl rfl (c_X_at hS ⟨(sc_10 hS), by decide⟩ a1 M) ?_
      refine s_letI (fun v3 => ?_)
      refine s_istore (dt_X_wouldHave 15 _ _ _ rfl) rfl ?_
      refine s_aload_n (dt_X_wouldHave 16 _ _ _ rfl) rfl ?_
      refine s_getR (c := 0) (j := 2) (o := (some 2)) (dt_X_wouldHave 17 _ _ _ rfl) (kf_X_20) (sc_0 hS) rfl rfl ?_
      refine s_getR (c := 12) (j := 16) (o := (some 11)) (dt_X_wouldHave 18 _ _ _ rfl) (kf_X_196) (sc_2 hS) rfl rfl ?_
      refine s_iload (dt_X_wouldHave 19 _ _ _ rfl) rfl ?_
      refine s_iload_n (dt_X_wouldHave 20 _ _ _ rfl) rfl ?_
      refine s_aload_n (dt_X_wouldHave 21 _ _ _ rfl) rfl ?_
      refine s_getR (c := 0) (j := 4) (o := (some 34)) (dt_X_wouldHave 22 _ _ _ rfl) (kf_X_34) (sc_0 hS) rfl rfl ?_
      refine s_getR (c := 10) (j := 1) (o := (some 36)) (dt_X_wouldHave 23 _ _ _ rfl) (kf_X_144) (sc_34 hS) rfl rfl ?_
      refine s_iload_n (dt_X_wouldHave 24 _ _ _ rfl) rfl ?_
      refine s_inv (y := y_X_at) (Y' := Y_X_at) (as := [VR (some 36), VI a0]) (r := some (VI (atM M 36 8 a0))) (M' := M) (kInvS (dt_X_wouldHave 25 _ _ _ rfl) kst_X_at rfl) kl_X_140 md_X_at rfl rfl (c_X_at hS ⟨(sc_36 hS), by decide⟩ a0 M) ?_
      refine s_aload_n (dt_X_wouldHave 26 _ _ _ rfl) rfl ?_
      refine s_getR (c := 0) (j := 2) (o := (some 2)) (dt_X_wouldHave 27 _ _ _ rfl) (kf_X_20) (sc_0 hS) rfl rfl ?_
      refine s_getR (c := 12) (j := 4) (o := (some 6)) (dt_X_wouldHave 28 _ _ _ rfl) (kf_X_153) (sc_2 hS) rfl rfl ?_
      refine s_iload_n (dt_X_wouldHave 29 _ _ _ rfl) rfl ?_
      refine s_inv (y := y_X_at) (Y' := Y_X_at) (as := [VR (some 6), VI a0]) (r := some (VI (atM M 6 8 a0))) (M' := M) (kInvS (dt_X_wouldHave 30 _ _ _ rfl) kst_X_at rfl) kl_X_140 md_X_at rfl rfl (c_X_at hS ⟨(sc_6 hS), by decide⟩ a0 M) ?_
      refine s_aload_n (dt_X_wouldHave 31 _ _ _ rfl) rfl ?_
      refine s_getR (c := 0) (j := 4) (o := (some 34)) (dt_X_wouldHave 32 _ _ _ rfl) (kf_X_34) (sc_0 hS) rfl rfl ?_
      refine s_getI (c := 10) (j := 4) (dt_X_wouldHave 33 _ _ _ rfl) (kf_X_200) (sc_34 hS) rfl ?_
      refine s_callO (y := y_Formulas_value) (Y' := Y_Formulas_value) (as := [VR (some 11), VI v3, VI a2, VI (atM M 36 8 a0), VI (atM M 6 8 a0), VI (M 34 4)]) (r := fun q => some (VI q.1)) (M' := fun q => q.2) (kInvV (dt_X_wouldHave 34 _ _ _ rfl) kin_Formulas_value 4 rfl (sc_11 hS) kse_Formulas_value rfl) kl_X_203 md_Formulas_value rfl rfl (fun q hq => c_Formulas_value hS v3 a2 (atM M 36 8 a0) (atM M 6 8 a0) (M 34 4) M q hq) (fun q4 => ?_)
      refine s_bd (κ := fun t5 => kC 81 [none, none, none, none, none] [VI t5] S q4.2) ?_ (fun t5 => ?_)
      · refine s_if_eq (tgt := 80) (dt_X_wouldHave 35 _ _ _ rfl) rfl ?_ ?_
        · refine s_iconst (dt_X_wouldHave 38 _ _ _ rfl) rfl ?_
          exact s_mask [false, false, false, false, false] (s_ret0 rfl)
        · refine s_iconst (dt_X_wouldHave 36 _ _ _ rfl) rfl ?_
          refine s_goto (tgt := 81) (dt_X_wouldHave 37 _ _ _ rfl) rfl ?_
          exact s_mask [false, false, false, false, false] (s_ret0 rfl)
      exact s_zret (dt_X_wouldHave 39 _ _ _ rfl) rfl rfl
theorem c_X_wouldHave {S : KS} (hS : KExt 382 S)  (a0 : Int) (a1 : Int) (a2 : Int) (M : KM) : ∀ q, f_X_wouldHave a0 a1 a2 M = some q → Ctr y_X_wouldHave Y_X_wouldHave [VR (some 0), VI a0, VI a1, VI a2] S M (some (VI q.1)) S (q.2) := fun q hq =>
  ctr_of md_X_wouldHave (Nat.le_of_ble_eq_true rfl) ⟨Nat.le_refl _, Nat.le_refl _⟩ 1 hq rfl (fun _ G => sim_X_wouldHave hS  a0 a1 a2 M)
