set_option maxRecDepth 100000 in
theorem sim_Debts_ringOf {G : Gam} {S : KS} (hS : KExt 382 S)   (M : KM) : Sim G Y_Debts_ringOf (f_Debts_ringOf  M) (kC 0 [some (VR (some 340)), some (VR (some 34)), none, none] [] S M) (fun (q : Int × KM) => Sum.inr (some (VI q.1), S, q.2)) := by
  unfold f_Debts_ringOf
  refine s_iconst (dt_Debts_ringOf 0 _ _ _ rfl) rfl ?_
  refine s_istore_n (dt_Debts_ringOf 1 _ _ _ rfl) rfl ?_
  refine s_bd (κ := (fun (e3 : KM) => kC 24 [some (VR (some 340)), some (VR (some 34)), none, none] [] S e3)) (s_mask [true, true, true, false] (s_while (c := fun s1 => kC 2 [some (VR (some 340)), some (VR (some 34)), some (VI s1.1), none] [] S s1.2) (fun s1 => ?_) ((0 : Int), M))) ?_
  · refine s_iload_n (dt_Debts_ringOf 2 _ _ _ rfl) rfl ?_
    refine s_aload_n (dt_Debts_ringOf 3 _ _ _ rfl) rfl ?_
    refine s_getR (c := 2) (j := 4) (o := (some 344)) (dt_Debts_ringOf 4 _ _ _ rfl) (kf_Debts_21) (sc_340 hS) rfl rfl ?_
    refine s_alen (N := 8) (dt_Debts_ringOf 5 _ _ _ rfl) (sc_344 hS) rfl rfl (by decide) ?_
    refine s_if_icmp_ge (tgt := 24) (dt_Debts_ringOf 6 _ _ _ rfl) rfl ?_ ?_
    · refine s_aload_n (dt_Debts_ringOf 7 _ _ _ rfl) rfl ?_
      refine s_getR (c := 2) (j := 4) (o := (some 344)) (dt_Debts_ringOf 8 _ _ _ rfl) (kf_Debts_21) (sc_340 hS) rfl rfl ?_
      refine s_iload_n (dt_Debts_ringOf 9 _ _ _ rfl) rfl ?_
      refine s_iconst (dt_Debts_ringOf 10 _ _ _ rfl) rfl ?_
      refine s_iast (N := 8) (dt_Debts_ringOf 11 _ _ _ rfl) (sc_344 hS) rfl ?_
      refine s_letM (fun M2 => ?_)
      refine s_iinc (dt_Debts_ringOf 12 _ _ _ rfl) rfl rfl ?_
      refine s_goto (tgt := 2) (dt_Debts_ringOf 13 _ _ _ rfl) rfl ?_
      exact s_mask [true, true, true, false] (s_ret0 rfl)
    · exact s_mask [true, true, false, false] (s_ret0 rfl)
  intro e3
  refine s_iconst (dt_Debts_ringOf 14 _ _ _ rfl) rfl ?_
  refine s_istore_n (dt_Debts_ringOf 15 _ _ _ rfl) rfl ?_
  refine s_bd (κ := (fun (e8 : KM) => kC 87 [some (VR (some 340)), none, none, none] [] S e8)) (s_mask [true, true, true, false] (s_while (c := fun s4 => kC 26 [some (VR (some 340)), some (VR (some 34)), some (VI s4.1), none] [] S s4.2) (fun s4 => ?_) ((0 : Int), e3))) ?_
  · refine s_iload_n (dt_Debts_ringOf 16 _ _ _ rfl) rfl ?_
    refine s_aload_n (dt_Debts_ringOf 17 _ _ _ rfl) rfl ?_
    refine s_getI (c := 10) (j := 6) (dt_Debts_ringOf 18 _ _ _ rfl) (kf_Debts_31) (sc_34 hS) rfl ?_
    refine s_if_icmp_ge (tgt := 87) (dt_Debts_ringOf 19 _ _ _ rfl) rfl ?_ ?_
    · refine s_aload_n (dt_Debts_ringOf 20 _ _ _ rfl) rfl ?_
      refine s_getI (c := 10) (j := 8) (dt_Debts_ringOf 21 _ _ _ rfl) (kf_Debts_34) (sc_34 hS) rfl ?_
      refine s_iload_n (dt_Debts_ringOf 22 _ _ _ rfl) rfl ?_
      refine s_inv (y := y_X_isIn) (Y' := Y_X_isIn) (as := [VI (s4.2 34 8), VI s4.1]) (r := some (VI (isInV (s4.2 34 8) s4.1))) (M' := s4.2) (kInvS (dt_Debts_ringOf 23 _ _ _ rfl) kst_X_isIn rfl) kl_Debts_37 md_X_isIn rfl rfl (c_X_isIn hS (s4.2 34 8) s4.1 s4.2) ?_
      refine s_bd (κ := fun t7 => kC 81 [some (VR (some 340)), some (VR (some 34)), some (VI s4.1), none] [] S t7) ?_ (fun t7 => ?_)
      · refine s_if_ne (tgt := 81) (dt_Debts_ringOf 24 _ _ _ rfl) rfl ?_ ?_
        · refine s_aload_n (dt_Debts_ringOf 25 _ _ _ rfl) rfl ?_
          refine s_getR (c := 10) (j := 9) (o := (some 37)) (dt_Debts_ringOf 26 _ _ _ rfl) (kf_Debts_41) (sc_34 hS) rfl rfl ?_
          refine s_iload_n (dt_Debts_ringOf 27 _ _ _ rfl) rfl ?_
          refine s_inv (y := y_X_at) (Y' := Y_X_at) (as := [VR (some 37), VI s4.1]) (r := some (VI (atM s4.2 37 30 s4.1))) (M' := s4.2) (kInvS (dt_Debts_ringOf 28 _ _ _ rfl) kst_X_at rfl) kl_Debts_44 md_X_at rfl rfl (c_X_at hS ⟨(sc_37 hS), by decide⟩ s4.1 s4.2) ?_
          refine s_letI (fun v5 => ?_)
          refine s_istore_n (dt_Debts_ringOf 29 _ _ _ rfl) rfl ?_
          refine s_aload_n (dt_Debts_ringOf 30 _ _ _ rfl) rfl ?_
          refine s_getR (c := 2) (j := 4) (o := (some 344)) (dt_Debts_ringOf 31 _ _ _ rfl) (kf_Debts_21) (sc_340 hS) rfl rfl ?_
          refine s_iload_n (dt_Debts_ringOf 32 _ _ _ rfl) rfl ?_
          refine s_aload_n (dt_Debts_ringOf 33 _ _ _ rfl) rfl ?_
          refine s_getR (c := 2) (j := 4) (o := (some 344)) (dt_Debts_ringOf 34 _ _ _ rfl) (kf_Debts_21) (sc_340 hS) rfl rfl ?_
          refine s_iload_n (dt_Debts_ringOf 35 _ _ _ rfl) rfl ?_
          refine s_inv (y := y_X_at) (Y' := Y_X_at) (as := [VR (some 344), VI v5]) (r := some (VI (atM s4.2 344 8 v5))) (M' := s4.2) (kInvS (dt_Debts_ringOf 36 _ _ _ rfl) kst_X_at rfl) kl_Debts_44 md_X_at rfl rfl (c_X_at hS ⟨(sc_344 hS), by decide⟩ v5 s4.2) ?_
          refine s_iconst (dt_Debts_ringOf 37 _ _ _ rfl) rfl ?_
          refine s_aload_n (dt_Debts_ringOf 38 _ _ _ rfl) rfl ?_
          refine s_getR (c := 10) (j := 10) (o := (some 38)) (dt_Debts_ringOf 39 _ _ _ rfl) (kf_Debts_48) (sc_34 hS) rfl rfl ?_
          refine s_iload_n (dt_Debts_ringOf 40 _ _ _ rfl) rfl ?_
          refine s_inv (y := y_X_at) (Y' := Y_X_at) (as := [VR (some 38), VI s4.1]) (r := some (VI (atM s4.2 38 30 s4.1))) (M' := s4.2) (kInvS (dt_Debts_ringOf 41 _ _ _ rfl) kst_X_at rfl) kl_Debts_44 md_X_at rfl rfl (c_X_at hS ⟨(sc_38 hS), by decide⟩ s4.1 s4.2) ?_
          refine s_ishl (dt_Debts_ringOf 42 _ _ _ rfl) ?_
          refine s_ior (dt_Debts_ringOf 43 _ _ _ rfl) ?_
          refine s_inv (y := y_X_put) (Y' := Y_X_put) (as := [VR (some 344), VI v5, VI (kior (atM s4.2 344 8 v5) (kishl (1 : Int) (atM s4.2 38 30 s4.1)))]) (r := none) (M' := (putM s4.2 344 8 v5 (kior (atM s4.2 344 8 v5) (kishl (1 : Int) (atM s4.2 38 30 s4.1))))) (kInvS (dt_Debts_ringOf 44 _ _ _ rfl) kst_X_put rfl) kl_Debts_54 md_X_put rfl rfl (c_X_put hS ⟨(sc_344 hS), by decide⟩ v5 (kior (atM s4.2 344 8 v5) (kishl (1 : Int) (atM s4.2 38 30 s4.1))) s4.2) ?_
          refine s_letM (fun M6 => ?_)
          exact s_mask [true, true, true, false] (s_ret0 rfl)
        · exact s_mask [true, true, true, false] (s_ret0 rfl)
      refine s_iinc (dt_Debts_ringOf 45 _ _ _ rfl) rfl rfl ?_
      refine s_goto (tgt := 26) (dt_Debts_ringOf 46 _ _ _ rfl) rfl ?_
      exact s_mask [true, true, true, false] (s_ret0 rfl)
    · exact s_mask [true, false, false, false] (s_ret0 rfl)
  intro e8
  refine s_iconst (dt_Debts_ringOf 47 _ _ _ rfl) rfl ?_
  refine s_istore_n (dt_Debts_ringOf 48 _ _ _ rfl) rfl ?_
  refine s_bd (κ := (fun (e14 : KM) => kC 149 [some (VR (some 340)), none, none, none] [] S e14)) (s_mask [true, false, true, false] (s_while (c := fun s9 => kC 89 [some (VR (some 340)), none, some (VI s9.1), none] [] S s9.2) (fun s9 => ?_) ((0 : Int), e8))) ?_
  · refine s_iload_n (dt_Debts_ringOf 49 _ _ _ rfl) rfl ?_
    refine s_aload_n (dt_Debts_ringOf 50 _ _ _ rfl) rfl ?_
    refine s_getR (c := 2) (j := 4) (o := (some 344)) (dt_Debts_ringOf 51 _ _ _ rfl) (kf_Debts_21) (sc_340 hS) rfl rfl ?_
    refine s_alen (N := 8) (dt_Debts_ringOf 52 _ _ _ rfl) (sc_344 hS) rfl rfl (by decide) ?_
    refine s_if_icmp_ge (tgt := 149) (dt_Debts_ringOf 53 _ _ _ rfl) rfl ?_ ?_
    · refine s_iconst (dt_Debts_ringOf 54 _ _ _ rfl) rfl ?_
      refine s_istore_n (dt_Debts_ringOf 55 _ _ _ rfl) rfl ?_
      refine s_bd (κ := (fun (e13 : KM) => kC 143 [some (VR (some 340)), none, some (VI s9.1), none] [] S e13)) (s_mask [true, false, true, true] (s_while (c := fun s10 => kC 100 [some (VR (some 340)), none, some (VI s9.1), some (VI s10.1)] [] S s10.2) (fun s10 => ?_) ((0 : Int), s9.2))) ?_
      · refine s_iload_n (dt_Debts_ringOf 56 _ _ _ rfl) rfl ?_
        refine s_aload_n (dt_Debts_ringOf 57 _ _ _ rfl) rfl ?_
        refine s_getR (c := 2) (j := 4) (o := (some 344)) (dt_Debts_ringOf 58 _ _ _ rfl) (kf_Debts_21) (sc_340 hS) rfl rfl ?_
        refine s_alen (N := 8) (dt_Debts_ringOf 59 _ _ _ rfl) (sc_344 hS) rfl rfl (by decide) ?_
        refine s_if_icmp_ge (tgt := 143) (dt_Debts_ringOf 60 _ _ _ rfl) rfl ?_ ?_
        · refine s_aload_n (dt_Debts_ringOf 61 _ _ _ rfl) rfl ?_
          refine s_getR (c := 2) (j := 4) (o := (some 344)) (dt_Debts_ringOf 62 _ _ _ rfl) (kf_Debts_21) (sc_340 hS) rfl rfl ?_
          refine s_iload_n (dt_Debts_ringOf 63 _ _ _ rfl) rfl ?_
          refine s_iald (N := 8) (dt_Debts_ringOf 64 _ _ _ rfl) (sc_344 hS) rfl ?_
          refine s_iload_n (dt_Debts_ringOf 65 _ _ _ rfl) rfl ?_
          refine s_inv (y := y_X_isIn) (Y' := Y_X_isIn) (as := [VI (s10.2 344 (s10.1).toNat), VI s9.1]) (r := some (VI (isInV (s10.2 344 (s10.1).toNat) s9.1))) (M' := s10.2) (kInvS (dt_Debts_ringOf 66 _ _ _ rfl) kst_X_isIn rfl) kl_Debts_37 md_X_isIn rfl rfl (c_X_isIn hS (s10.2 344 (s10.1).toNat) s9.1 s10.2) ?_
          refine s_bd (κ := fun t12 => kC 137 [some (VR (some 340)), none, some (VI s9.1), some (VI s10.1)] [] S t12) ?_ (fun t12 => ?_)
          · refine s_if_eq (tgt := 137) (dt_Debts_ringOf 67 _ _ _ rfl) rfl ?_ ?_
            · exact s_mask [true, false, true, true] (s_ret0 rfl)
            · refine s_aload_n (dt_Debts_ringOf 68 _ _ _ rfl) rfl ?_
              refine s_getR (c := 2) (j := 4) (o := (some 344)) (dt_Debts_ringOf 69 _ _ _ rfl) (kf_Debts_21) (sc_340 hS) rfl rfl ?_
              refine s_iload_n (dt_Debts_ringOf 70 _ _ _ rfl) rfl ?_
              refine s_dup2 (dt_Debts_ringOf 71 _ _ _ rfl) rfl rfl ?_
              refine s_iald (N := 8) (dt_Debts_ringOf 72 _ _ _ rfl) (sc_344 hS) rfl ?_
              refine s_aload_n (dt_Debts_ringOf 73 _ _ _ rfl) rfl ?_
              refine s_getR (c := 2) (j := 4) (o := (some 344)) (dt_Debts_ringOf 74 _ _ _ rfl) (kf_Debts_21) (sc_340 hS) rfl rfl ?_
              refine s_iload_n (dt_Debts_ringOf 75 _ _ _ rfl) rfl ?_
              refine s_iald (N := 8) (dt_Debts_ringOf 76 _ _ _ rfl) (sc_344 hS) rfl ?_
              refine s_ior (dt_Debts_ringOf 77 _ _ _ rfl) ?_
              refine s_iast (N := 8) (dt_Debts_ringOf 78 _ _ _ rfl) (sc_344 hS) rfl ?_
              refine s_letM (fun M11 => ?_)
              exact s_mask [true, false, true, true] (s_ret0 rfl)
          refine s_iinc (dt_Debts_ringOf 79 _ _ _ rfl) rfl rfl ?_
          refine s_goto (tgt := 100) (dt_Debts_ringOf 80 _ _ _ rfl) rfl ?_
          exact s_mask [true, false, true, true] (s_ret0 rfl)
        · exact s_mask [true, false, true, false] (s_ret0 rfl)
      intro e13
      refine s_iinc (dt_Debts_ringOf 81 _ _ _ rfl) rfl rfl ?_
      refine s_goto (tgt := 89) (dt_Debts_ringOf 82 _ _ _ rfl) rfl ?_
      exact s_mask [true, false, true, false] (s_ret0 rfl)
    · exact s_mask [true, false, false, false] (s_ret0 rfl)
  intro e14
  refine s_iconst (dt_Debts_ringOf 83 _ _ _ rfl) rfl ?_
  refine s_istore_n (dt_Debts_ringOf 84 _ _ _ rfl) rfl ?_
  refine s_iconst (dt_Debts_ringOf 85 _ _ _ rfl) rfl ?_
  refine s_istore_n (dt_Debts_ringOf 86 _ _ _ rfl) rfl ?_
  refine s_bd (κ := (fun (e18 : Int) => kC 191 [none, none, some (VI e18), none] [] S e14)) (s_mask [true, false, true, true] (s_while (c := fun s15 => kC 153 [some (VR (some 340)), none, some (VI s15.1), some (VI s15.2)] [] S e14) (fun s15 => ?_) ((0 : Int), (0 : Int)))) ?_
  · refine s_iload_n (dt_Debts_ringOf 87 _ _ _ rfl) rfl ?_
    refine s_aload_n (dt_Debts_ringOf 88 _ _ _ rfl) rfl ?_
    refine s_getR (c := 2) (j := 4) (o := (some 344)) (dt_Debts_ringOf 89 _ _ _ rfl) (kf_Debts_21) (sc_340 hS) rfl rfl ?_
    refine s_alen (N := 8) (dt_Debts_ringOf 90 _ _ _ rfl) (sc_344 hS) rfl rfl (by decide) ?_
    refine s_if_icmp_ge (tgt := 191) (dt_Debts_ringOf 91 _ _ _ rfl) rfl ?_ ?_
    · refine s_iload_n (dt_Debts_ringOf 92 _ _ _ rfl) rfl ?_
      refine s_aload_n (dt_Debts_ringOf 93 _ _ _ rfl) rfl ?_
      refine s_getR (c := 2) (j := 4) (o := (some 344)) (dt_Debts_ringOf 94 _ _ _ rfl) (kf_Debts_21) (sc_340 hS) rfl rfl ?_
      refine s_iload_n (dt_Debts_ringOf 95 _ _ _ rfl) rfl ?_
      refine s_iald (N := 8) (dt_Debts_ringOf 96 _ _ _ rfl) (sc_344 hS) rfl ?_
      refine s_iload_n (dt_Debts_ringOf 97 _ _ _ rfl) rfl ?_
      refine s_inv (y := y_X_isIn) (Y' := Y_X_isIn) (as := [VI (e14 344 (s15.2).toNat), VI s15.2]) (r := some (VI (isInV (e14 344 (s15.2).toNat) s15.2))) (M' := e14) (kInvS (dt_Debts_ringOf 98 _ _ _ rfl) kst_X_isIn rfl) kl_Debts_37 md_X_isIn rfl rfl (c_X_isIn hS (e14 344 (s15.2).toNat) s15.2 e14) ?_
      refine s_bd (κ := fun t16 => kC 183 [some (VR (some 340)), none, none, some (VI s15.2)] [VI t16, VI s15.1] S e14) ?_ (fun t16 => ?_)
      · refine s_if_eq (tgt := 182) (dt_Debts_ringOf 99 _ _ _ rfl) rfl ?_ ?_
        · refine s_iconst (dt_Debts_ringOf 104 _ _ _ rfl) rfl ?_
          exact s_mask [true, false, false, true] (s_ret0 rfl)
        · refine s_iconst (dt_Debts_ringOf 100 _ _ _ rfl) rfl ?_
          refine s_iload_n (dt_Debts_ringOf 101 _ _ _ rfl) rfl ?_
          refine s_ishl (dt_Debts_ringOf 102 _ _ _ rfl) ?_
          refine s_goto (tgt := 183) (dt_Debts_ringOf 103 _ _ _ rfl) rfl ?_
          exact s_mask [true, false, false, true] (s_ret0 rfl)
      refine s_ior (dt_Debts_ringOf 105 _ _ _ rfl) ?_
      refine s_letI (fun v17 => ?_)
      refine s_istore_n (dt_Debts_ringOf 106 _ _ _ rfl) rfl ?_
      refine s_iinc (dt_Debts_ringOf 107 _ _ _ rfl) rfl rfl ?_
      refine s_goto (tgt := 153) (dt_Debts_ringOf 108 _ _ _ rfl) rfl ?_
      exact s_mask [true, false, true, true] (s_ret0 rfl)
    · exact s_mask [false, false, true, false] (s_ret0 rfl)
  intro e18
  refine s_iload_n (dt_Debts_ringOf 109 _ _ _ rfl) rfl ?_
  exact s_iret (dt_Debts_ringOf 110 _ _ _ rfl) rfl rfl
theorem c_Debts_ringOf {S : KS} (hS : KExt 382 S)   (M : KM) : ∀ q, f_Debts_ringOf  M = some q → Ctr y_Debts_ringOf Y_Debts_ringOf [VR (some 340), VR (some 34)] S M (some (VI q.1)) S (q.2) := fun q hq =>
  ctr_of md_Debts_ringOf (Nat.le_of_ble_eq_true rfl) ⟨Nat.le_refl _, Nat.le_refl _⟩ 2 hq rfl (fun _ G => sim_Debts_ringOf hS   M)
set_option maxRecDepth 100000 in
theorem sim_X_ring {G : Gam} {S : KS} (hS : KExt 382 S)   (M : KM) : Sim G Y_X_ring (f_X_ring  M) (kC 0 [some (VR (some 0))] [] S M) (fun (q : Int × KM) => Sum.inr (some (VI q.1), S, q.2)) := by
  unfold f_X_ring
  refine s_aload_n (dt_X_ring 0 _ _ _ rfl) rfl ?_
  refine s_getR (c := 0) (j := 11) (o := (some 340)) (dt_X_ring 1 _ _ _ rfl) (kf_X_69) (sc_0 hS) rfl rfl ?_
  refine s_aload_n (dt_X_ring 2 _ _ _ rfl) rfl ?_
  refine s_getR (c := 0) (j := 4) (o := (some 34)) (dt_X_ring 3 _ _ _ rfl) (kf_X_34) (sc_0 hS) rfl rfl ?_
  refine s_callO (y := y_Debts_ringOf) (Y' := Y_Debts_ringOf) (as := [VR (some 340), VR (some 34)]) (r := fun q => some (VI q.1)) (M' := fun q => q.2) (kInvV (dt_X_ring 4 _ _ _ rfl) kin_Debts_ringOf 2 rfl (sc_340 hS) kse_Debts_ringOf rfl) kl_X_325 md_Debts_ringOf rfl rfl (fun q hq => c_Debts_ringOf hS M q hq) (fun q1 => ?_)
  exact s_iret (dt_X_ring 5 _ _ _ rfl) rfl rfl
theorem c_X_ring {S : KS} (hS : KExt 382 S)   (M : KM) : ∀ q, f_X_ring  M = some q → Ctr y_X_ring Y_X_ring [VR (some 0)] S M (some (VI q.1)) S (q.2) := fun q hq =>
  ctr_of md_X_ring (Nat.le_of_ble_eq_true rfl) ⟨Nat.le_refl _, Nat.le_refl _⟩ 0 hq rfl (fun _ G => sim_X_ring hS   M)
set_option maxRecDepth 100000 in
theorem sim_X_askedOver {G : Gam} {S : KS} (hS : KExt 382 S)  (a0 : Int) (a1 : Int) (a2 : Int) (M : KM) : Sim G Y_X_askedOver (f_X_askedOver a0 a1 a2 M) (kC 0 [some (VR (some 0)), some (VI a0), some (VI a1), some (VI a2), none, none, none, none] [] S M) (fun (q : Int) => Sum.inr (some (VI q), S, M)) := by
  unfold f_X_askedOver
  refine s_iconst (dt_X_askedOver 0 _ _ _ rfl) rfl ?_
  refine s_istore (dt_X_askedOver 1 _ _ _ rfl) rfl ?_
  refine s_iconst (dt_X_askedOver 2 _ _ _ rfl) rfl ?_
  refine s_istore (dt_X_askedOver 3 _ _ _ rfl) rfl ?_
  refine s_bd (κ := (fun (e9 : Int) => kC 110 [none, none, none, none, some (VI e9), none, none, none] [] S M)) (s_mask [true, true, true, true, true, true, false, false] (s_while (c := fun s1 => kC 6 [some (VR (some 0)), some (VI a0), some (VI a1), some (VI a2), some (VI s1.1), some (VI s1.2), none, none] [] S M) (fun s1 => ?_) ((0 : Int), (0 : Int)))) ?_
  · refine s_iload (dt_X_askedOver 4 _ _ _ rfl) rfl ?_
    refine s_aload_n (dt_X_askedOver 5 _ _ _ rfl) rfl ?_
    refine s_getR (c := 0) (j := 2) (o := (some 2)) (dt_X_askedOver 6 _ _ _ rfl) (kf_X_20) (sc_0 hS) rfl rfl ?_
    refine s_getI (c := 12) (j := 0) (dt_X_askedOver 7 _ _ _ rfl) (kf_X_124) (sc_2 hS) rfl ?_
    refine s_if_icmp_ge (tgt := 110) (dt_X_askedOver 8 _ _ _ rfl) rfl ?_ ?_
    · refine s_aload_n (dt_X_askedOver 9 _ _ _ rfl) rfl ?_
      refine s_iload (dt_X_askedOver 10 _ _ _ rfl) rfl ?_
      refine s_callO (y := y_X_isAlive) (Y' := Y_X_isAlive) (as := [VR (some 0), VI s1.2]) (r := fun q => some (VI q)) (M' := fun q => M) (kInvV (dt_X_askedOver 11 _ _ _ rfl) kin_X_isAlive 0 rfl (sc_0 hS) kse_X_isAlive rfl) kl_X_147 md_X_isAlive rfl rfl (fun q hq => c_X_isAlive hS s1.2 M q hq) (fun q2 => ?_)
      refine s_bd (κ := fun t8 => kC 104 [some (VR (some 0)), some (VI a0), some (VI a1), some (VI a2), some (VI t8), some (VI s1.2), none, none] [] S M) ?_ (fun t8 => ?_)
      · refine s_if_eq (tgt := 104) (dt_X_askedOver 12 _ _ _ rfl) rfl ?_ ?_
        · exact s_mask [true, true, true, true, true, true, false, false] (s_ret0 rfl)
        · refine s_iload (dt_X_askedOver 13 _ _ _ rfl) rfl ?_
          refine s_iload_n (dt_X_askedOver 14 _ _ _ rfl) rfl ?_
          refine s_if_icmp_eq (tgt := 104) (dt_X_askedOver 15 _ _ _ rfl) rfl ?_ ?_
          · exact s_mask [true, true, true, true, true, true, false, false] (s_ret0 rfl)
          · refine s_aload_n (dt_X_askedOver 16 _ _ _ rfl) rfl ?_
            refine s_getR (c := 0) (j := 2) (o := (some 2)) (dt_X_askedOver 17 _ _ _ rfl) (kf_X_20) (sc_0 hS) rfl rfl ?_
            refine s_getR (c := 12) (j := 3) (o := (some 5)) (dt_X_askedOver 18 _ _ _ rfl) (kf_X_150) (sc_2 hS) rfl rfl ?_
            refine s_iload (dt_X_askedOver 19 _ _ _ rfl) rfl ?_
            refine s_inv (y := y_X_at) (Y' := Y_X_at) (as := [VR (some 5), VI s1.2]) (r := some (VI (atM M 5 8 s1.2))) (M' := M) (kInvS (dt_X_askedOver 20 _ _ _ rfl) kst_X_at rfl) kl_X_140 md_X_at rfl rfl (c_X_at hS ⟨(sc_5 hS), by decide⟩ s1.2 M) ?_
            refine s_aload_n (dt_X_askedOver 21 _ _ _ rfl) rfl ?_
            refine s_getR (c := 0) (j := 4) (o := (some 34)) (dt_X_askedOver 22 _ _ _ rfl) (kf_X_34) (sc_0 hS) rfl rfl ?_
            refine s_getR (c := 10) (j := 0) (o := (some 35)) (dt_X_askedOver 23 _ _ _ rfl) (kf_X_137) (sc_34 hS) rfl rfl ?_
            refine s_iload (dt_X_askedOver 24 _ _ _ rfl) rfl ?_
            refine s_inv (y := y_X_at) (Y' := Y_X_at) (as := [VR (some 35), VI s1.2]) (r := some (VI (atM M 35 8 s1.2))) (M' := M) (kInvS (dt_X_askedOver 25 _ _ _ rfl) kst_X_at rfl) kl_X_140 md_X_at rfl rfl (c_X_at hS ⟨(sc_35 hS), by decide⟩ s1.2 M) ?_
            refine s_isub (dt_X_askedOver 26 _ _ _ rfl) ?_
            refine s_letI (fun v3 => ?_)
            refine s_istore (dt_X_askedOver 27 _ _ _ rfl) rfl ?_
            refine s_iload_n (dt_X_askedOver 28 _ _ _ rfl) rfl ?_
            refine s_iload_n (dt_X_askedOver 29 _ _ _ rfl) rfl ?_
            refine s_iadd (dt_X_askedOver 30 _ _ _ rfl) ?_
            refine s_letI (fun v4 => ?_)
            refine s_istore (dt_X_askedOver 31 _ _ _ rfl) rfl ?_
            refine s_iload (dt_X_askedOver 32 _ _ _ rfl) rfl ?_
            refine s_bd (κ := fun t6 => kC 97 [some (VR (some 0)), some (VI a0), some (VI a1), some (VI a2), some (VI s1.1), some (VI s1.2), some (VI t6), none] [] S M) ?_ (fun t6 => ?_)
            · refine s_if_le (tgt := 97) (dt_X_askedOver 33 _ _ _ rfl) rfl ?_ ?_
              · exact s_mask [true, true, true, true, true, true, true, false] (s_ret0 rfl)
              · refine s_iload (dt_X_askedOver 34 _ _ _ rfl) rfl ?_
                refine s_if_le (tgt := 97) (dt_X_askedOver 35 _ _ _ rfl) rfl ?_ ?_
                · exact s_mask [true, true, true, true, true, true, true, false] (s_ret0 rfl)
                · refine s_iload (dt_X_askedOver 36 _ _ _ rfl) rfl ?_
                  refine s_aload_n (dt_X_askedOver 37 _ _ _ rfl) rfl ?_
                  refine s_getR (c := 0) (j := 4) (o := (some 34)) (dt_X_askedOver 38 _ _ _ rfl) (kf_X_34) (sc_0 hS) rfl rfl ?_
                  refine s_getR (c := 10) (j := 1) (o := (some 36)) (dt_X_askedOver 39 _ _ _ rfl) (kf_X_144) (sc_34 hS) rfl rfl ?_
                  refine s_iload (dt_X_askedOver 40 _ _ _ rfl) rfl ?_
                  refine s_inv (y := y_X_at) (Y' := Y_X_at) (as := [VR (some 36), VI s1.2]) (r := some (VI (atM M 36 8 s1.2))) (M' := M) (kInvS (dt_X_askedOver 41 _ _ _ rfl) kst_X_at rfl) kl_X_140 md_X_at rfl rfl (c_X_at hS ⟨(sc_36 hS), by decide⟩ s1.2 M) ?_
                  refine s_iload (dt_X_askedOver 42 _ _ _ rfl) rfl ?_
                  refine s_idiv (dt_X_askedOver 43 _ _ _ rfl) ?_
                  refine s_mmin (dt_X_askedOver 44 _ _ _ rfl) kj_X_212 rfl ?_
                  refine s_letI (fun v5 => ?_)
                  refine s_istore (dt_X_askedOver 45 _ _ _ rfl) rfl ?_
                  exact s_mask [true, true, true, true, true, true, true, false] (s_ret0 rfl)
            refine s_iload (dt_X_askedOver 46 _ _ _ rfl) rfl ?_
            refine s_iload (dt_X_askedOver 47 _ _ _ rfl) rfl ?_
            refine s_iadd (dt_X_askedOver 48 _ _ _ rfl) ?_
            refine s_letI (fun v7 => ?_)
            refine s_istore (dt_X_askedOver 49 _ _ _ rfl) rfl ?_
            exact s_mask [true, true, true, true, true, true, false, false] (s_ret0 rfl)
      refine s_iinc (dt_X_askedOver 50 _ _ _ rfl) rfl rfl ?_
      refine s_goto (tgt := 6) (dt_X_askedOver 51 _ _ _ rfl) rfl ?_
      exact s_mask [true, true, true, true, true, true, false, false] (s_ret0 rfl)
    · exact s_mask [false, false, false, false, true, false, false, false] (s_ret0 rfl)
  intro e9
  refine s_iload (dt_X_askedOver 52 _ _ _ rfl) rfl ?_
  exact s_iret (dt_X_askedOver 53 _ _ _ rfl) rfl rfl
theorem c_X_askedOver {S : KS} (hS : KExt 382 S)  (a0 : Int) (a1 : Int) (a2 : Int) (M : KM) : ∀ q, f_X_askedOver a0 a1 a2 M = some q → Ctr y_X_askedOver Y_X_askedOver [VR (some 0), VI a0, VI a1, VI a2] S M (some (VI q)) S (M) := fun q hq =>
  ctr_of md_X_askedOver (Nat.le_of_ble_eq_true rfl) ⟨Nat.le_refl _, Nat.le_refl _⟩ 4 hq rfl (fun _ G => sim_X_askedOver hS  a0 a1 a2 M)
set_option maxRecDepth 100000 in
theorem sim_X_isPrice {G : Gam} {S : KS} (hS : KExt 382 S)  (a0 : Int) (M : KM) : Sim G Y_X_isPrice (f_X_isPrice a0 M) (kC 0 [some (VI a0)] [] S M) (fun (q : Int) => Sum.inr (some (VI q), S, M)) := by
  unfold f_X_isPrice
  refine s_iload_n (dt_X_isPrice 0 _ _ _ rfl) rfl ?_
  refine s_bd (κ := fun t1 => kC 15 [none] [VI t1] S M) ?_ (fun t1 => ?_)
  · refine s_if_lt (tgt := 14) (dt_X_isPrice 1 _ _ _ rfl) rfl ?_ ?_
    · refine s_iconst (dt_X_isPrice 7 _ _ _ rfl) rfl ?_
      exact s_mask [false] (s_ret0 rfl)
    · refine s_iload_n (dt_X_isPrice 2 _ _ _ rfl) rfl ?_
      refine s_bipush (dt_X_isPrice 3 _ _ _ rfl) rfl ?_
      refine s_if_icmp_gt (tgt := 14) (dt_X_isPrice 4 _ _ _ rfl) rfl ?_ ?_
      · refine s_iconst (dt_X_isPrice 5 _ _ _ rfl) rfl ?_
        refine s_goto (tgt := 15) (dt_X_isPrice 6 _ _ _ rfl) rfl ?_
        exact s_mask [false] (s_ret0 rfl)
      · refine s_iconst (dt_X_isPrice 7 _ _ _ rfl) rfl ?_
        exact s_mask [false] (s_ret0 rfl)
  exact s_zret (dt_X_isPrice 8 _ _ _ rfl) rfl rfl
theorem c_X_isPrice {S : KS} (hS : KExt 382 S)  (a0 : Int) (M : KM) : ∀ q, f_X_isPrice a0 M = some q → Ctr y_X_isPrice Y_X_isPrice [VI a0] S M (some (VI q)) S (M) := fun q hq =>
  ctr_of md_X_isPrice (Nat.le_of_ble_eq_true rfl) ⟨Nat.le_refl _, Nat.le_refl _⟩ 0 hq rfl (fun _ G => sim_X_isPrice hS  a0 M)
set_option maxRecDepth 100000 in
theorem sim_X_market {G : Gam} {S : KS} (hS : KExt 382 S)  (a0 : Int) (a1 : Int) (M : KM) : Sim G Y_X_market (f_X_market a0 a1 M) (kC 0 [some (VR (some 0)), some (VI a0), some (VI a1)] [] S M) (fun (q : Int) => Sum.inr (some (VI q), S, M)) := by
  unfold f_X_market
  refine s_iload_n (dt_X_market 0 _ _ _ rfl) rfl ?_
  refine s_callO (y := y_X_isPrice) (Y' := Y_X_isPrice) (as := [VI a0]) (r := fun q => some (VI q)) (M' := fun q => M) (kInvS (dt_X_market 1 _ _ _ rfl) kst_X_isPrice rfl) kl_X_329 md_X_isPrice rfl rfl (fun q hq => c_X_isPrice hS a0 M q hq) (fun q1 => ?_)
  refine s_if_eq (tgt := 14) (dt_X_market 2 _ _ _ rfl) rfl ?_ ?_
  · refine s_ldc (n := (-1000000 : Int)) (kc_X_173) (dt_X_market 6 _ _ _ rfl) rfl ?_
    exact s_iret (dt_X_market 7 _ _ _ rfl) rfl rfl
  · refine s_iload_n (dt_X_market 3 _ _ _ rfl) rfl ?_
    refine s_callO (y := y_X_isPrice) (Y' := Y_X_isPrice) (as := [VI a1]) (r := fun q => some (VI q)) (M' := fun q => M) (kInvS (dt_X_market 4 _ _ _ rfl) kst_X_isPrice rfl) kl_X_329 md_X_isPrice rfl rfl (fun q hq => c_X_isPrice hS a1 M q hq) (fun q2 => ?_)
    refine s_if_ne (tgt := 17) (dt_X_market 5 _ _ _ rfl) rfl ?_ ?_
    · refine s_ldc (n := (-1000000 : Int)) (kc_X_173) (dt_X_market 6 _ _ _ rfl) rfl ?_
      exact s_iret (dt_X_market 7 _ _ _ rfl) rfl rfl
    · refine s_aload_n (dt_X_market 8 _ _ _ rfl) rfl ?_
      refine s_iload_n (dt_X_market 9 _ _ _ rfl) rfl ?_
      refine s_iload_n (dt_X_market 10 _ _ _ rfl) rfl ?_
      refine s_iconst (dt_X_market 11 _ _ _ rfl) rfl ?_
      refine s_callO (y := y_X_askedOver) (Y' := Y_X_askedOver) (as := [VR (some 0), VI a0, VI a1, VI (-1 : Int)]) (r := fun q => some (VI q)) (M' := fun q => M) (kInvV (dt_X_market 12 _ _ _ rfl) kin_X_askedOver 0 rfl (sc_0 hS) kse_X_askedOver rfl) kl_X_332 md_X_askedOver rfl rfl (fun q hq => c_X_askedOver hS a0 a1 (-1 : Int) M q hq) (fun q3 => ?_)
      exact s_iret (dt_X_market 13 _ _ _ rfl) rfl rfl
theorem c_X_market {S : KS} (hS : KExt 382 S)  (a0 : Int) (a1 : Int) (M : KM) : ∀ q, f_X_market a0 a1 M = some q → Ctr y_X_market Y_X_market [VR (some 0), VI a0, VI a1] S M (some (VI q)) S (M) := fun q hq =>
  ctr_of md_X_market (Nat.le_of_ble_eq_true rfl) ⟨Nat.le_refl _, Nat.le_refl _⟩ 0 hq rfl (fun _ G => sim_X_market hS  a0 a1 M)
set_option maxRecDepth 100000 in
theorem sim_X_restingPrice {G : Gam} {S : KS} (hS : KExt 382 S)  (a0 : Int) (a1 : Int) (M : KM) : Sim G Y_X_restingPrice (f_X_restingPrice a0 a1 M) (kC 0 [some (VR (some 0)), some (VI a0), some (VI a1), none, none, none, none] [] S M) (fun (q : Int) => Sum.inr (some (VI q), S, M)) := by
  unfold f_X_restingPrice
  refine s_iconst (dt_X_restingPrice 0 _ _ _ rfl) rfl ?_
  refine s_istore_n (dt_X_restingPrice 1 _ _ _ rfl) rfl ?_
  refine s_aload_n (dt_X_restingPrice 2 _ _ _ rfl) rfl ?_
  refine s_iconst (dt_X_restingPrice 3 _ _ _ rfl) rfl ?_
  refine s_iload_n (dt_X_restingPrice 4 _ _ _ rfl) rfl ?_
  refine s_iload_n (dt_X_restingPrice 5 _ _ _ rfl) rfl ?_
  refine s_callO (y := y_X_askedOver) (Y' := Y_X_askedOver) (as := [VR (some 0), VI (0 : Int), VI a0, VI a1]) (r := fun q => some (VI q)) (M' := fun q => M) (kInvV (dt_X_restingPrice 6 _ _ _ rfl) kin_X_askedOver 0 rfl (sc_0 hS) kse_X_askedOver rfl) kl_X_332 md_X_askedOver rfl rfl (fun q hq => c_X_askedOver hS (0 : Int) a0 a1 M q hq) (fun q1 => ?_)
  refine s_mabs (dt_X_restingPrice 7 _ _ _ rfl) kj_X_338 rfl ?_
  refine s_letI (fun v2 => ?_)
  refine s_istore (dt_X_restingPrice 8 _ _ _ rfl) rfl ?_
  refine s_iconst (dt_X_restingPrice 9 _ _ _ rfl) rfl ?_
  refine s_istore (dt_X_restingPrice 10 _ _ _ rfl) rfl ?_
  refine s_bd (κ := (fun (e7 : Int) => kC 57 [none, none, none, some (VI e7), none, none, none] [] S M)) (s_mask [true, true, true, true, true, true, false] (s_while (c := fun s3 => kC 17 [some (VR (some 0)), some (VI a0), some (VI a1), some (VI s3.1), some (VI s3.2.1), some (VI s3.2.2), none] [] S M) (fun s3 => ?_) ((0 : Int), v2, (1 : Int)))) ?_
  · refine s_iload (dt_X_restingPrice 11 _ _ _ rfl) rfl ?_
    refine s_bipush (dt_X_restingPrice 12 _ _ _ rfl) rfl ?_
    refine s_if_icmp_gt (tgt := 57) (dt_X_restingPrice 13 _ _ _ rfl) rfl ?_ ?_
    · refine s_aload_n (dt_X_restingPrice 14 _ _ _ rfl) rfl ?_
      refine s_iload (dt_X_restingPrice 15 _ _ _ rfl) rfl ?_
      refine s_iload_n (dt_X_restingPrice 16 _ _ _ rfl) rfl ?_
      refine s_iload_n (dt_X_restingPrice 17 _ _ _ rfl) rfl ?_
      refine s_callO (y := y_X_askedOver) (Y' := Y_X_askedOver) (as := [VR (some 0), VI s3.2.2, VI a0, VI a1]) (r := fun q => some (VI q)) (M' := fun q => M) (kInvV (dt_X_restingPrice 18 _ _ _ rfl) kin_X_askedOver 0 rfl (sc_0 hS) kse_X_askedOver rfl) kl_X_332 md_X_askedOver rfl rfl (fun q hq => c_X_askedOver hS s3.2.2 a0 a1 M q hq) (fun q4 => ?_)
      refine s_mabs (dt_X_restingPrice 19 _ _ _ rfl) kj_X_338 rfl ?_
      refine s_letI (fun v5 => ?_)
      refine s_istore (dt_X_restingPrice 20 _ _ _ rfl) rfl ?_
      refine s_iload (dt_X_restingPrice 21 _ _ _ rfl) rfl ?_
      refine s_iload (dt_X_restingPrice 22 _ _ _ rfl) rfl ?_
      refine s_bd (κ := fun t6 => kC 51 [some (VR (some 0)), some (VI a0), some (VI a1), some (VI t6.1), some (VI t6.2), some (VI s3.2.2), none] [] S M) ?_ (fun t6 => ?_)
      · refine s_if_icmp_ge (tgt := 51) (dt_X_restingPrice 23 _ _ _ rfl) rfl ?_ ?_
        · refine s_iload (dt_X_restingPrice 24 _ _ _ rfl) rfl ?_
          refine s_istore_n (dt_X_restingPrice 25 _ _ _ rfl) rfl ?_
          refine s_iload (dt_X_restingPrice 26 _ _ _ rfl) rfl ?_
          refine s_istore (dt_X_restingPrice 27 _ _ _ rfl) rfl ?_
          exact s_mask [true, true, true, true, true, true, false] (s_ret0 rfl)
        · exact s_mask [true, true, true, true, true, true, false] (s_ret0 rfl)
      refine s_iinc (dt_X_restingPrice 28 _ _ _ rfl) rfl rfl ?_
      refine s_goto (tgt := 17) (dt_X_restingPrice 29 _ _ _ rfl) rfl ?_
      exact s_mask [true, true, true, true, true, true, false] (s_ret0 rfl)
    · exact s_mask [false, false, false, true, false, false, false] (s_ret0 rfl)
  intro e7
  refine s_iload_n (dt_X_restingPrice 30 _ _ _ rfl) rfl ?_
  exact s_iret (dt_X_restingPrice 31 _ _ _ rfl) rfl rfl
theorem c_X_restingPrice {S : KS} (hS : KExt 382 S)  (a0 : Int) (a1 : Int) (M : KM) : ∀ q, f_X_restingPrice a0 a1 M = some q → Ctr y_X_restingPrice Y_X_restingPrice [VR (some 0), VI a0, VI a1] S M (some (VI q)) S (M) := fun q hq =>
  ctr_of md_X_restingPrice (Nat.le_of_ble_eq_true rfl) ⟨Nat.le_refl _, Nat.le_refl _⟩ 4 hq rfl (fun _ G => sim_X_restingPrice hS  a0 a1 M)
set_option maxRecDepth 100000 in
theorem sim_X_rests {G : Gam} {S : KS} (hS : KExt 382 S)  (a0 : Int) (a1 : Int) (M : KM) : Sim G Y_X_rests (f_X_rests a0 a1 M) (kC 0 [some (VR (some 0)), some (VI a0), some (VI a1), none] [] S M) (fun (q : Int) => Sum.inr (some (VI q), S, M)) := by
  unfold f_X_rests
  refine s_iload_n (dt_X_rests 0 _ _ _ rfl) rfl ?_
  refine s_callO (y := y_X_isPrice) (Y' := Y_X_isPrice) (as := [VI a0]) (r := fun q => some (VI q)) (M' := fun q => M) (kInvS (dt_X_rests 1 _ _ _ rfl) kst_X_isPrice rfl) kl_X_329 md_X_isPrice rfl rfl (fun q hq => c_X_isPrice hS a0 M q hq) (fun q1 => ?_)
  refine s_if_eq (tgt := 16) (dt_X_rests 2 _ _ _ rfl) rfl ?_ ?_
  · refine s_ldc (n := (-1000000 : Int)) (kc_X_173) (dt_X_rests 8 _ _ _ rfl) rfl ?_
    exact s_iret (dt_X_rests 9 _ _ _ rfl) rfl rfl
  · refine s_iload_n (dt_X_rests 3 _ _ _ rfl) rfl ?_
    refine s_if_lt (tgt := 16) (dt_X_rests 4 _ _ _ rfl) rfl ?_ ?_
    · refine s_ldc (n := (-1000000 : Int)) (kc_X_173) (dt_X_rests 8 _ _ _ rfl) rfl ?_
      exact s_iret (dt_X_rests 9 _ _ _ rfl) rfl rfl
    · refine s_iload_n (dt_X_rests 5 _ _ _ rfl) rfl ?_
      refine s_iconst (dt_X_rests 6 _ _ _ rfl) rfl ?_
      refine s_if_icmp_le (tgt := 19) (dt_X_rests 7 _ _ _ rfl) rfl ?_ ?_
      · refine s_aload_n (dt_X_rests 10 _ _ _ rfl) rfl ?_
        refine s_iload_n (dt_X_rests 11 _ _ _ rfl) rfl ?_
        refine s_iconst (dt_X_rests 12 _ _ _ rfl) rfl ?_
        refine s_callO (y := y_X_restingPrice) (Y' := Y_X_restingPrice) (as := [VR (some 0), VI a0, VI (-1 : Int)]) (r := fun q => some (VI q)) (M' := fun q => M) (kInvV (dt_X_rests 13 _ _ _ rfl) kin_X_restingPrice 0 rfl (sc_0 hS) kse_X_restingPrice rfl) kl_X_335 md_X_restingPrice rfl rfl (fun q hq => c_X_restingPrice hS a0 (-1 : Int) M q hq) (fun q2 => ?_)
        refine s_istore_n (dt_X_rests 14 _ _ _ rfl) rfl ?_
        refine s_iload_n (dt_X_rests 15 _ _ _ rfl) rfl ?_
        refine s_bd (κ := fun t4 => kC 41 [none, none, none, none] [VI t4] S M) ?_ (fun t4 => ?_)
        · refine s_if_ne (tgt := 34) (dt_X_rests 16 _ _ _ rfl) rfl ?_ ?_
          · refine s_iload_n (dt_X_rests 17 _ _ _ rfl) rfl ?_
            refine s_goto (tgt := 41) (dt_X_rests 18 _ _ _ rfl) rfl ?_
            exact s_mask [false, false, false, false] (s_ret0 rfl)
          · refine s_aload_n (dt_X_rests 19 _ _ _ rfl) rfl ?_
            refine s_iload_n (dt_X_rests 20 _ _ _ rfl) rfl ?_
            refine s_iload_n (dt_X_rests 21 _ _ _ rfl) rfl ?_
            refine s_iconst (dt_X_rests 22 _ _ _ rfl) rfl ?_
            refine s_callO (y := y_X_askedOver) (Y' := Y_X_askedOver) (as := [VR (some 0), VI q2, VI a0, VI (-1 : Int)]) (r := fun q => some (VI q)) (M' := fun q => M) (kInvV (dt_X_rests 23 _ _ _ rfl) kin_X_askedOver 0 rfl (sc_0 hS) kse_X_askedOver rfl) kl_X_332 md_X_askedOver rfl rfl (fun q hq => c_X_askedOver hS q2 a0 (-1 : Int) M q hq) (fun q3 => ?_)
            exact s_mask [false, false, false, false] (s_ret0 rfl)
        exact s_iret (dt_X_rests 24 _ _ _ rfl) rfl rfl
      · refine s_ldc (n := (-1000000 : Int)) (kc_X_173) (dt_X_rests 8 _ _ _ rfl) rfl ?_
        exact s_iret (dt_X_rests 9 _ _ _ rfl) rfl rfl
theorem c_X_rests {S : KS} (hS : KExt 382 S)  (a0 : Int) (a1 : Int) (M : KM) : ∀ q, f_X_rests a0 a1 M = some q → Ctr y_X_rests Y_X_rests [VR (some 0), VI a0, VI a1] S M (some (VI q)) S (M) := fun q hq =>
  ctr_of md_X_rests (Nat.le_of_ble_eq_true rfl) ⟨Nat.le_refl _, Nat.le_refl _⟩ 1 hq rfl (fun _ G => sim_X_rests hS  a0 a1 M)
set_option maxRecDepth 100000 in
theorem sim_X_corner {G : Gam} {S : KS} (hS : KExt 382 S)  (a0 : Int) (a1 : Int) (M : KM) : Sim G Y_X_corner (f_X_corner a0 a1 M) (kC 0 [some (VR (some 0)), some (VI a0), some (VI a1)] [] S M) (fun (q : Int) => Sum.inr (some (VI q), S, M)) := by
  unfold f_X_corner
  refine s_aload_n (dt_X_corner 0 _ _ _ rfl) rfl ?_
  refine s_iload_n (dt_X_corner 1 _ _ _ rfl) rfl ?_
  refine s_callO (y := y_X_isAlive) (Y' := Y_X_isAlive) (as := [VR (some 0), VI a0]) (r := fun q => some (VI q)) (M' := fun q => M) (kInvV (dt_X_corner 2 _ _ _ rfl) kin_X_isAlive 0 rfl (sc_0 hS) kse_X_isAlive rfl) kl_X_147 md_X_isAlive rfl rfl (fun q hq => c_X_isAlive hS a0 M q hq) (fun q1 => ?_)
  refine s_if_eq (tgt := 15) (dt_X_corner 3 _ _ _ rfl) rfl ?_ ?_
  · refine s_ldc (n := (-1000000 : Int)) (kc_X_173) (dt_X_corner 7 _ _ _ rfl) rfl ?_
    exact s_iret (dt_X_corner 8 _ _ _ rfl) rfl rfl
  · refine s_iload_n (dt_X_corner 4 _ _ _ rfl) rfl ?_
    refine s_callO (y := y_X_isPrice) (Y' := Y_X_isPrice) (as := [VI a1]) (r := fun q => some (VI q)) (M' := fun q => M) (kInvS (dt_X_corner 5 _ _ _ rfl) kst_X_isPrice rfl) kl_X_329 md_X_isPrice rfl rfl (fun q hq => c_X_isPrice hS a1 M q hq) (fun q2 => ?_)
    refine s_if_ne (tgt := 18) (dt_X_corner 6 _ _ _ rfl) rfl ?_ ?_
    · refine s_ldc (n := (-1000000 : Int)) (kc_X_173) (dt_X_corner 7 _ _ _ rfl) rfl ?_
      exact s_iret (dt_X_corner 8 _ _ _ rfl) rfl rfl
    · refine s_aload_n (dt_X_corner 9 _ _ _ rfl) rfl ?_
      refine s_iload_n (dt_X_corner 10 _ _ _ rfl) rfl ?_
      refine s_iconst (dt_X_corner 11 _ _ _ rfl) rfl ?_
      refine s_callO (y := y_X_restingPrice) (Y' := Y_X_restingPrice) (as := [VR (some 0), VI a1, VI (-1 : Int)]) (r := fun q => some (VI q)) (M' := fun q => M) (kInvV (dt_X_corner 12 _ _ _ rfl) kin_X_restingPrice 0 rfl (sc_0 hS) kse_X_restingPrice rfl) kl_X_335 md_X_restingPrice rfl rfl (fun q hq => c_X_restingPrice hS a1 (-1 : Int) M q hq) (fun q3 => ?_)
      refine s_aload_n (dt_X_corner 13 _ _ _ rfl) rfl ?_
      refine s_iload_n (dt_X_corner 14 _ _ _ rfl) rfl ?_
      refine s_iload_n (dt_X_corner 15 _ _ _ rfl) rfl ?_
      refine s_callO (y := y_X_restingPrice) (Y' := Y_X_restingPrice) (as := [VR (some 0), VI a1, VI a0]) (r := fun q => some (VI q)) (M' := fun q => M) (kInvV (dt_X_corner 16 _ _ _ rfl) kin_X_restingPrice 0 rfl (sc_0 hS) kse_X_restingPrice rfl) kl_X_335 md_X_restingPrice rfl rfl (fun q hq => c_X_restingPrice hS a1 a0 M q hq) (fun q4 => ?_)
      refine s_isub (dt_X_corner 17 _ _ _ rfl) ?_
      exact s_iret (dt_X_corner 18 _ _ _ rfl) rfl rfl
theorem c_X_corner {S : KS} (hS : KExt 382 S)  (a0 : Int) (a1 : Int) (M : KM) : ∀ q, f_X_corner a0 a1 M = some q → Ctr y_X_corner Y_X_corner [VR (some 0), VI a0, VI a1] S M (some (VI q)) S (M) := fun q hq =>
  ctr_of md_X_corner (Nat.le_of_ble_eq_true rfl) ⟨Nat.le_refl _, Nat.le_refl _⟩ 0 hq rfl (fun _ G => sim_X_corner hS  a0 a1 M)
set_option maxRecDepth 100000 in
theorem sim_Safety_fewestOf {G : Gam} {S : KS} (hS : KExt 382 S)  (a0 : Int) (a1 : Int) (M : KM) : Sim G Y_Safety_fewestOf (f_Safety_fewestOf a0 a1 M) (kC 0 [some (VR (some 345)), some (VI a0), some (VI a1)] [] S M) (fun (q : Int) => Sum.inr (some (VI q), S, M)) := by
  unfold f_Safety_fewestOf
  refine s_aload_n (dt_Safety_fewestOf 0 _ _ _ rfl) rfl ?_
  refine s_getR (c := 9) (j := 2) (o := (some 348)) (dt_Safety_fewestOf 1 _ _ _ rfl) (kf_Safety_18) (sc_345 hS) rfl rfl ?_
  refine s_iload_n (dt_Safety_fewestOf 2 _ _ _ rfl) rfl ?_
  refine s_sipush (dt_Safety_fewestOf 3 _ _ _ rfl) rfl ?_
  refine s_imul (dt_Safety_fewestOf 4 _ _ _ rfl) ?_
  refine s_iload_n (dt_Safety_fewestOf 5 _ _ _ rfl) rfl ?_
  refine s_iadd (dt_Safety_fewestOf 6 _ _ _ rfl) ?_
  refine s_inv (y := y_X_at) (Y' := Y_X_at) (as := [VR (some 348), VI (w32 ((w32 (a0 * (1201 : Int))) + a1))]) (r := some (VI (atM M 348 10809 (w32 ((w32 (a0 * (1201 : Int))) + a1))))) (M' := M) (kInvS (dt_Safety_fewestOf 7 _ _ _ rfl) kst_X_at rfl) kl_Safety_49 md_X_at rfl rfl (c_X_at hS ⟨(sc_348 hS), by decide⟩ (w32 ((w32 (a0 * (1201 : Int))) + a1)) M) ?_
  exact s_iret (dt_Safety_fewestOf 8 _ _ _ rfl) rfl rfl
theorem c_Safety_fewestOf {S : KS} (hS : KExt 382 S)  (a0 : Int) (a1 : Int) (M : KM) : ∀ q, f_Safety_fewestOf a0 a1 M = some q → Ctr y_Safety_fewestOf Y_Safety_fewestOf [VR (some 345), VI a0, VI a1] S M (some (VI q)) S (M) := fun q hq =>
  ctr_of md_Safety_fewestOf (Nat.le_of_ble_eq_true rfl) ⟨Nat.le_refl _, Nat.le_refl _⟩ 0 hq rfl (fun _ G => sim_Safety_fewestOf hS  a0 a1 M)
set_option maxRecDepth 100000 in
theorem sim_Safety_fewestBy {G : Gam} {S : KS} (hS : KExt 382 S)  (a0 : Int) (a1 : Int) (M : KM) : Sim G Y_Safety_fewestBy (f_Safety_fewestBy a0 a1 M) (kC 0 [some (VR (some 345)), some (VI a0), some (VI a1), none, none, none, none, none, none] [] S M) (fun (q : Int) => Sum.inr (some (VI q), S, M)) := by
  unfold f_Safety_fewestBy
  refine s_ldc (n := (100000000 : Int)) (kc_Safety_79) (dt_Safety_fewestBy 0 _ _ _ rfl) rfl ?_
  refine s_istore_n (dt_Safety_fewestBy 1 _ _ _ rfl) rfl ?_
  refine s_aload_n (dt_Safety_fewestBy 2 _ _ _ rfl) rfl ?_
  refine s_getI (c := 9) (j := 4) (dt_Safety_fewestBy 3 _ _ _ rfl) (kf_Safety_31) (sc_345 hS) rfl ?_
  refine s_iload_n (dt_Safety_fewestBy 4 _ _ _ rfl) rfl ?_
  refine s_mmin (dt_Safety_fewestBy 5 _ _ _ rfl) kj_Safety_73 rfl ?_
  refine s_letI (fun v1 => ?_)
  refine s_istore (dt_Safety_fewestBy 6 _ _ _ rfl) rfl ?_
  refine s_iload_n (dt_Safety_fewestBy 7 _ _ _ rfl) rfl ?_
  refine s_iconst (dt_Safety_fewestBy 8 _ _ _ rfl) rfl ?_
  refine s_isub (dt_Safety_fewestBy 9 _ _ _ rfl) ?_
  refine s_sipush (dt_Safety_fewestBy 10 _ _ _ rfl) rfl ?_
  refine s_imul (dt_Safety_fewestBy 11 _ _ _ rfl) ?_
  refine s_iload_n (dt_Safety_fewestBy 12 _ _ _ rfl) rfl ?_
  refine s_iadd (dt_Safety_fewestBy 13 _ _ _ rfl) ?_
  refine s_letI (fun v2 => ?_)
  refine s_istore (dt_Safety_fewestBy 14 _ _ _ rfl) rfl ?_
  refine s_iconst (dt_Safety_fewestBy 15 _ _ _ rfl) rfl ?_
  refine s_iload_n (dt_Safety_fewestBy 16 _ _ _ rfl) rfl ?_
  refine s_iload_n (dt_Safety_fewestBy 17 _ _ _ rfl) rfl ?_
  refine s_iconst (dt_Safety_fewestBy 18 _ _ _ rfl) rfl ?_
  refine s_isub (dt_Safety_fewestBy 19 _ _ _ rfl) ?_
  refine s_aload_n (dt_Safety_fewestBy 20 _ _ _ rfl) rfl ?_
  refine s_getI (c := 9) (j := 4) (dt_Safety_fewestBy 21 _ _ _ rfl) (kf_Safety_31) (sc_345 hS) rfl ?_
  refine s_imul (dt_Safety_fewestBy 22 _ _ _ rfl) ?_
  refine s_isub (dt_Safety_fewestBy 23 _ _ _ rfl) ?_
  refine s_mmax (dt_Safety_fewestBy 24 _ _ _ rfl) kj_Safety_68 rfl ?_
  refine s_letI (fun v3 => ?_)
  refine s_istore (dt_Safety_fewestBy 25 _ _ _ rfl) rfl ?_
  refine s_bd (κ := (fun (e9 : Int) => kC 123 [none, none, none, some (VI e9), none, none, none, none, none] [] S M)) (s_mask [true, false, false, true, true, true, true, false, false] (s_while (c := fun s4 => kC 40 [some (VR (some 345)), none, none, some (VI s4.1), some (VI v1), some (VI v2), some (VI s4.2), none, none] [] S M) (fun s4 => ?_) ((100000000 : Int), v3))) ?_
  · refine s_iload (dt_Safety_fewestBy 26 _ _ _ rfl) rfl ?_
    refine s_iload (dt_Safety_fewestBy 27 _ _ _ rfl) rfl ?_
    refine s_if_icmp_gt (tgt := 123) (dt_Safety_fewestBy 28 _ _ _ rfl) rfl ?_ ?_
    · refine s_iload_n (dt_Safety_fewestBy 29 _ _ _ rfl) rfl ?_
      refine s_if_le (tgt := 123) (dt_Safety_fewestBy 30 _ _ _ rfl) rfl ?_ ?_
      · exact s_mask [false, false, false, true, false, false, false, false, false] (s_ret0 rfl)
      · refine s_aload_n (dt_Safety_fewestBy 31 _ _ _ rfl) rfl ?_
        refine s_getI (c := 9) (j := 3) (dt_Safety_fewestBy 32 _ _ _ rfl) (kf_Safety_27) (sc_345 hS) rfl ?_
        refine s_iload (dt_Safety_fewestBy 33 _ _ _ rfl) rfl ?_
        refine s_iadd (dt_Safety_fewestBy 34 _ _ _ rfl) ?_
        refine s_letI (fun v5 => ?_)
        refine s_istore (dt_Safety_fewestBy 35 _ _ _ rfl) rfl ?_
        refine s_iload (dt_Safety_fewestBy 36 _ _ _ rfl) rfl ?_
        refine s_iload (dt_Safety_fewestBy 37 _ _ _ rfl) rfl ?_
        refine s_isub (dt_Safety_fewestBy 38 _ _ _ rfl) ?_
        refine s_letI (fun v6 => ?_)
        refine s_istore (dt_Safety_fewestBy 39 _ _ _ rfl) rfl ?_
        refine s_iload (dt_Safety_fewestBy 40 _ _ _ rfl) rfl ?_
        refine s_bd (κ := fun t8 => kC 117 [some (VR (some 345)), none, none, some (VI t8), some (VI v1), some (VI v2), some (VI s4.2), none, none] [] S M) ?_ (fun t8 => ?_)
        · refine s_if_lt (tgt := 117) (dt_Safety_fewestBy 41 _ _ _ rfl) rfl ?_ ?_
          · exact s_mask [true, false, false, true, true, true, true, false, false] (s_ret0 rfl)
          · refine s_iload (dt_Safety_fewestBy 42 _ _ _ rfl) rfl ?_
            refine s_aload_n (dt_Safety_fewestBy 43 _ _ _ rfl) rfl ?_
            refine s_getR (c := 9) (j := 0) (o := (some 346)) (dt_Safety_fewestBy 44 _ _ _ rfl) (kf_Safety_9) (sc_345 hS) rfl rfl ?_
            refine s_alen (N := 151) (dt_Safety_fewestBy 45 _ _ _ rfl) (sc_346 hS) rfl rfl (by decide) ?_
            refine s_if_icmp_ge (tgt := 117) (dt_Safety_fewestBy 46 _ _ _ rfl) rfl ?_ ?_
            · refine s_iload (dt_Safety_fewestBy 47 _ _ _ rfl) rfl ?_
              refine s_if_lt (tgt := 117) (dt_Safety_fewestBy 48 _ _ _ rfl) rfl ?_ ?_
              · exact s_mask [true, false, false, true, true, true, true, false, false] (s_ret0 rfl)
              · refine s_iload (dt_Safety_fewestBy 49 _ _ _ rfl) rfl ?_
                refine s_aload_n (dt_Safety_fewestBy 50 _ _ _ rfl) rfl ?_
                refine s_getR (c := 9) (j := 2) (o := (some 348)) (dt_Safety_fewestBy 51 _ _ _ rfl) (kf_Safety_18) (sc_345 hS) rfl rfl ?_
                refine s_alen (N := 10809) (dt_Safety_fewestBy 52 _ _ _ rfl) (sc_348 hS) rfl rfl (by decide) ?_
                refine s_if_icmp_ge (tgt := 117) (dt_Safety_fewestBy 53 _ _ _ rfl) rfl ?_ ?_
                · refine s_iload_n (dt_Safety_fewestBy 54 _ _ _ rfl) rfl ?_
                  refine s_aload_n (dt_Safety_fewestBy 55 _ _ _ rfl) rfl ?_
                  refine s_getR (c := 9) (j := 0) (o := (some 346)) (dt_Safety_fewestBy 56 _ _ _ rfl) (kf_Safety_9) (sc_345 hS) rfl rfl ?_
                  refine s_iload (dt_Safety_fewestBy 57 _ _ _ rfl) rfl ?_
                  refine s_iald (N := 151) (dt_Safety_fewestBy 58 _ _ _ rfl) (sc_346 hS) rfl ?_
                  refine s_aload_n (dt_Safety_fewestBy 59 _ _ _ rfl) rfl ?_
                  refine s_getR (c := 9) (j := 2) (o := (some 348)) (dt_Safety_fewestBy 60 _ _ _ rfl) (kf_Safety_18) (sc_345 hS) rfl rfl ?_
                  refine s_iload (dt_Safety_fewestBy 61 _ _ _ rfl) rfl ?_
                  refine s_iald (N := 10809) (dt_Safety_fewestBy 62 _ _ _ rfl) (sc_348 hS) rfl ?_
                  refine s_iadd (dt_Safety_fewestBy 63 _ _ _ rfl) ?_
                  refine s_mmin (dt_Safety_fewestBy 64 _ _ _ rfl) kj_Safety_73 rfl ?_
                  refine s_letI (fun v7 => ?_)
                  refine s_istore_n (dt_Safety_fewestBy 65 _ _ _ rfl) rfl ?_
                  exact s_mask [true, false, false, true, true, true, true, false, false] (s_ret0 rfl)
                · exact s_mask [true, false, false, true, true, true, true, false, false] (s_ret0 rfl)
            · exact s_mask [true, false, false, true, true, true, true, false, false] (s_ret0 rfl)
        refine s_iinc (dt_Safety_fewestBy 66 _ _ _ rfl) rfl rfl ?_
        refine s_goto (tgt := 40) (dt_Safety_fewestBy 67 _ _ _ rfl) rfl ?_
        exact s_mask [true, false, false, true, true, true, true, false, false] (s_ret0 rfl)
    · exact s_mask [false, false, false, true, false, false, false, false, false] (s_ret0 rfl)
  intro e9
  refine s_iload_n (dt_Safety_fewestBy 68 _ _ _ rfl) rfl ?_
  exact s_iret (dt_Safety_fewestBy 69 _ _ _ rfl) rfl rfl
theorem c_Safety_fewestBy {S : KS} (hS : KExt 382 S)  (a0 : Int) (a1 : Int) (M : KM) : ∀ q, f_Safety_fewestBy a0 a1 M = some q → Ctr y_Safety_fewestBy Y_Safety_fewestBy [VR (some 345), VI a0, VI a1] S M (some (VI q)) S (M) := fun q hq =>
  ctr_of md_Safety_fewestBy (Nat.le_of_ble_eq_true rfl) ⟨Nat.le_refl _, Nat.le_refl _⟩ 6 hq rfl (fun _ G => sim_Safety_fewestBy hS  a0 a1 M)
set_option maxRecDepth 100000 in
theorem sim_Safety_fillRows {G : Gam} {S : KS} (hS : KExt 382 S)  (a0 : Int) (a1 : Int) (M : KM) : Sim G Y_Safety_fillRows (f_Safety_fillRows a0 a1 M) (kC 0 [some (VR (some 345)), some (VI a0), some (VI a1), none, none, none, none] [] S M) (fun (q : KM) => Sum.inr (none, S, q)) := by
  unfold f_Safety_fillRows
  refine s_aload_n (dt_Safety_fillRows 0 _ _ _ rfl) rfl ?_
  refine s_getR (c := 9) (j := 2) (o := (some 348)) (dt_Safety_fillRows 1 _ _ _ rfl) (kf_Safety_18) (sc_345 hS) rfl rfl ?_
  refine s_iconst (dt_Safety_fillRows 2 _ _ _ rfl) rfl ?_
  refine s_iconst (dt_Safety_fillRows 3 _ _ _ rfl) rfl ?_
  refine s_inv (y := y_X_put) (Y' := Y_X_put) (as := [VR (some 348), VI (0 : Int), VI (0 : Int)]) (r := none) (M' := (putM M 348 10809 (0 : Int) (0 : Int))) (kInvS (dt_Safety_fillRows 4 _ _ _ rfl) kst_X_put rfl) kl_Safety_64 md_X_put rfl rfl (c_X_put hS ⟨(sc_348 hS), by decide⟩ (0 : Int) (0 : Int) M) ?_
  refine s_letM (fun M1 => ?_)
  refine s_iconst (dt_Safety_fillRows 5 _ _ _ rfl) rfl ?_
  refine s_istore_n (dt_Safety_fillRows 6 _ _ _ rfl) rfl ?_
  refine s_bd (κ := (fun (e9 : KM) => kC 89 [none, none, none, none, none, none, none] [] S e9)) (s_mask [true, true, true, true, false, false, false] (s_while (c := fun s2 => kC 11 [some (VR (some 345)), some (VI a0), some (VI a1), some (VI s2.1), none, none, none] [] S s2.2) (fun s2 => ?_) ((1 : Int), M1))) ?_
  · refine s_iload_n (dt_Safety_fillRows 7 _ _ _ rfl) rfl ?_
    refine s_iload_n (dt_Safety_fillRows 8 _ _ _ rfl) rfl ?_
    refine s_if_icmp_gt (tgt := 89) (dt_Safety_fillRows 9 _ _ _ rfl) rfl ?_ ?_
    · refine s_iconst (dt_Safety_fillRows 10 _ _ _ rfl) rfl ?_
      refine s_iload_n (dt_Safety_fillRows 11 _ _ _ rfl) rfl ?_
      refine s_iload_n (dt_Safety_fillRows 12 _ _ _ rfl) rfl ?_
      refine s_iload_n (dt_Safety_fillRows 13 _ _ _ rfl) rfl ?_
      refine s_isub (dt_Safety_fillRows 14 _ _ _ rfl) ?_
      refine s_aload_n (dt_Safety_fillRows 15 _ _ _ rfl) rfl ?_
      refine s_getI (c := 9) (j := 4) (dt_Safety_fillRows 16 _ _ _ rfl) (kf_Safety_31) (sc_345 hS) rfl ?_
      refine s_imul (dt_Safety_fillRows 17 _ _ _ rfl) ?_
      refine s_isub (dt_Safety_fillRows 18 _ _ _ rfl) ?_
      refine s_mmax (dt_Safety_fillRows 19 _ _ _ rfl) kj_Safety_68 rfl ?_
      refine s_letI (fun v3 => ?_)
      refine s_istore (dt_Safety_fillRows 20 _ _ _ rfl) rfl ?_
      refine s_iload_n (dt_Safety_fillRows 21 _ _ _ rfl) rfl ?_
      refine s_iload_n (dt_Safety_fillRows 22 _ _ _ rfl) rfl ?_
      refine s_aload_n (dt_Safety_fillRows 23 _ _ _ rfl) rfl ?_
      refine s_getI (c := 9) (j := 4) (dt_Safety_fillRows 24 _ _ _ rfl) (kf_Safety_31) (sc_345 hS) rfl ?_
      refine s_imul (dt_Safety_fillRows 25 _ _ _ rfl) ?_
      refine s_mmin (dt_Safety_fillRows 26 _ _ _ rfl) kj_Safety_73 rfl ?_
      refine s_letI (fun v4 => ?_)
      refine s_istore (dt_Safety_fillRows 27 _ _ _ rfl) rfl ?_
      refine s_iload (dt_Safety_fillRows 28 _ _ _ rfl) rfl ?_
      refine s_istore (dt_Safety_fillRows 29 _ _ _ rfl) rfl ?_
      refine s_bd (κ := (fun (e8 : KM) => kC 83 [some (VR (some 345)), some (VI a0), some (VI a1), some (VI s2.1), none, none, none] [] S e8)) (s_mask [true, true, true, true, false, true, true] (s_while (c := fun s5 => kC 48 [some (VR (some 345)), some (VI a0), some (VI a1), some (VI s2.1), none, some (VI v4), some (VI s5.1)] [] S s5.2) (fun s5 => ?_) (v3, s2.2))) ?_
      · refine s_iload (dt_Safety_fillRows 30 _ _ _ rfl) rfl ?_
        refine s_iload (dt_Safety_fillRows 31 _ _ _ rfl) rfl ?_
        refine s_if_icmp_gt (tgt := 83) (dt_Safety_fillRows 32 _ _ _ rfl) rfl ?_ ?_
        · refine s_aload_n (dt_Safety_fillRows 33 _ _ _ rfl) rfl ?_
          refine s_getR (c := 9) (j := 2) (o := (some 348)) (dt_Safety_fillRows 34 _ _ _ rfl) (kf_Safety_18) (sc_345 hS) rfl rfl ?_
          refine s_iload_n (dt_Safety_fillRows 35 _ _ _ rfl) rfl ?_
          refine s_sipush (dt_Safety_fillRows 36 _ _ _ rfl) rfl ?_
          refine s_imul (dt_Safety_fillRows 37 _ _ _ rfl) ?_
          refine s_iload (dt_Safety_fillRows 38 _ _ _ rfl) rfl ?_
          refine s_iadd (dt_Safety_fillRows 39 _ _ _ rfl) ?_
          refine s_aload_n (dt_Safety_fillRows 40 _ _ _ rfl) rfl ?_
          refine s_iload_n (dt_Safety_fillRows 41 _ _ _ rfl) rfl ?_
          refine s_iload (dt_Safety_fillRows 42 _ _ _ rfl) rfl ?_
          refine s_callO (y := y_Safety_fewestBy) (Y' := Y_Safety_fewestBy) (as := [VR (some 345), VI s2.1, VI s5.1]) (r := fun q => some (VI q)) (M' := fun q => s5.2) (kInvV (dt_Safety_fillRows 43 _ _ _ rfl) kin_Safety_fewestBy 9 rfl (sc_345 hS) kse_Safety_fewestBy rfl) kl_Safety_76 md_Safety_fewestBy rfl rfl (fun q hq => c_Safety_fewestBy hS s2.1 s5.1 s5.2 q hq) (fun q6 => ?_)
          refine s_inv (y := y_X_put) (Y' := Y_X_put) (as := [VR (some 348), VI (w32 ((w32 (s2.1 * (1201 : Int))) + s5.1)), VI q6]) (r := none) (M' := (putM s5.2 348 10809 (w32 ((w32 (s2.1 * (1201 : Int))) + s5.1)) q6)) (kInvS (dt_Safety_fillRows 44 _ _ _ rfl) kst_X_put rfl) kl_Safety_64 md_X_put rfl rfl (c_X_put hS ⟨(sc_348 hS), by decide⟩ (w32 ((w32 (s2.1 * (1201 : Int))) + s5.1)) q6 s5.2) ?_
          refine s_letM (fun M7 => ?_)
          refine s_iinc (dt_Safety_fillRows 45 _ _ _ rfl) rfl rfl ?_
          refine s_goto (tgt := 48) (dt_Safety_fillRows 46 _ _ _ rfl) rfl ?_
          exact s_mask [true, true, true, true, false, true, true] (s_ret0 rfl)
        · exact s_mask [true, true, true, true, false, false, false] (s_ret0 rfl)
      intro e8
      refine s_iinc (dt_Safety_fillRows 47 _ _ _ rfl) rfl rfl ?_
      refine s_goto (tgt := 11) (dt_Safety_fillRows 48 _ _ _ rfl) rfl ?_
      exact s_mask [true, true, true, true, false, false, false] (s_ret0 rfl)
    · exact s_mask [false, false, false, false, false, false, false] (s_ret0 rfl)
  intro e9
  exact s_vret (dt_Safety_fillRows 49 _ _ _ rfl) rfl rfl
theorem c_Safety_fillRows {S : KS} (hS : KExt 382 S)  (a0 : Int) (a1 : Int) (M : KM) : ∀ q, f_Safety_fillRows a0 a1 M = some q → Ctr y_Safety_fillRows Y_Safety_fillRows [VR (some 345), VI a0, VI a1] S M (none) S (q) := fun q hq =>
  ctr_of md_Safety_fillRows (Nat.le_of_ble_eq_true rfl) ⟨Nat.le_refl _, Nat.le_refl _⟩ 4 hq rfl (fun _ G => sim_Safety_fillRows hS  a0 a1 M)
