set_option maxRecDepth 100000 in
theorem sim_X_image {G : Gam} {S : KS} (hS : KExt 382 S)  (a0 : Int) (M : KM) : Sim G Y_X_image (f_X_image a0 M) (kC 0 [some (VR (some 0)), some (VI a0)] [] S M) (fun (q : Int × KM) => Sum.inr (some (VI q.1), S, q.2)) := by
  unfold f_X_image
  refine s_iload_n (dt_X_image 0 _ _ _ rfl) rfl ?_
  refine s_if_lt (tgt := 13) (dt_X_image 1 _ _ _ rfl) rfl ?_ ?_
  · refine s_iconst (dt_X_image 7 _ _ _ rfl) rfl ?_
    exact s_iret (dt_X_image 8 _ _ _ rfl) rfl rfl
  · refine s_iload_n (dt_X_image 2 _ _ _ rfl) rfl ?_
    refine s_aload_n (dt_X_image 3 _ _ _ rfl) rfl ?_
    refine s_getR (c := 0) (j := 6) (o := (some 330)) (dt_X_image 4 _ _ _ rfl) (kf_X_45) (sc_0 hS) rfl rfl ?_
    refine s_alen (N := 3) (dt_X_image 5 _ _ _ rfl) (sc_330 hS) rfl rfl (by decide) ?_
    refine s_if_icmp_lt (tgt := 15) (dt_X_image 6 _ _ _ rfl) rfl ?_ ?_
    · refine s_aload_n (dt_X_image 9 _ _ _ rfl) rfl ?_
      refine s_getR (c := 0) (j := 4) (o := (some 34)) (dt_X_image 10 _ _ _ rfl) (kf_X_34) (sc_0 hS) rfl rfl ?_
      refine s_aload_n (dt_X_image 11 _ _ _ rfl) rfl ?_
      refine s_getR (c := 0) (j := 6) (o := (some 330)) (dt_X_image 12 _ _ _ rfl) (kf_X_45) (sc_0 hS) rfl rfl ?_
      refine s_iload_n (dt_X_image 13 _ _ _ rfl) rfl ?_
      refine s_aald (N := 3) (o := some (361 + 7 * (a0).toNat)) (dt_X_image 14 _ _ _ rfl) (sc_330 hS) rfl ho_box ?_
      refine s_if (fun h1 => ?_)
      refine s_callO (y := y_State_copy) (Y' := Y_State_copy) (as := [VR (some 34), VR (some (361 + 7 * (a0).toNat))]) (r := fun q => none) (M' := fun q => q) (kInvS (dt_X_image 15 _ _ _ rfl) kst_State_copy rfl) kl_X_416 md_State_copy rfl rfl (fun q hq => c_State_copy hS (kSt_of hS (by decide)) (kSt_of hS h1) M q hq) (fun q2 => ?_)
      refine s_aload_n (dt_X_image 16 _ _ _ rfl) rfl ?_
      refine s_dup (dt_X_image 17 _ _ _ rfl) rfl ?_
      refine s_getI (c := 0) (j := 7) (dt_X_image 18 _ _ _ rfl) (kf_X_49) (sc_0 hS) rfl ?_
      refine s_iconst (dt_X_image 19 _ _ _ rfl) rfl ?_
      refine s_iload_n (dt_X_image 20 _ _ _ rfl) rfl ?_
      refine s_ishl (dt_X_image 21 _ _ _ rfl) ?_
      refine s_ior (dt_X_image 22 _ _ _ rfl) ?_
      refine s_putI (c := 0) (j := 7) (dt_X_image 23 _ _ _ rfl) kp_X_49 (sc_0 hS) ⟨rfl, rfl⟩ ?_
      refine s_letM (fun M3 => ?_)
      refine s_aload_n (dt_X_image 24 _ _ _ rfl) rfl ?_
      refine s_getR (c := 0) (j := 4) (o := (some 34)) (dt_X_image 25 _ _ _ rfl) (kf_X_34) (sc_0 hS) rfl rfl ?_
      refine s_getI (c := 10) (j := 4) (dt_X_image 26 _ _ _ rfl) (kf_X_200) (sc_34 hS) rfl ?_
      exact s_iret (dt_X_image 27 _ _ _ rfl) rfl rfl
    · refine s_iconst (dt_X_image 7 _ _ _ rfl) rfl ?_
      exact s_iret (dt_X_image 8 _ _ _ rfl) rfl rfl
theorem c_X_image {S : KS} (hS : KExt 382 S)  (a0 : Int) (M : KM) : ∀ q, f_X_image a0 M = some q → Ctr y_X_image Y_X_image [VR (some 0), VI a0] S M (some (VI q.1)) S (q.2) := fun q hq =>
  ctr_of md_X_image (Nat.le_of_ble_eq_true rfl) ⟨Nat.le_refl _, Nat.le_refl _⟩ 0 hq rfl (fun _ G => sim_X_image hS  a0 M)
set_option maxRecDepth 100000 in
theorem sim_X_back {G : Gam} {S : KS} (hS : KExt 382 S)  (a0 : Int) (M : KM) : Sim G Y_X_back (f_X_back a0 M) (kC 0 [some (VR (some 0)), some (VI a0)] [] S M) (fun (q : Int × KM) => Sum.inr (some (VI q.1), S, q.2)) := by
  unfold f_X_back
  refine s_iload_n (dt_X_back 0 _ _ _ rfl) rfl ?_
  refine s_if_lt (tgt := 24) (dt_X_back 1 _ _ _ rfl) rfl ?_ ?_
  · refine s_iconst (dt_X_back 12 _ _ _ rfl) rfl ?_
    exact s_iret (dt_X_back 13 _ _ _ rfl) rfl rfl
  · refine s_iload_n (dt_X_back 2 _ _ _ rfl) rfl ?_
    refine s_aload_n (dt_X_back 3 _ _ _ rfl) rfl ?_
    refine s_getR (c := 0) (j := 6) (o := (some 330)) (dt_X_back 4 _ _ _ rfl) (kf_X_45) (sc_0 hS) rfl rfl ?_
    refine s_alen (N := 3) (dt_X_back 5 _ _ _ rfl) (sc_330 hS) rfl rfl (by decide) ?_
    refine s_if_icmp_ge (tgt := 24) (dt_X_back 6 _ _ _ rfl) rfl ?_ ?_
    · refine s_aload_n (dt_X_back 7 _ _ _ rfl) rfl ?_
      refine s_getI (c := 0) (j := 7) (dt_X_back 8 _ _ _ rfl) (kf_X_49) (sc_0 hS) rfl ?_
      refine s_iload_n (dt_X_back 9 _ _ _ rfl) rfl ?_
      refine s_inv (y := y_X_isIn) (Y' := Y_X_isIn) (as := [VI (M 0 7), VI a0]) (r := some (VI (isInV (M 0 7) a0))) (M' := M) (kInvS (dt_X_back 10 _ _ _ rfl) kst_X_isIn rfl) kl_X_186 md_X_isIn rfl rfl (c_X_isIn hS (M 0 7) a0 M) ?_
      refine s_if_ne (tgt := 26) (dt_X_back 11 _ _ _ rfl) rfl ?_ ?_
      · refine s_iconst (dt_X_back 12 _ _ _ rfl) rfl ?_
        exact s_iret (dt_X_back 13 _ _ _ rfl) rfl rfl
      · refine s_aload_n (dt_X_back 14 _ _ _ rfl) rfl ?_
        refine s_getR (c := 0) (j := 6) (o := (some 330)) (dt_X_back 15 _ _ _ rfl) (kf_X_45) (sc_0 hS) rfl rfl ?_
        refine s_iload_n (dt_X_back 16 _ _ _ rfl) rfl ?_
        refine s_aald (N := 3) (o := some (361 + 7 * (a0).toNat)) (dt_X_back 17 _ _ _ rfl) (sc_330 hS) rfl ho_box ?_
        refine s_aload_n (dt_X_back 18 _ _ _ rfl) rfl ?_
        refine s_getR (c := 0) (j := 4) (o := (some 34)) (dt_X_back 19 _ _ _ rfl) (kf_X_34) (sc_0 hS) rfl rfl ?_
        refine s_if (fun h1 => ?_)
        refine s_callO (y := y_State_copy) (Y' := Y_State_copy) (as := [VR (some (361 + 7 * (a0).toNat)), VR (some 34)]) (r := fun q => none) (M' := fun q => q) (kInvS (dt_X_back 20 _ _ _ rfl) kst_State_copy rfl) kl_X_416 md_State_copy rfl rfl (fun q hq => c_State_copy hS (kSt_of hS h1) (kSt_of hS (by decide)) M q hq) (fun q2 => ?_)
        refine s_aload_n (dt_X_back 21 _ _ _ rfl) rfl ?_
        refine s_getR (c := 0) (j := 5) (o := (some 41)) (dt_X_back 22 _ _ _ rfl) (kf_X_41) (sc_0 hS) rfl rfl ?_
        refine s_aload_n (dt_X_back 23 _ _ _ rfl) rfl ?_
        refine s_getR (c := 0) (j := 4) (o := (some 34)) (dt_X_back 24 _ _ _ rfl) (kf_X_34) (sc_0 hS) rfl rfl ?_
        refine s_callO (y := y_History_begin) (Y' := Y_History_begin) (as := [VR (some 41), VR (some 34)]) (r := fun q => none) (M' := fun q => q) (kInvV (dt_X_back 25 _ _ _ rfl) kin_History_begin 6 rfl (sc_41 hS) kse_History_begin rfl) kl_X_118 md_History_begin rfl rfl (fun q hq => c_History_begin hS q2 q hq) (fun q3 => ?_)
        refine s_aload_n (dt_X_back 26 _ _ _ rfl) rfl ?_
        refine s_getR (c := 0) (j := 4) (o := (some 34)) (dt_X_back 27 _ _ _ rfl) (kf_X_34) (sc_0 hS) rfl rfl ?_
        refine s_getI (c := 10) (j := 4) (dt_X_back 28 _ _ _ rfl) (kf_X_200) (sc_34 hS) rfl ?_
        exact s_iret (dt_X_back 29 _ _ _ rfl) rfl rfl
    · refine s_iconst (dt_X_back 12 _ _ _ rfl) rfl ?_
      exact s_iret (dt_X_back 13 _ _ _ rfl) rfl rfl
theorem c_X_back {S : KS} (hS : KExt 382 S)  (a0 : Int) (M : KM) : ∀ q, f_X_back a0 M = some q → Ctr y_X_back Y_X_back [VR (some 0), VI a0] S M (some (VI q.1)) S (q.2) := fun q hq =>
  ctr_of md_X_back (Nat.le_of_ble_eq_true rfl) ⟨Nat.le_refl _, Nat.le_refl _⟩ 0 hq rfl (fun _ G => sim_X_back hS  a0 M)
set_option maxRecDepth 100000 in
theorem sim_X_about {G : Gam} {S : KS} (hS : KExt 382 S)  (a0 : Int) (M : KM) : Sim G Y_X_about (f_X_about a0 M) (kC 0 [some (VR (some 0)), some (VI a0)] [] S M) (fun (q : Int) => Sum.inr (some (VI q), S, M)) := by
  unfold f_X_about
  refine s_iload_n (dt_X_about 0 _ _ _ rfl) rfl ?_
  refine s_tcase (tgt := 88) (dt_X_about 1 _ _ _ rfl) rfl rfl rfl ?_ (fun h2 => ?_)
  · refine s_aload_n (dt_X_about 2 _ _ _ rfl) rfl ?_
    refine s_getR (c := 0) (j := 2) (o := (some 2)) (dt_X_about 3 _ _ _ rfl) (kf_X_20) (sc_0 hS) rfl rfl ?_
    refine s_getI (c := 12) (j := 0) (dt_X_about 4 _ _ _ rfl) (kf_X_124) (sc_2 hS) rfl ?_
    exact s_iret (dt_X_about 5 _ _ _ rfl) rfl rfl
  refine s_tcase (tgt := 96) (dt_X_about 1 _ _ _ rfl) rfl rfl rfl ?_ (fun h3 => ?_)
  · refine s_aload_n (dt_X_about 6 _ _ _ rfl) rfl ?_
    refine s_getR (c := 0) (j := 2) (o := (some 2)) (dt_X_about 7 _ _ _ rfl) (kf_X_20) (sc_0 hS) rfl rfl ?_
    refine s_getI (c := 12) (j := 5) (dt_X_about 8 _ _ _ rfl) (kf_X_354) (sc_2 hS) rfl ?_
    exact s_iret (dt_X_about 9 _ _ _ rfl) rfl rfl
  refine s_tcase (tgt := 104) (dt_X_about 1 _ _ _ rfl) rfl rfl rfl ?_ (fun h4 => ?_)
  · refine s_aload_n (dt_X_about 10 _ _ _ rfl) rfl ?_
    refine s_getR (c := 0) (j := 2) (o := (some 2)) (dt_X_about 11 _ _ _ rfl) (kf_X_20) (sc_0 hS) rfl rfl ?_
    refine s_getI (c := 12) (j := 9) (dt_X_about 12 _ _ _ rfl) (kf_X_174) (sc_2 hS) rfl ?_
    exact s_iret (dt_X_about 13 _ _ _ rfl) rfl rfl
  refine s_tcase (tgt := 112) (dt_X_about 1 _ _ _ rfl) rfl rfl rfl ?_ (fun h5 => ?_)
  · refine s_aload_n (dt_X_about 14 _ _ _ rfl) rfl ?_
    refine s_getR (c := 0) (j := 2) (o := (some 2)) (dt_X_about 15 _ _ _ rfl) (kf_X_20) (sc_0 hS) rfl rfl ?_
    refine s_getI (c := 12) (j := 12) (dt_X_about 16 _ _ _ rfl) (kf_X_177) (sc_2 hS) rfl ?_
    exact s_iret (dt_X_about 17 _ _ _ rfl) rfl rfl
  refine s_tcase (tgt := 120) (dt_X_about 1 _ _ _ rfl) rfl rfl rfl ?_ (fun h6 => ?_)
  · refine s_aload_n (dt_X_about 18 _ _ _ rfl) rfl ?_
    refine s_getR (c := 0) (j := 2) (o := (some 2)) (dt_X_about 19 _ _ _ rfl) (kf_X_20) (sc_0 hS) rfl rfl ?_
    refine s_getI (c := 12) (j := 13) (dt_X_about 20 _ _ _ rfl) (kf_X_180) (sc_2 hS) rfl ?_
    exact s_iret (dt_X_about 21 _ _ _ rfl) rfl rfl
  refine s_tcase (tgt := 128) (dt_X_about 1 _ _ _ rfl) rfl rfl rfl ?_ (fun h7 => ?_)
  · refine s_aload_n (dt_X_about 22 _ _ _ rfl) rfl ?_
    refine s_getR (c := 0) (j := 4) (o := (some 34)) (dt_X_about 23 _ _ _ rfl) (kf_X_34) (sc_0 hS) rfl rfl ?_
    refine s_getI (c := 10) (j := 4) (dt_X_about 24 _ _ _ rfl) (kf_X_200) (sc_34 hS) rfl ?_
    exact s_iret (dt_X_about 25 _ _ _ rfl) rfl rfl
  refine s_tcase (tgt := 136) (dt_X_about 1 _ _ _ rfl) rfl rfl rfl ?_ (fun h8 => ?_)
  · refine s_aload_n (dt_X_about 26 _ _ _ rfl) rfl ?_
    refine s_getR (c := 0) (j := 4) (o := (some 34)) (dt_X_about 27 _ _ _ rfl) (kf_X_34) (sc_0 hS) rfl rfl ?_
    refine s_getI (c := 10) (j := 5) (dt_X_about 28 _ _ _ rfl) (kf_X_263) (sc_34 hS) rfl ?_
    exact s_iret (dt_X_about 29 _ _ _ rfl) rfl rfl
  refine s_tcase (tgt := 144) (dt_X_about 1 _ _ _ rfl) rfl rfl rfl ?_ (fun h9 => ?_)
  · refine s_aload_n (dt_X_about 30 _ _ _ rfl) rfl ?_
    refine s_getR (c := 0) (j := 4) (o := (some 34)) (dt_X_about 31 _ _ _ rfl) (kf_X_34) (sc_0 hS) rfl rfl ?_
    refine s_getI (c := 10) (j := 3) (dt_X_about 32 _ _ _ rfl) (kf_X_183) (sc_34 hS) rfl ?_
    exact s_iret (dt_X_about 33 _ _ _ rfl) rfl rfl
  refine s_tcase (tgt := 152) (dt_X_about 1 _ _ _ rfl) rfl rfl rfl ?_ (fun h10 => ?_)
  · refine s_aload_n (dt_X_about 34 _ _ _ rfl) rfl ?_
    refine s_getR (c := 0) (j := 4) (o := (some 34)) (dt_X_about 35 _ _ _ rfl) (kf_X_34) (sc_0 hS) rfl rfl ?_
    refine s_getI (c := 10) (j := 6) (dt_X_about 36 _ _ _ rfl) (kf_X_238) (sc_34 hS) rfl ?_
    exact s_iret (dt_X_about 37 _ _ _ rfl) rfl rfl
  refine s_tcase (tgt := 160) (dt_X_about 1 _ _ _ rfl) rfl rfl rfl ?_ (fun h11 => ?_)
  · refine s_aload_n (dt_X_about 38 _ _ _ rfl) rfl ?_
    refine s_getR (c := 0) (j := 4) (o := (some 34)) (dt_X_about 39 _ _ _ rfl) (kf_X_34) (sc_0 hS) rfl rfl ?_
    refine s_getI (c := 10) (j := 7) (dt_X_about 40 _ _ _ rfl) (kf_X_420) (sc_34 hS) rfl ?_
    exact s_iret (dt_X_about 41 _ _ _ rfl) rfl rfl
  refine s_tcase (tgt := 168) (dt_X_about 1 _ _ _ rfl) rfl rfl rfl ?_ (fun h12 => ?_)
  · refine s_aload_n (dt_X_about 42 _ _ _ rfl) rfl ?_
    refine s_getR (c := 0) (j := 5) (o := (some 41)) (dt_X_about 43 _ _ _ rfl) (kf_X_41) (sc_0 hS) rfl rfl ?_
    refine s_getI (c := 6) (j := 2) (dt_X_about 44 _ _ _ rfl) (kf_X_423) (sc_41 hS) rfl ?_
    exact s_iret (dt_X_about 45 _ _ _ rfl) rfl rfl
  refine s_tcase (tgt := 176) (dt_X_about 1 _ _ _ rfl) rfl rfl rfl ?_ (fun h13 => ?_)
  · refine s_aload_n (dt_X_about 46 _ _ _ rfl) rfl ?_
    refine s_getR (c := 0) (j := 5) (o := (some 41)) (dt_X_about 47 _ _ _ rfl) (kf_X_41) (sc_0 hS) rfl rfl ?_
    refine s_getI (c := 6) (j := 3) (dt_X_about 48 _ _ _ rfl) (kf_X_426) (sc_41 hS) rfl ?_
    exact s_iret (dt_X_about 49 _ _ _ rfl) rfl rfl
  refine s_tcase (tgt := 184) (dt_X_about 1 _ _ _ rfl) rfl rfl rfl ?_ (fun h14 => ?_)
  · refine s_aload_n (dt_X_about 50 _ _ _ rfl) rfl ?_
    refine s_getI (c := 0) (j := 9) (dt_X_about 51 _ _ _ rfl) (kf_X_56) (sc_0 hS) rfl ?_
    refine s_callO (y := y_JI_bitCount) (Y' := Y_JI_bitCount) (as := [VI (M 0 9)]) (r := fun q => some (VI q)) (M' := fun q => M) (kInvS (dt_X_about 52 _ _ _ rfl) kst_JI_bitCount rfl) kl_X_292 md_JI_bitCount rfl rfl (fun q hq => c_JI_bitCount hS (M 0 9) M q hq) (fun q1 => ?_)
    exact s_iret (dt_X_about 53 _ _ _ rfl) rfl rfl
  refine s_tcase (tgt := 192) (dt_X_about 1 _ _ _ rfl) rfl rfl rfl ?_ (fun h15 => ?_)
  · refine s_aload_n (dt_X_about 54 _ _ _ rfl) rfl ?_
    refine s_getR (c := 0) (j := 13) (o := (some 349)) (dt_X_about 55 _ _ _ rfl) (kf_X_83) (sc_0 hS) rfl rfl ?_
    refine s_getI (c := 3) (j := 0) (dt_X_about 56 _ _ _ rfl) (kf_X_378) (sc_349 hS) rfl ?_
    exact s_iret (dt_X_about 57 _ _ _ rfl) rfl rfl
  refine s_tcase (tgt := 200) (dt_X_about 1 _ _ _ rfl) rfl rfl rfl ?_ (fun h16 => ?_)
  · refine s_aload_n (dt_X_about 58 _ _ _ rfl) rfl ?_
    refine s_getR (c := 0) (j := 13) (o := (some 349)) (dt_X_about 59 _ _ _ rfl) (kf_X_83) (sc_0 hS) rfl rfl ?_
    refine s_getI (c := 3) (j := 1) (dt_X_about 60 _ _ _ rfl) (kf_X_386) (sc_349 hS) rfl ?_
    exact s_iret (dt_X_about 61 _ _ _ rfl) rfl rfl
  refine s_tcase (tgt := 208) (dt_X_about 1 _ _ _ rfl) rfl rfl rfl ?_ (fun h17 => ?_)
  · refine s_aload_n (dt_X_about 62 _ _ _ rfl) rfl ?_
    refine s_getI (c := 0) (j := 1) (dt_X_about 63 _ _ _ rfl) (kf_X_13) (sc_0 hS) rfl ?_
    exact s_iret (dt_X_about 64 _ _ _ rfl) rfl rfl
  refine s_tcase (tgt := 213) (dt_X_about 1 _ _ _ rfl) rfl rfl rfl ?_ (fun h18 => ?_)
  · refine s_aload_n (dt_X_about 65 _ _ _ rfl) rfl ?_
    refine s_getR (c := 0) (j := 2) (o := (some 2)) (dt_X_about 66 _ _ _ rfl) (kf_X_20) (sc_0 hS) rfl rfl ?_
    refine s_getI (c := 12) (j := 15) (dt_X_about 67 _ _ _ rfl) (kf_X_429) (sc_2 hS) rfl ?_
    exact s_iret (dt_X_about 68 _ _ _ rfl) rfl rfl
  refine s_tcase (tgt := 221) (dt_X_about 1 _ _ _ rfl) rfl rfl rfl ?_ (fun h19 => ?_)
  · refine s_aload_n (dt_X_about 69 _ _ _ rfl) rfl ?_
    refine s_getI (c := 0) (j := 16) (dt_X_about 70 _ _ _ rfl) (kf_X_97) (sc_0 hS) rfl ?_
    exact s_iret (dt_X_about 71 _ _ _ rfl) rfl rfl
  refine s_tdef (tgt := 226) (dt_X_about 1 _ _ _ rfl) (by omega) rfl ?_
  refine s_iconst (dt_X_about 72 _ _ _ rfl) rfl ?_
  exact s_iret (dt_X_about 73 _ _ _ rfl) rfl rfl
theorem c_X_about {S : KS} (hS : KExt 382 S)  (a0 : Int) (M : KM) : ∀ q, f_X_about a0 M = some q → Ctr y_X_about Y_X_about [VR (some 0), VI a0] S M (some (VI q)) S (M) := fun q hq =>
  ctr_of md_X_about (Nat.le_of_ble_eq_true rfl) ⟨Nat.le_refl _, Nat.le_refl _⟩ 0 hq rfl (fun _ G => sim_X_about hS  a0 M)
set_option maxRecDepth 100000 in
theorem sim_M_clearBank {G : Gam} {S : KS} (hS : KExt 435 S)   (M : KM) : Sim G Y_M_clearBank (f_M_clearBank  M) (kC 0 [some (VR (some 382))] [] S M) (fun (q : KM) => Sum.inr (none, S, q)) := by
  unfold f_M_clearBank
  refine s_aload_n (dt_M_clearBank 0 _ _ _ rfl) rfl ?_
  refine s_getR (c := 1) (j := 11) (o := (some 385)) (dt_M_clearBank 1 _ _ _ rfl) (kf_M_20) (sc_382 hS) rfl rfl ?_
  refine s_aload_n (dt_M_clearBank 2 _ _ _ rfl) rfl ?_
  refine s_getI (c := 1) (j := 38) (dt_M_clearBank 3 _ _ _ rfl) (kf_M_279) (sc_382 hS) rfl ?_
  refine s_iconst (dt_M_clearBank 4 _ _ _ rfl) rfl ?_
  refine s_iast (N := 2) (dt_M_clearBank 5 _ _ _ rfl) (sc_385 hS) rfl ?_
  refine s_letM (fun M1 => ?_)
  refine s_aload_n (dt_M_clearBank 6 _ _ _ rfl) rfl ?_
  refine s_getR (c := 1) (j := 12) (o := (some 386)) (dt_M_clearBank 7 _ _ _ rfl) (kf_M_24) (sc_382 hS) rfl rfl ?_
  refine s_aload_n (dt_M_clearBank 8 _ _ _ rfl) rfl ?_
  refine s_getI (c := 1) (j := 38) (dt_M_clearBank 9 _ _ _ rfl) (kf_M_279) (sc_382 hS) rfl ?_
  refine s_iconst (dt_M_clearBank 10 _ _ _ rfl) rfl ?_
  refine s_iast (N := 2) (dt_M_clearBank 11 _ _ _ rfl) (sc_386 hS) rfl ?_
  refine s_letM (fun M2 => ?_)
  refine s_aload_n (dt_M_clearBank 12 _ _ _ rfl) rfl ?_
  refine s_getR (c := 1) (j := 13) (o := (some 387)) (dt_M_clearBank 13 _ _ _ rfl) (kf_M_27) (sc_382 hS) rfl rfl ?_
  refine s_aload_n (dt_M_clearBank 14 _ _ _ rfl) rfl ?_
  refine s_getI (c := 1) (j := 38) (dt_M_clearBank 15 _ _ _ rfl) (kf_M_279) (sc_382 hS) rfl ?_
  refine s_iconst (dt_M_clearBank 16 _ _ _ rfl) rfl ?_
  refine s_iast (N := 2) (dt_M_clearBank 17 _ _ _ rfl) (sc_387 hS) rfl ?_
  refine s_letM (fun M3 => ?_)
  refine s_aload_n (dt_M_clearBank 18 _ _ _ rfl) rfl ?_
  refine s_getR (c := 1) (j := 14) (o := (some 388)) (dt_M_clearBank 19 _ _ _ rfl) (kf_M_30) (sc_382 hS) rfl rfl ?_
  refine s_aload_n (dt_M_clearBank 20 _ _ _ rfl) rfl ?_
  refine s_getI (c := 1) (j := 38) (dt_M_clearBank 21 _ _ _ rfl) (kf_M_279) (sc_382 hS) rfl ?_
  refine s_iconst (dt_M_clearBank 22 _ _ _ rfl) rfl ?_
  refine s_iast (N := 2) (dt_M_clearBank 23 _ _ _ rfl) (sc_388 hS) rfl ?_
  refine s_letM (fun M4 => ?_)
  refine s_aload_n (dt_M_clearBank 24 _ _ _ rfl) rfl ?_
  refine s_getR (c := 1) (j := 15) (o := (some 389)) (dt_M_clearBank 25 _ _ _ rfl) (kf_M_33) (sc_382 hS) rfl rfl ?_
  refine s_aload_n (dt_M_clearBank 26 _ _ _ rfl) rfl ?_
  refine s_getI (c := 1) (j := 38) (dt_M_clearBank 27 _ _ _ rfl) (kf_M_279) (sc_382 hS) rfl ?_
  refine s_iconst (dt_M_clearBank 28 _ _ _ rfl) rfl ?_
  refine s_iast (N := 2) (dt_M_clearBank 29 _ _ _ rfl) (sc_389 hS) rfl ?_
  refine s_letM (fun M5 => ?_)
  refine s_aload_n (dt_M_clearBank 30 _ _ _ rfl) rfl ?_
  refine s_getR (c := 1) (j := 16) (o := (some 390)) (dt_M_clearBank 31 _ _ _ rfl) (kf_M_36) (sc_382 hS) rfl rfl ?_
  refine s_aload_n (dt_M_clearBank 32 _ _ _ rfl) rfl ?_
  refine s_getI (c := 1) (j := 38) (dt_M_clearBank 33 _ _ _ rfl) (kf_M_279) (sc_382 hS) rfl ?_
  refine s_iconst (dt_M_clearBank 34 _ _ _ rfl) rfl ?_
  refine s_iast (N := 2) (dt_M_clearBank 35 _ _ _ rfl) (sc_390 hS) rfl ?_
  refine s_letM (fun M6 => ?_)
  refine s_aload_n (dt_M_clearBank 36 _ _ _ rfl) rfl ?_
  refine s_getR (c := 1) (j := 17) (o := (some 391)) (dt_M_clearBank 37 _ _ _ rfl) (kf_M_39) (sc_382 hS) rfl rfl ?_
  refine s_aload_n (dt_M_clearBank 38 _ _ _ rfl) rfl ?_
  refine s_getI (c := 1) (j := 38) (dt_M_clearBank 39 _ _ _ rfl) (kf_M_279) (sc_382 hS) rfl ?_
  refine s_bipush (dt_M_clearBank 40 _ _ _ rfl) rfl ?_
  refine s_iast (N := 2) (dt_M_clearBank 41 _ _ _ rfl) (sc_391 hS) rfl ?_
  refine s_letM (fun M7 => ?_)
  refine s_aload_n (dt_M_clearBank 42 _ _ _ rfl) rfl ?_
  refine s_getR (c := 1) (j := 18) (o := (some 392)) (dt_M_clearBank 43 _ _ _ rfl) (kf_M_42) (sc_382 hS) rfl rfl ?_
  refine s_aload_n (dt_M_clearBank 44 _ _ _ rfl) rfl ?_
  refine s_getI (c := 1) (j := 38) (dt_M_clearBank 45 _ _ _ rfl) (kf_M_279) (sc_382 hS) rfl ?_
  refine s_iconst (dt_M_clearBank 46 _ _ _ rfl) rfl ?_
  refine s_iast (N := 2) (dt_M_clearBank 47 _ _ _ rfl) (sc_392 hS) rfl ?_
  refine s_letM (fun M8 => ?_)
  refine s_aload_n (dt_M_clearBank 48 _ _ _ rfl) rfl ?_
  refine s_getR (c := 1) (j := 28) (o := (some 402)) (dt_M_clearBank 49 _ _ _ rfl) (kf_M_72) (sc_382 hS) rfl rfl ?_
  refine s_aload_n (dt_M_clearBank 50 _ _ _ rfl) rfl ?_
  refine s_getI (c := 1) (j := 38) (dt_M_clearBank 51 _ _ _ rfl) (kf_M_279) (sc_382 hS) rfl ?_
  refine s_iconst (dt_M_clearBank 52 _ _ _ rfl) rfl ?_
  refine s_zast (N := 2) (dt_M_clearBank 53 _ _ _ rfl) (sc_402 hS) rfl ?_
  refine s_letM (fun M9 => ?_)
  refine s_aload_n (dt_M_clearBank 54 _ _ _ rfl) rfl ?_
  refine s_getR (c := 1) (j := 29) (o := (some 403)) (dt_M_clearBank 55 _ _ _ rfl) (kf_M_76) (sc_382 hS) rfl rfl ?_
  refine s_bipush (dt_M_clearBank 56 _ _ _ rfl) rfl ?_
  refine s_aload_n (dt_M_clearBank 57 _ _ _ rfl) rfl ?_
  refine s_getI (c := 1) (j := 38) (dt_M_clearBank 58 _ _ _ rfl) (kf_M_279) (sc_382 hS) rfl ?_
  refine s_imul (dt_M_clearBank 59 _ _ _ rfl) ?_
  refine s_bipush (dt_M_clearBank 60 _ _ _ rfl) rfl ?_
  refine s_iadd (dt_M_clearBank 61 _ _ _ rfl) ?_
  refine s_iconst (dt_M_clearBank 62 _ _ _ rfl) rfl ?_
  refine s_zast (N := 14) (dt_M_clearBank 63 _ _ _ rfl) (sc_403 hS) rfl ?_
  refine s_letM (fun M10 => ?_)
  refine s_aload_n (dt_M_clearBank 64 _ _ _ rfl) rfl ?_
  refine s_sipush (dt_M_clearBank 65 _ _ _ rfl) rfl ?_
  refine s_aload_n (dt_M_clearBank 66 _ _ _ rfl) rfl ?_
  refine s_getI (c := 1) (j := 38) (dt_M_clearBank 67 _ _ _ rfl) (kf_M_279) (sc_382 hS) rfl ?_
  refine s_imul (dt_M_clearBank 68 _ _ _ rfl) ?_
  refine s_putI (c := 1) (j := 39) (dt_M_clearBank 69 _ _ _ rfl) kp_M_282 (sc_382 hS) ⟨rfl, rfl⟩ ?_
  refine s_letM (fun M11 => ?_)
  exact s_vret (dt_M_clearBank 70 _ _ _ rfl) rfl rfl
theorem c_M_clearBank {S : KS} (hS : KExt 435 S)   (M : KM) : ∀ q, f_M_clearBank  M = some q → Ctr y_M_clearBank Y_M_clearBank [VR (some 382)] S M (none) S (q) := fun q hq =>
  ctr_of md_M_clearBank (Nat.le_of_ble_eq_true rfl) ⟨Nat.le_refl _, Nat.le_refl _⟩ 0 hq rfl (fun _ G => sim_M_clearBank hS   M)
set_option maxRecDepth 100000 in
theorem sim_M_isDigit {G : Gam} {S : KS} (hS : KExt 435 S)  (a0 : Int) (M : KM) : Sim G Y_M_isDigit (f_M_isDigit a0 M) (kC 0 [some (VI a0)] [] S M) (fun (q : Int) => Sum.inr (some (VI q), S, M)) := by
  unfold f_M_isDigit
  refine s_iload_n (dt_M_isDigit 0 _ _ _ rfl) rfl ?_
  refine s_bipush (dt_M_isDigit 1 _ _ _ rfl) rfl ?_
  refine s_bd (κ := fun t1 => kC 17 [none] [VI t1] S M) ?_ (fun t1 => ?_)
  · refine s_if_icmp_lt (tgt := 16) (dt_M_isDigit 2 _ _ _ rfl) rfl ?_ ?_
    · refine s_iconst (dt_M_isDigit 8 _ _ _ rfl) rfl ?_
      exact s_mask [false] (s_ret0 rfl)
    · refine s_iload_n (dt_M_isDigit 3 _ _ _ rfl) rfl ?_
      refine s_bipush (dt_M_isDigit 4 _ _ _ rfl) rfl ?_
      refine s_if_icmp_gt (tgt := 16) (dt_M_isDigit 5 _ _ _ rfl) rfl ?_ ?_
      · refine s_iconst (dt_M_isDigit 6 _ _ _ rfl) rfl ?_
        refine s_goto (tgt := 17) (dt_M_isDigit 7 _ _ _ rfl) rfl ?_
        exact s_mask [false] (s_ret0 rfl)
      · refine s_iconst (dt_M_isDigit 8 _ _ _ rfl) rfl ?_
        exact s_mask [false] (s_ret0 rfl)
  exact s_zret (dt_M_isDigit 9 _ _ _ rfl) rfl rfl
theorem c_M_isDigit {S : KS} (hS : KExt 435 S)  (a0 : Int) (M : KM) : ∀ q, f_M_isDigit a0 M = some q → Ctr y_M_isDigit Y_M_isDigit [VI a0] S M (some (VI q)) S (M) := fun q hq =>
  ctr_of md_M_isDigit (Nat.le_of_ble_eq_true rfl) ⟨Nat.le_refl _, Nat.le_refl _⟩ 0 hq rfl (fun _ G => sim_M_isDigit hS  a0 M)
set_option maxRecDepth 100000 in
theorem sim_M_isKept {G : Gam} {S : KS} (hS : KExt 435 S)  (a0 : Int) (M : KM) : Sim G Y_M_isKept (f_M_isKept a0 M) (kC 0 [some (VJ a0), none, none] [] S M) (fun (q : Int) => Sum.inr (some (VI q), S, M)) := by
  unfold f_M_isKept
  refine s_lload_n (dt_M_isKept 0 _ _ _ rfl) rfl ?_
  refine s_ldc2 (n := (123581014175598 : Int)) (kc_M_188) (dt_M_isKept 1 _ _ _ rfl) rfl ?_
  refine s_lcmp (dt_M_isKept 2 _ _ _ rfl) ?_
  refine s_bd (κ := fun t1 => kC 69 [some (VJ a0), none, none] [VI t1] S M) ?_ (fun t1 => ?_)
  · refine s_if_eq (tgt := 64) (dt_M_isKept 3 _ _ _ rfl) rfl ?_ ?_
    · refine s_iconst (dt_M_isKept 32 _ _ _ rfl) rfl ?_
      refine s_goto (tgt := 69) (dt_M_isKept 33 _ _ _ rfl) rfl ?_
      exact s_mask [true, false, false] (s_ret0 rfl)
    · refine s_lload_n (dt_M_isKept 4 _ _ _ rfl) rfl ?_
      refine s_ldc2 (n := (6383461 : Int)) (kc_M_190) (dt_M_isKept 5 _ _ _ rfl) rfl ?_
      refine s_lcmp (dt_M_isKept 6 _ _ _ rfl) ?_
      refine s_if_eq (tgt := 64) (dt_M_isKept 7 _ _ _ rfl) rfl ?_ ?_
      · refine s_iconst (dt_M_isKept 32 _ _ _ rfl) rfl ?_
        refine s_goto (tgt := 69) (dt_M_isKept 33 _ _ _ rfl) rfl ?_
        exact s_mask [true, false, false] (s_ret0 rfl)
      · refine s_lload_n (dt_M_isKept 8 _ _ _ rfl) rfl ?_
        refine s_ldc2 (n := (1668245870 : Int)) (kc_M_192) (dt_M_isKept 9 _ _ _ rfl) rfl ?_
        refine s_lcmp (dt_M_isKept 10 _ _ _ rfl) ?_
        refine s_if_eq (tgt := 64) (dt_M_isKept 11 _ _ _ rfl) rfl ?_ ?_
        · refine s_iconst (dt_M_isKept 32 _ _ _ rfl) rfl ?_
          refine s_goto (tgt := 69) (dt_M_isKept 33 _ _ _ rfl) rfl ?_
          exact s_mask [true, false, false] (s_ret0 rfl)
        · refine s_lload_n (dt_M_isKept 12 _ _ _ rfl) rfl ?_
          refine s_ldc2 (n := (1852138852 : Int)) (kc_M_194) (dt_M_isKept 13 _ _ _ rfl) rfl ?_
          refine s_lcmp (dt_M_isKept 14 _ _ _ rfl) ?_
          refine s_if_eq (tgt := 64) (dt_M_isKept 15 _ _ _ rfl) rfl ?_ ?_
          · refine s_iconst (dt_M_isKept 32 _ _ _ rfl) rfl ?_
            refine s_goto (tgt := 69) (dt_M_isKept 33 _ _ _ rfl) rfl ?_
            exact s_mask [true, false, false] (s_ret0 rfl)
          · refine s_lload_n (dt_M_isKept 16 _ _ _ rfl) rfl ?_
            refine s_ldc2 (n := (112568633486457 : Int)) (kc_M_196) (dt_M_isKept 17 _ _ _ rfl) rfl ?_
            refine s_lcmp (dt_M_isKept 18 _ _ _ rfl) ?_
            refine s_if_eq (tgt := 64) (dt_M_isKept 19 _ _ _ rfl) rfl ?_ ?_
            · refine s_iconst (dt_M_isKept 32 _ _ _ rfl) rfl ?_
              refine s_goto (tgt := 69) (dt_M_isKept 33 _ _ _ rfl) rfl ?_
              exact s_mask [true, false, false] (s_ret0 rfl)
            · refine s_lload_n (dt_M_isKept 20 _ _ _ rfl) rfl ?_
              refine s_ldc2 (n := (112641580559972 : Int)) (kc_M_198) (dt_M_isKept 21 _ _ _ rfl) rfl ?_
              refine s_lcmp (dt_M_isKept 22 _ _ _ rfl) ?_
              refine s_if_eq (tgt := 64) (dt_M_isKept 23 _ _ _ rfl) rfl ?_ ?_
              · refine s_iconst (dt_M_isKept 32 _ _ _ rfl) rfl ?_
                refine s_goto (tgt := 69) (dt_M_isKept 33 _ _ _ rfl) rfl ?_
                exact s_mask [true, false, false] (s_ret0 rfl)
              · refine s_lload_n (dt_M_isKept 24 _ _ _ rfl) rfl ?_
                refine s_ldc2 (n := (29807 : Int)) (kc_M_200) (dt_M_isKept 25 _ _ _ rfl) rfl ?_
                refine s_lcmp (dt_M_isKept 26 _ _ _ rfl) ?_
                refine s_if_eq (tgt := 64) (dt_M_isKept 27 _ _ _ rfl) rfl ?_ ?_
                · refine s_iconst (dt_M_isKept 32 _ _ _ rfl) rfl ?_
                  refine s_goto (tgt := 69) (dt_M_isKept 33 _ _ _ rfl) rfl ?_
                  exact s_mask [true, false, false] (s_ret0 rfl)
                · refine s_lload_n (dt_M_isKept 28 _ _ _ rfl) rfl ?_
                  refine s_ldc2 (n := (482955846501 : Int)) (kc_M_202) (dt_M_isKept 29 _ _ _ rfl) rfl ?_
                  refine s_lcmp (dt_M_isKept 30 _ _ _ rfl) ?_
                  refine s_if_ne (tgt := 68) (dt_M_isKept 31 _ _ _ rfl) rfl ?_ ?_
                  · refine s_iconst (dt_M_isKept 32 _ _ _ rfl) rfl ?_
                    refine s_goto (tgt := 69) (dt_M_isKept 33 _ _ _ rfl) rfl ?_
                    exact s_mask [true, false, false] (s_ret0 rfl)
                  · refine s_iconst (dt_M_isKept 34 _ _ _ rfl) rfl ?_
                    exact s_mask [true, false, false] (s_ret0 rfl)
  refine s_istore_n (dt_M_isKept 35 _ _ _ rfl) rfl ?_
  refine s_iload_n (dt_M_isKept 36 _ _ _ rfl) rfl ?_
  refine s_bd (κ := fun t2 => kC 143 [none, none, none] [VI t2] S M) ?_ (fun t2 => ?_)
  · refine s_if_ne (tgt := 138) (dt_M_isKept 37 _ _ _ rfl) rfl ?_ ?_
    · refine s_lload_n (dt_M_isKept 38 _ _ _ rfl) rfl ?_
      refine s_ldc2 (n := (491394656372 : Int)) (kc_M_204) (dt_M_isKept 39 _ _ _ rfl) rfl ?_
      refine s_lcmp (dt_M_isKept 40 _ _ _ rfl) ?_
      refine s_if_eq (tgt := 138) (dt_M_isKept 41 _ _ _ rfl) rfl ?_ ?_
      · refine s_iconst (dt_M_isKept 70 _ _ _ rfl) rfl ?_
        refine s_goto (tgt := 143) (dt_M_isKept 71 _ _ _ rfl) rfl ?_
        exact s_mask [false, false, false] (s_ret0 rfl)
      · refine s_lload_n (dt_M_isKept 42 _ _ _ rfl) rfl ?_
        refine s_ldc2 (n := (1868850291 : Int)) (kc_M_206) (dt_M_isKept 43 _ _ _ rfl) rfl ?_
        refine s_lcmp (dt_M_isKept 44 _ _ _ rfl) ?_
        refine s_if_eq (tgt := 138) (dt_M_isKept 45 _ _ _ rfl) rfl ?_ ?_
        · refine s_iconst (dt_M_isKept 70 _ _ _ rfl) rfl ?_
          refine s_goto (tgt := 143) (dt_M_isKept 71 _ _ _ rfl) rfl ?_
          exact s_mask [false, false, false] (s_ret0 rfl)
        · refine s_lload_n (dt_M_isKept 46 _ _ _ rfl) rfl ?_
          refine s_ldc2 (n := (1634166131 : Int)) (kc_M_208) (dt_M_isKept 47 _ _ _ rfl) rfl ?_
          refine s_lcmp (dt_M_isKept 48 _ _ _ rfl) ?_
          refine s_if_eq (tgt := 138) (dt_M_isKept 49 _ _ _ rfl) rfl ?_ ?_
          · refine s_iconst (dt_M_isKept 70 _ _ _ rfl) rfl ?_
            refine s_goto (tgt := 143) (dt_M_isKept 71 _ _ _ rfl) rfl ?_
            exact s_mask [false, false, false] (s_ret0 rfl)
          · refine s_lload_n (dt_M_isKept 50 _ _ _ rfl) rfl ?_
            refine s_ldc2 (n := (1685217655 : Int)) (kc_M_210) (dt_M_isKept 51 _ _ _ rfl) rfl ?_
            refine s_lcmp (dt_M_isKept 52 _ _ _ rfl) ?_
            refine s_if_eq (tgt := 138) (dt_M_isKept 53 _ _ _ rfl) rfl ?_ ?_
            · refine s_iconst (dt_M_isKept 70 _ _ _ rfl) rfl ?_
              refine s_goto (tgt := 143) (dt_M_isKept 71 _ _ _ rfl) rfl ?_
              exact s_mask [false, false, false] (s_ret0 rfl)
            · refine s_lload_n (dt_M_isKept 54 _ _ _ rfl) rfl ?_
              refine s_ldc2 (n := (2036687218 : Int)) (kc_M_212) (dt_M_isKept 55 _ _ _ rfl) rfl ?_
              refine s_lcmp (dt_M_isKept 56 _ _ _ rfl) ?_
              refine s_if_eq (tgt := 138) (dt_M_isKept 57 _ _ _ rfl) rfl ?_ ?_
              · refine s_iconst (dt_M_isKept 70 _ _ _ rfl) rfl ?_
                refine s_goto (tgt := 143) (dt_M_isKept 71 _ _ _ rfl) rfl ?_
                exact s_mask [false, false, false] (s_ret0 rfl)
              · refine s_lload_n (dt_M_isKept 58 _ _ _ rfl) rfl ?_
                refine s_ldc2 (n := (28530 : Int)) (kc_M_214) (dt_M_isKept 59 _ _ _ rfl) rfl ?_
                refine s_lcmp (dt_M_isKept 60 _ _ _ rfl) ?_
                refine s_if_eq (tgt := 138) (dt_M_isKept 61 _ _ _ rfl) rfl ?_ ?_
                · refine s_iconst (dt_M_isKept 70 _ _ _ rfl) rfl ?_
                  refine s_goto (tgt := 143) (dt_M_isKept 71 _ _ _ rfl) rfl ?_
                  exact s_mask [false, false, false] (s_ret0 rfl)
                · refine s_lload_n (dt_M_isKept 62 _ _ _ rfl) rfl ?_
                  refine s_ldc2 (n := (6385252 : Int)) (kc_M_216) (dt_M_isKept 63 _ _ _ rfl) rfl ?_
                  refine s_lcmp (dt_M_isKept 64 _ _ _ rfl) ?_
                  refine s_if_eq (tgt := 138) (dt_M_isKept 65 _ _ _ rfl) rfl ?_ ?_
                  · refine s_iconst (dt_M_isKept 70 _ _ _ rfl) rfl ?_
                    refine s_goto (tgt := 143) (dt_M_isKept 71 _ _ _ rfl) rfl ?_
                    exact s_mask [false, false, false] (s_ret0 rfl)
                  · refine s_lload_n (dt_M_isKept 66 _ _ _ rfl) rfl ?_
                    refine s_ldc2 (n := (7237492 : Int)) (kc_M_218) (dt_M_isKept 67 _ _ _ rfl) rfl ?_
                    refine s_lcmp (dt_M_isKept 68 _ _ _ rfl) ?_
                    refine s_if_ne (tgt := 142) (dt_M_isKept 69 _ _ _ rfl) rfl ?_ ?_
                    · refine s_iconst (dt_M_isKept 70 _ _ _ rfl) rfl ?_
                      refine s_goto (tgt := 143) (dt_M_isKept 71 _ _ _ rfl) rfl ?_
                      exact s_mask [false, false, false] (s_ret0 rfl)
                    · refine s_iconst (dt_M_isKept 72 _ _ _ rfl) rfl ?_
                      exact s_mask [false, false, false] (s_ret0 rfl)
    · refine s_iconst (dt_M_isKept 70 _ _ _ rfl) rfl ?_
      refine s_goto (tgt := 143) (dt_M_isKept 71 _ _ _ rfl) rfl ?_
      exact s_mask [false, false, false] (s_ret0 rfl)
  exact s_zret (dt_M_isKept 73 _ _ _ rfl) rfl rfl
theorem c_M_isKept {S : KS} (hS : KExt 435 S)  (a0 : Int) (M : KM) : ∀ q, f_M_isKept a0 M = some q → Ctr y_M_isKept Y_M_isKept [VJ a0] S M (some (VI q)) S (M) := fun q hq =>
  ctr_of md_M_isKept (Nat.le_of_ble_eq_true rfl) ⟨Nat.le_refl _, Nat.le_refl _⟩ 1 hq rfl (fun _ G => sim_M_isKept hS  a0 M)
set_option maxRecDepth 100000 in
theorem sim_M_isLetter {G : Gam} {S : KS} (hS : KExt 435 S)  (a0 : Int) (M : KM) : Sim G Y_M_isLetter (f_M_isLetter a0 M) (kC 0 [some (VI a0)] [] S M) (fun (q : Int) => Sum.inr (some (VI q), S, M)) := by
  unfold f_M_isLetter
  refine s_iload_n (dt_M_isLetter 0 _ _ _ rfl) rfl ?_
  refine s_bipush (dt_M_isLetter 1 _ _ _ rfl) rfl ?_
  refine s_bd (κ := fun t1 => kC 17 [none] [VI t1] S M) ?_ (fun t1 => ?_)
  · refine s_if_icmp_lt (tgt := 16) (dt_M_isLetter 2 _ _ _ rfl) rfl ?_ ?_
    · refine s_iconst (dt_M_isLetter 8 _ _ _ rfl) rfl ?_
      exact s_mask [false] (s_ret0 rfl)
    · refine s_iload_n (dt_M_isLetter 3 _ _ _ rfl) rfl ?_
      refine s_bipush (dt_M_isLetter 4 _ _ _ rfl) rfl ?_
      refine s_if_icmp_gt (tgt := 16) (dt_M_isLetter 5 _ _ _ rfl) rfl ?_ ?_
      · refine s_iconst (dt_M_isLetter 6 _ _ _ rfl) rfl ?_
        refine s_goto (tgt := 17) (dt_M_isLetter 7 _ _ _ rfl) rfl ?_
        exact s_mask [false] (s_ret0 rfl)
      · refine s_iconst (dt_M_isLetter 8 _ _ _ rfl) rfl ?_
        exact s_mask [false] (s_ret0 rfl)
  exact s_zret (dt_M_isLetter 9 _ _ _ rfl) rfl rfl
theorem c_M_isLetter {S : KS} (hS : KExt 435 S)  (a0 : Int) (M : KM) : ∀ q, f_M_isLetter a0 M = some q → Ctr y_M_isLetter Y_M_isLetter [VI a0] S M (some (VI q)) S (M) := fun q hq =>
  ctr_of md_M_isLetter (Nat.le_of_ble_eq_true rfl) ⟨Nat.le_refl _, Nat.le_refl _⟩ 0 hq rfl (fun _ G => sim_M_isLetter hS  a0 M)
set_option maxRecDepth 100000 in
theorem sim_M_isSign {G : Gam} {S : KS} (hS : KExt 435 S)  (a0 : Int) (M : KM) : Sim G Y_M_isSign (f_M_isSign a0 M) (kC 0 [some (VI a0)] [] S M) (fun (q : Int) => Sum.inr (some (VI q), S, M)) := by
  unfold f_M_isSign
  refine s_iload_n (dt_M_isSign 0 _ _ _ rfl) rfl ?_
  refine s_bipush (dt_M_isSign 1 _ _ _ rfl) rfl ?_
  refine s_bd (κ := fun t1 => kC 71 [none] [VI t1] S M) ?_ (fun t1 => ?_)
  · refine s_if_icmp_eq (tgt := 66) (dt_M_isSign 2 _ _ _ rfl) rfl ?_ ?_
    · refine s_iconst (dt_M_isSign 33 _ _ _ rfl) rfl ?_
      refine s_goto (tgt := 71) (dt_M_isSign 34 _ _ _ rfl) rfl ?_
      exact s_mask [false] (s_ret0 rfl)
    · refine s_iload_n (dt_M_isSign 3 _ _ _ rfl) rfl ?_
      refine s_bipush (dt_M_isSign 4 _ _ _ rfl) rfl ?_
      refine s_if_icmp_eq (tgt := 66) (dt_M_isSign 5 _ _ _ rfl) rfl ?_ ?_
      · refine s_iconst (dt_M_isSign 33 _ _ _ rfl) rfl ?_
        refine s_goto (tgt := 71) (dt_M_isSign 34 _ _ _ rfl) rfl ?_
        exact s_mask [false] (s_ret0 rfl)
      · refine s_iload_n (dt_M_isSign 6 _ _ _ rfl) rfl ?_
        refine s_bipush (dt_M_isSign 7 _ _ _ rfl) rfl ?_
        refine s_if_icmp_eq (tgt := 66) (dt_M_isSign 8 _ _ _ rfl) rfl ?_ ?_
        · refine s_iconst (dt_M_isSign 33 _ _ _ rfl) rfl ?_
          refine s_goto (tgt := 71) (dt_M_isSign 34 _ _ _ rfl) rfl ?_
          exact s_mask [false] (s_ret0 rfl)
        · refine s_iload_n (dt_M_isSign 9 _ _ _ rfl) rfl ?_
          refine s_bipush (dt_M_isSign 10 _ _ _ rfl) rfl ?_
          refine s_if_icmp_eq (tgt := 66) (dt_M_isSign 11 _ _ _ rfl) rfl ?_ ?_
          · refine s_iconst (dt_M_isSign 33 _ _ _ rfl) rfl ?_
            refine s_goto (tgt := 71) (dt_M_isSign 34 _ _ _ rfl) rfl ?_
            exact s_mask [false] (s_ret0 rfl)
          · refine s_iload_n (dt_M_isSign 12 _ _ _ rfl) rfl ?_
            refine s_bipush (dt_M_isSign 13 _ _ _ rfl) rfl ?_
            refine s_if_icmp_eq (tgt := 66) (dt_M_isSign 14 _ _ _ rfl) rfl ?_ ?_
            · refine s_iconst (dt_M_isSign 33 _ _ _ rfl) rfl ?_
              refine s_goto (tgt := 71) (dt_M_isSign 34 _ _ _ rfl) rfl ?_
              exact s_mask [false] (s_ret0 rfl)
            · refine s_iload_n (dt_M_isSign 15 _ _ _ rfl) rfl ?_
              refine s_bipush (dt_M_isSign 16 _ _ _ rfl) rfl ?_
              refine s_if_icmp_eq (tgt := 66) (dt_M_isSign 17 _ _ _ rfl) rfl ?_ ?_
              · refine s_iconst (dt_M_isSign 33 _ _ _ rfl) rfl ?_
                refine s_goto (tgt := 71) (dt_M_isSign 34 _ _ _ rfl) rfl ?_
                exact s_mask [false] (s_ret0 rfl)
              · refine s_iload_n (dt_M_isSign 18 _ _ _ rfl) rfl ?_
                refine s_bipush (dt_M_isSign 19 _ _ _ rfl) rfl ?_
                refine s_if_icmp_eq (tgt := 66) (dt_M_isSign 20 _ _ _ rfl) rfl ?_ ?_
                · refine s_iconst (dt_M_isSign 33 _ _ _ rfl) rfl ?_
                  refine s_goto (tgt := 71) (dt_M_isSign 34 _ _ _ rfl) rfl ?_
                  exact s_mask [false] (s_ret0 rfl)
                · refine s_iload_n (dt_M_isSign 21 _ _ _ rfl) rfl ?_
                  refine s_bipush (dt_M_isSign 22 _ _ _ rfl) rfl ?_
                  refine s_if_icmp_eq (tgt := 66) (dt_M_isSign 23 _ _ _ rfl) rfl ?_ ?_
                  · refine s_iconst (dt_M_isSign 33 _ _ _ rfl) rfl ?_
                    refine s_goto (tgt := 71) (dt_M_isSign 34 _ _ _ rfl) rfl ?_
                    exact s_mask [false] (s_ret0 rfl)
                  · refine s_iload_n (dt_M_isSign 24 _ _ _ rfl) rfl ?_
                    refine s_bipush (dt_M_isSign 25 _ _ _ rfl) rfl ?_
                    refine s_if_icmp_eq (tgt := 66) (dt_M_isSign 26 _ _ _ rfl) rfl ?_ ?_
                    · refine s_iconst (dt_M_isSign 33 _ _ _ rfl) rfl ?_
                      refine s_goto (tgt := 71) (dt_M_isSign 34 _ _ _ rfl) rfl ?_
                      exact s_mask [false] (s_ret0 rfl)
                    · refine s_iload_n (dt_M_isSign 27 _ _ _ rfl) rfl ?_
                      refine s_bipush (dt_M_isSign 28 _ _ _ rfl) rfl ?_
                      refine s_if_icmp_eq (tgt := 66) (dt_M_isSign 29 _ _ _ rfl) rfl ?_ ?_
                      · refine s_iconst (dt_M_isSign 33 _ _ _ rfl) rfl ?_
                        refine s_goto (tgt := 71) (dt_M_isSign 34 _ _ _ rfl) rfl ?_
                        exact s_mask [false] (s_ret0 rfl)
                      · refine s_iload_n (dt_M_isSign 30 _ _ _ rfl) rfl ?_
                        refine s_bipush (dt_M_isSign 31 _ _ _ rfl) rfl ?_
                        refine s_if_icmp_ne (tgt := 70) (dt_M_isSign 32 _ _ _ rfl) rfl ?_ ?_
                        · refine s_iconst (dt_M_isSign 33 _ _ _ rfl) rfl ?_
                          refine s_goto (tgt := 71) (dt_M_isSign 34 _ _ _ rfl) rfl ?_
                          exact s_mask [false] (s_ret0 rfl)
                        · refine s_iconst (dt_M_isSign 35 _ _ _ rfl) rfl ?_
                          exact s_mask [false] (s_ret0 rfl)
  exact s_zret (dt_M_isSign 36 _ _ _ rfl) rfl rfl
theorem c_M_isSign {S : KS} (hS : KExt 435 S)  (a0 : Int) (M : KM) : ∀ q, f_M_isSign a0 M = some q → Ctr y_M_isSign Y_M_isSign [VI a0] S M (some (VI q)) S (M) := fun q hq =>
  ctr_of md_M_isSign (Nat.le_of_ble_eq_true rfl) ⟨Nat.le_refl _, Nat.le_refl _⟩ 0 hq rfl (fun _ G => sim_M_isSign hS  a0 M)
set_option maxRecDepth 100000 in
theorem sim_M_sign {G : Gam} {S : KS} (hS : KExt 435 S)  (a0 : Int) (M : KM) : Sim G Y_M_sign (f_M_sign a0 M) (kC 0 [some (VR (some 382)), some (VI a0)] [] S M) (fun (q : Int) => Sum.inr (some (VI q), S, M)) := by
  unfold f_M_sign
  refine s_iload_n (dt_M_sign 0 _ _ _ rfl) rfl ?_
  refine s_aload_n (dt_M_sign 1 _ _ _ rfl) rfl ?_
  refine s_getI (c := 1) (j := 3) (dt_M_sign 2 _ _ _ rfl) (kf_M_182) (sc_382 hS) rfl ?_
  refine s_bd (κ := fun t1 => kC 22 [none, none] [VI t1] S M) ?_ (fun t1 => ?_)
  · refine s_if_icmp_ge (tgt := 21) (dt_M_sign 3 _ _ _ rfl) rfl ?_ ?_
    · refine s_aload_n (dt_M_sign 4 _ _ _ rfl) rfl ?_
      refine s_getR (c := 1) (j := 1) (o := (some 384)) (dt_M_sign 5 _ _ _ rfl) (kf_M_13) (sc_382 hS) rfl rfl ?_
      refine s_iload_n (dt_M_sign 6 _ _ _ rfl) rfl ?_
      refine s_bald (N := 1600) (dt_M_sign 7 _ _ _ rfl) (sc_384 hS) rfl ?_
      refine s_sipush (dt_M_sign 8 _ _ _ rfl) rfl ?_
      refine s_iand (dt_M_sign 9 _ _ _ rfl) ?_
      refine s_goto (tgt := 22) (dt_M_sign 10 _ _ _ rfl) rfl ?_
      exact s_mask [false, false] (s_ret0 rfl)
    · refine s_iconst (dt_M_sign 11 _ _ _ rfl) rfl ?_
      exact s_mask [false, false] (s_ret0 rfl)
  exact s_iret (dt_M_sign 12 _ _ _ rfl) rfl rfl
theorem c_M_sign {S : KS} (hS : KExt 435 S)  (a0 : Int) (M : KM) : ∀ q, f_M_sign a0 M = some q → Ctr y_M_sign Y_M_sign [VR (some 382), VI a0] S M (some (VI q)) S (M) := fun q hq =>
  ctr_of md_M_sign (Nat.le_of_ble_eq_true rfl) ⟨Nat.le_refl _, Nat.le_refl _⟩ 0 hq rfl (fun _ G => sim_M_sign hS  a0 M)
