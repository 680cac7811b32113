set_option maxRecDepth 100000 in
theorem sim_M_two {G : Gam} {S : KS} (hS : KExt 435 S)  (a0 : Int) (a1 : Int) (a2 : Int) (M : KM) : Sim G Y_M_two (f_M_two a0 a1 a2 M) (kC 0 [some (VI a0), some (VI a1), some (VI a2)] [] S M) (fun (q : Int) => Sum.inr (some (VI q), S, M)) := by
  unfold f_M_two
  refine s_iload_n (dt_M_two 0 _ _ _ rfl) rfl ?_
  refine s_tcase (tgt := 144) (dt_M_two 1 _ _ _ rfl) rfl rfl rfl ?_ (fun h25 => ?_)
  · refine s_iload_n (dt_M_two 22 _ _ _ rfl) rfl ?_
    refine s_bd (κ := fun t1 => kC 155 [none, none, none] [VI t1] S M) ?_ (fun t1 => ?_)
    · refine s_if_ne (tgt := 152) (dt_M_two 23 _ _ _ rfl) rfl ?_ ?_
      · refine s_iconst (dt_M_two 24 _ _ _ rfl) rfl ?_
        refine s_goto (tgt := 155) (dt_M_two 25 _ _ _ rfl) rfl ?_
        exact s_mask [false, false, false] (s_ret0 rfl)
      · refine s_iload_n (dt_M_two 26 _ _ _ rfl) rfl ?_
        refine s_iload_n (dt_M_two 27 _ _ _ rfl) rfl ?_
        refine s_irem (dt_M_two 28 _ _ _ rfl) ?_
        exact s_mask [false, false, false] (s_ret0 rfl)
    exact s_iret (dt_M_two 29 _ _ _ rfl) rfl rfl
  refine s_tcase (tgt := 189) (dt_M_two 1 _ _ _ rfl) rfl rfl rfl ?_ (fun h26 => ?_)
  · refine s_iload_n (dt_M_two 51 _ _ _ rfl) rfl ?_
    refine s_bd (κ := fun t2 => kC 202 [none, none, none] [VI t2] S M) ?_ (fun t2 => ?_)
    · refine s_if_eq (tgt := 201) (dt_M_two 52 _ _ _ rfl) rfl ?_ ?_
      · refine s_iconst (dt_M_two 57 _ _ _ rfl) rfl ?_
        exact s_mask [false, false, false] (s_ret0 rfl)
      · refine s_iload_n (dt_M_two 53 _ _ _ rfl) rfl ?_
        refine s_if_eq (tgt := 201) (dt_M_two 54 _ _ _ rfl) rfl ?_ ?_
        · refine s_iconst (dt_M_two 57 _ _ _ rfl) rfl ?_
          exact s_mask [false, false, false] (s_ret0 rfl)
        · refine s_iconst (dt_M_two 55 _ _ _ rfl) rfl ?_
          refine s_goto (tgt := 202) (dt_M_two 56 _ _ _ rfl) rfl ?_
          exact s_mask [false, false, false] (s_ret0 rfl)
    exact s_iret (dt_M_two 58 _ _ _ rfl) rfl rfl
  refine s_tcase (tgt := 203) (dt_M_two 1 _ _ _ rfl) rfl rfl rfl ?_ (fun h27 => ?_)
  · refine s_iload_n (dt_M_two 59 _ _ _ rfl) rfl ?_
    refine s_bd (κ := fun t3 => kC 216 [none, none, none] [VI t3] S M) ?_ (fun t3 => ?_)
    · refine s_if_ne (tgt := 211) (dt_M_two 60 _ _ _ rfl) rfl ?_ ?_
      · refine s_iload_n (dt_M_two 61 _ _ _ rfl) rfl ?_
        refine s_if_eq (tgt := 215) (dt_M_two 62 _ _ _ rfl) rfl ?_ ?_
        · refine s_iconst (dt_M_two 65 _ _ _ rfl) rfl ?_
          exact s_mask [false, false, false] (s_ret0 rfl)
        · refine s_iconst (dt_M_two 63 _ _ _ rfl) rfl ?_
          refine s_goto (tgt := 216) (dt_M_two 64 _ _ _ rfl) rfl ?_
          exact s_mask [false, false, false] (s_ret0 rfl)
      · refine s_iconst (dt_M_two 63 _ _ _ rfl) rfl ?_
        refine s_goto (tgt := 216) (dt_M_two 64 _ _ _ rfl) rfl ?_
        exact s_mask [false, false, false] (s_ret0 rfl)
    exact s_iret (dt_M_two 66 _ _ _ rfl) rfl rfl
  refine s_tcase (tgt := 203) (dt_M_two 1 _ _ _ rfl) rfl rfl rfl ?_ (fun h28 => ?_)
  · refine s_iload_n (dt_M_two 59 _ _ _ rfl) rfl ?_
    refine s_bd (κ := fun t4 => kC 216 [none, none, none] [VI t4] S M) ?_ (fun t4 => ?_)
    · refine s_if_ne (tgt := 211) (dt_M_two 60 _ _ _ rfl) rfl ?_ ?_
      · refine s_iload_n (dt_M_two 61 _ _ _ rfl) rfl ?_
        refine s_if_eq (tgt := 215) (dt_M_two 62 _ _ _ rfl) rfl ?_ ?_
        · refine s_iconst (dt_M_two 65 _ _ _ rfl) rfl ?_
          exact s_mask [false, false, false] (s_ret0 rfl)
        · refine s_iconst (dt_M_two 63 _ _ _ rfl) rfl ?_
          refine s_goto (tgt := 216) (dt_M_two 64 _ _ _ rfl) rfl ?_
          exact s_mask [false, false, false] (s_ret0 rfl)
      · refine s_iconst (dt_M_two 63 _ _ _ rfl) rfl ?_
        refine s_goto (tgt := 216) (dt_M_two 64 _ _ _ rfl) rfl ?_
        exact s_mask [false, false, false] (s_ret0 rfl)
    exact s_iret (dt_M_two 66 _ _ _ rfl) rfl rfl
  refine s_tcase (tgt := 203) (dt_M_two 1 _ _ _ rfl) rfl rfl rfl ?_ (fun h29 => ?_)
  · refine s_iload_n (dt_M_two 59 _ _ _ rfl) rfl ?_
    refine s_bd (κ := fun t5 => kC 216 [none, none, none] [VI t5] S M) ?_ (fun t5 => ?_)
    · refine s_if_ne (tgt := 211) (dt_M_two 60 _ _ _ rfl) rfl ?_ ?_
      · refine s_iload_n (dt_M_two 61 _ _ _ rfl) rfl ?_
        refine s_if_eq (tgt := 215) (dt_M_two 62 _ _ _ rfl) rfl ?_ ?_
        · refine s_iconst (dt_M_two 65 _ _ _ rfl) rfl ?_
          exact s_mask [false, false, false] (s_ret0 rfl)
        · refine s_iconst (dt_M_two 63 _ _ _ rfl) rfl ?_
          refine s_goto (tgt := 216) (dt_M_two 64 _ _ _ rfl) rfl ?_
          exact s_mask [false, false, false] (s_ret0 rfl)
      · refine s_iconst (dt_M_two 63 _ _ _ rfl) rfl ?_
        refine s_goto (tgt := 216) (dt_M_two 64 _ _ _ rfl) rfl ?_
        exact s_mask [false, false, false] (s_ret0 rfl)
    exact s_iret (dt_M_two 66 _ _ _ rfl) rfl rfl
  refine s_tcase (tgt := 128) (dt_M_two 1 _ _ _ rfl) rfl rfl rfl ?_ (fun h30 => ?_)
  · refine s_iload_n (dt_M_two 10 _ _ _ rfl) rfl ?_
    refine s_iload_n (dt_M_two 11 _ _ _ rfl) rfl ?_
    refine s_imul (dt_M_two 12 _ _ _ rfl) ?_
    exact s_iret (dt_M_two 13 _ _ _ rfl) rfl rfl
  refine s_tcase (tgt := 120) (dt_M_two 1 _ _ _ rfl) rfl rfl rfl ?_ (fun h31 => ?_)
  · refine s_iload_n (dt_M_two 2 _ _ _ rfl) rfl ?_
    refine s_iload_n (dt_M_two 3 _ _ _ rfl) rfl ?_
    refine s_iadd (dt_M_two 4 _ _ _ rfl) ?_
    exact s_iret (dt_M_two 5 _ _ _ rfl) rfl rfl
  refine s_tcase (tgt := 203) (dt_M_two 1 _ _ _ rfl) rfl rfl rfl ?_ (fun h32 => ?_)
  · refine s_iload_n (dt_M_two 59 _ _ _ rfl) rfl ?_
    refine s_bd (κ := fun t6 => kC 216 [none, none, none] [VI t6] S M) ?_ (fun t6 => ?_)
    · refine s_if_ne (tgt := 211) (dt_M_two 60 _ _ _ rfl) rfl ?_ ?_
      · refine s_iload_n (dt_M_two 61 _ _ _ rfl) rfl ?_
        refine s_if_eq (tgt := 215) (dt_M_two 62 _ _ _ rfl) rfl ?_ ?_
        · refine s_iconst (dt_M_two 65 _ _ _ rfl) rfl ?_
          exact s_mask [false, false, false] (s_ret0 rfl)
        · refine s_iconst (dt_M_two 63 _ _ _ rfl) rfl ?_
          refine s_goto (tgt := 216) (dt_M_two 64 _ _ _ rfl) rfl ?_
          exact s_mask [false, false, false] (s_ret0 rfl)
      · refine s_iconst (dt_M_two 63 _ _ _ rfl) rfl ?_
        refine s_goto (tgt := 216) (dt_M_two 64 _ _ _ rfl) rfl ?_
        exact s_mask [false, false, false] (s_ret0 rfl)
    exact s_iret (dt_M_two 66 _ _ _ rfl) rfl rfl
  refine s_tcase (tgt := 124) (dt_M_two 1 _ _ _ rfl) rfl rfl rfl ?_ (fun h33 => ?_)
  · refine s_iload_n (dt_M_two 6 _ _ _ rfl) rfl ?_
    refine s_iload_n (dt_M_two 7 _ _ _ rfl) rfl ?_
    refine s_isub (dt_M_two 8 _ _ _ rfl) ?_
    exact s_iret (dt_M_two 9 _ _ _ rfl) rfl rfl
  refine s_tcase (tgt := 203) (dt_M_two 1 _ _ _ rfl) rfl rfl rfl ?_ (fun h34 => ?_)
  · refine s_iload_n (dt_M_two 59 _ _ _ rfl) rfl ?_
    refine s_bd (κ := fun t7 => kC 216 [none, none, none] [VI t7] S M) ?_ (fun t7 => ?_)
    · refine s_if_ne (tgt := 211) (dt_M_two 60 _ _ _ rfl) rfl ?_ ?_
      · refine s_iload_n (dt_M_two 61 _ _ _ rfl) rfl ?_
        refine s_if_eq (tgt := 215) (dt_M_two 62 _ _ _ rfl) rfl ?_ ?_
        · refine s_iconst (dt_M_two 65 _ _ _ rfl) rfl ?_
          exact s_mask [false, false, false] (s_ret0 rfl)
        · refine s_iconst (dt_M_two 63 _ _ _ rfl) rfl ?_
          refine s_goto (tgt := 216) (dt_M_two 64 _ _ _ rfl) rfl ?_
          exact s_mask [false, false, false] (s_ret0 rfl)
      · refine s_iconst (dt_M_two 63 _ _ _ rfl) rfl ?_
        refine s_goto (tgt := 216) (dt_M_two 64 _ _ _ rfl) rfl ?_
        exact s_mask [false, false, false] (s_ret0 rfl)
    exact s_iret (dt_M_two 66 _ _ _ rfl) rfl rfl
  refine s_tcase (tgt := 132) (dt_M_two 1 _ _ _ rfl) rfl rfl rfl ?_ (fun h35 => ?_)
  · refine s_iload_n (dt_M_two 14 _ _ _ rfl) rfl ?_
    refine s_bd (κ := fun t8 => kC 143 [none, none, none] [VI t8] S M) ?_ (fun t8 => ?_)
    · refine s_if_ne (tgt := 140) (dt_M_two 15 _ _ _ rfl) rfl ?_ ?_
      · refine s_iconst (dt_M_two 16 _ _ _ rfl) rfl ?_
        refine s_goto (tgt := 143) (dt_M_two 17 _ _ _ rfl) rfl ?_
        exact s_mask [false, false, false] (s_ret0 rfl)
      · refine s_iload_n (dt_M_two 18 _ _ _ rfl) rfl ?_
        refine s_iload_n (dt_M_two 19 _ _ _ rfl) rfl ?_
        refine s_idiv (dt_M_two 20 _ _ _ rfl) ?_
        exact s_mask [false, false, false] (s_ret0 rfl)
    exact s_iret (dt_M_two 21 _ _ _ rfl) rfl rfl
  refine s_tcase (tgt := 203) (dt_M_two 1 _ _ _ rfl) rfl rfl rfl ?_ (fun h36 => ?_)
  · refine s_iload_n (dt_M_two 59 _ _ _ rfl) rfl ?_
    refine s_bd (κ := fun t9 => kC 216 [none, none, none] [VI t9] S M) ?_ (fun t9 => ?_)
    · refine s_if_ne (tgt := 211) (dt_M_two 60 _ _ _ rfl) rfl ?_ ?_
      · refine s_iload_n (dt_M_two 61 _ _ _ rfl) rfl ?_
        refine s_if_eq (tgt := 215) (dt_M_two 62 _ _ _ rfl) rfl ?_ ?_
        · refine s_iconst (dt_M_two 65 _ _ _ rfl) rfl ?_
          exact s_mask [false, false, false] (s_ret0 rfl)
        · refine s_iconst (dt_M_two 63 _ _ _ rfl) rfl ?_
          refine s_goto (tgt := 216) (dt_M_two 64 _ _ _ rfl) rfl ?_
          exact s_mask [false, false, false] (s_ret0 rfl)
      · refine s_iconst (dt_M_two 63 _ _ _ rfl) rfl ?_
        refine s_goto (tgt := 216) (dt_M_two 64 _ _ _ rfl) rfl ?_
        exact s_mask [false, false, false] (s_ret0 rfl)
    exact s_iret (dt_M_two 66 _ _ _ rfl) rfl rfl
  refine s_tcase (tgt := 203) (dt_M_two 1 _ _ _ rfl) rfl rfl rfl ?_ (fun h37 => ?_)
  · refine s_iload_n (dt_M_two 59 _ _ _ rfl) rfl ?_
    refine s_bd (κ := fun t10 => kC 216 [none, none, none] [VI t10] S M) ?_ (fun t10 => ?_)
    · refine s_if_ne (tgt := 211) (dt_M_two 60 _ _ _ rfl) rfl ?_ ?_
      · refine s_iload_n (dt_M_two 61 _ _ _ rfl) rfl ?_
        refine s_if_eq (tgt := 215) (dt_M_two 62 _ _ _ rfl) rfl ?_ ?_
        · refine s_iconst (dt_M_two 65 _ _ _ rfl) rfl ?_
          exact s_mask [false, false, false] (s_ret0 rfl)
        · refine s_iconst (dt_M_two 63 _ _ _ rfl) rfl ?_
          refine s_goto (tgt := 216) (dt_M_two 64 _ _ _ rfl) rfl ?_
          exact s_mask [false, false, false] (s_ret0 rfl)
      · refine s_iconst (dt_M_two 63 _ _ _ rfl) rfl ?_
        refine s_goto (tgt := 216) (dt_M_two 64 _ _ _ rfl) rfl ?_
        exact s_mask [false, false, false] (s_ret0 rfl)
    exact s_iret (dt_M_two 66 _ _ _ rfl) rfl rfl
  refine s_tcase (tgt := 203) (dt_M_two 1 _ _ _ rfl) rfl rfl rfl ?_ (fun h38 => ?_)
  · refine s_iload_n (dt_M_two 59 _ _ _ rfl) rfl ?_
    refine s_bd (κ := fun t11 => kC 216 [none, none, none] [VI t11] S M) ?_ (fun t11 => ?_)
    · refine s_if_ne (tgt := 211) (dt_M_two 60 _ _ _ rfl) rfl ?_ ?_
      · refine s_iload_n (dt_M_two 61 _ _ _ rfl) rfl ?_
        refine s_if_eq (tgt := 215) (dt_M_two 62 _ _ _ rfl) rfl ?_ ?_
        · refine s_iconst (dt_M_two 65 _ _ _ rfl) rfl ?_
          exact s_mask [false, false, false] (s_ret0 rfl)
        · refine s_iconst (dt_M_two 63 _ _ _ rfl) rfl ?_
          refine s_goto (tgt := 216) (dt_M_two 64 _ _ _ rfl) rfl ?_
          exact s_mask [false, false, false] (s_ret0 rfl)
      · refine s_iconst (dt_M_two 63 _ _ _ rfl) rfl ?_
        refine s_goto (tgt := 216) (dt_M_two 64 _ _ _ rfl) rfl ?_
        exact s_mask [false, false, false] (s_ret0 rfl)
    exact s_iret (dt_M_two 66 _ _ _ rfl) rfl rfl
  refine s_tcase (tgt := 203) (dt_M_two 1 _ _ _ rfl) rfl rfl rfl ?_ (fun h39 => ?_)
  · refine s_iload_n (dt_M_two 59 _ _ _ rfl) rfl ?_
    refine s_bd (κ := fun t12 => kC 216 [none, none, none] [VI t12] S M) ?_ (fun t12 => ?_)
    · refine s_if_ne (tgt := 211) (dt_M_two 60 _ _ _ rfl) rfl ?_ ?_
      · refine s_iload_n (dt_M_two 61 _ _ _ rfl) rfl ?_
        refine s_if_eq (tgt := 215) (dt_M_two 62 _ _ _ rfl) rfl ?_ ?_
        · refine s_iconst (dt_M_two 65 _ _ _ rfl) rfl ?_
          exact s_mask [false, false, false] (s_ret0 rfl)
        · refine s_iconst (dt_M_two 63 _ _ _ rfl) rfl ?_
          refine s_goto (tgt := 216) (dt_M_two 64 _ _ _ rfl) rfl ?_
          exact s_mask [false, false, false] (s_ret0 rfl)
      · refine s_iconst (dt_M_two 63 _ _ _ rfl) rfl ?_
        refine s_goto (tgt := 216) (dt_M_two 64 _ _ _ rfl) rfl ?_
        exact s_mask [false, false, false] (s_ret0 rfl)
    exact s_iret (dt_M_two 66 _ _ _ rfl) rfl rfl
  refine s_tcase (tgt := 203) (dt_M_two 1 _ _ _ rfl) rfl rfl rfl ?_ (fun h40 => ?_)
  · refine s_iload_n (dt_M_two 59 _ _ _ rfl) rfl ?_
    refine s_bd (κ := fun t13 => kC 216 [none, none, none] [VI t13] S M) ?_ (fun t13 => ?_)
    · refine s_if_ne (tgt := 211) (dt_M_two 60 _ _ _ rfl) rfl ?_ ?_
      · refine s_iload_n (dt_M_two 61 _ _ _ rfl) rfl ?_
        refine s_if_eq (tgt := 215) (dt_M_two 62 _ _ _ rfl) rfl ?_ ?_
        · refine s_iconst (dt_M_two 65 _ _ _ rfl) rfl ?_
          exact s_mask [false, false, false] (s_ret0 rfl)
        · refine s_iconst (dt_M_two 63 _ _ _ rfl) rfl ?_
          refine s_goto (tgt := 216) (dt_M_two 64 _ _ _ rfl) rfl ?_
          exact s_mask [false, false, false] (s_ret0 rfl)
      · refine s_iconst (dt_M_two 63 _ _ _ rfl) rfl ?_
        refine s_goto (tgt := 216) (dt_M_two 64 _ _ _ rfl) rfl ?_
        exact s_mask [false, false, false] (s_ret0 rfl)
    exact s_iret (dt_M_two 66 _ _ _ rfl) rfl rfl
  refine s_tcase (tgt := 203) (dt_M_two 1 _ _ _ rfl) rfl rfl rfl ?_ (fun h41 => ?_)
  · refine s_iload_n (dt_M_two 59 _ _ _ rfl) rfl ?_
    refine s_bd (κ := fun t14 => kC 216 [none, none, none] [VI t14] S M) ?_ (fun t14 => ?_)
    · refine s_if_ne (tgt := 211) (dt_M_two 60 _ _ _ rfl) rfl ?_ ?_
      · refine s_iload_n (dt_M_two 61 _ _ _ rfl) rfl ?_
        refine s_if_eq (tgt := 215) (dt_M_two 62 _ _ _ rfl) rfl ?_ ?_
        · refine s_iconst (dt_M_two 65 _ _ _ rfl) rfl ?_
          exact s_mask [false, false, false] (s_ret0 rfl)
        · refine s_iconst (dt_M_two 63 _ _ _ rfl) rfl ?_
          refine s_goto (tgt := 216) (dt_M_two 64 _ _ _ rfl) rfl ?_
          exact s_mask [false, false, false] (s_ret0 rfl)
      · refine s_iconst (dt_M_two 63 _ _ _ rfl) rfl ?_
        refine s_goto (tgt := 216) (dt_M_two 64 _ _ _ rfl) rfl ?_
        exact s_mask [false, false, false] (s_ret0 rfl)
    exact s_iret (dt_M_two 66 _ _ _ rfl) rfl rfl
  refine s_tcase (tgt := 203) (dt_M_two 1 _ _ _ rfl) rfl rfl rfl ?_ (fun h42 => ?_)
  · refine s_iload_n (dt_M_two 59 _ _ _ rfl) rfl ?_
    refine s_bd (κ := fun t15 => kC 216 [none, none, none] [VI t15] S M) ?_ (fun t15 => ?_)
    · refine s_if_ne (tgt := 211) (dt_M_two 60 _ _ _ rfl) rfl ?_ ?_
      · refine s_iload_n (dt_M_two 61 _ _ _ rfl) rfl ?_
        refine s_if_eq (tgt := 215) (dt_M_two 62 _ _ _ rfl) rfl ?_ ?_
        · refine s_iconst (dt_M_two 65 _ _ _ rfl) rfl ?_
          exact s_mask [false, false, false] (s_ret0 rfl)
        · refine s_iconst (dt_M_two 63 _ _ _ rfl) rfl ?_
          refine s_goto (tgt := 216) (dt_M_two 64 _ _ _ rfl) rfl ?_
          exact s_mask [false, false, false] (s_ret0 rfl)
      · refine s_iconst (dt_M_two 63 _ _ _ rfl) rfl ?_
        refine s_goto (tgt := 216) (dt_M_two 64 _ _ _ rfl) rfl ?_
        exact s_mask [false, false, false] (s_ret0 rfl)
    exact s_iret (dt_M_two 66 _ _ _ rfl) rfl rfl
  refine s_tcase (tgt := 203) (dt_M_two 1 _ _ _ rfl) rfl rfl rfl ?_ (fun h43 => ?_)
  · refine s_iload_n (dt_M_two 59 _ _ _ rfl) rfl ?_
    refine s_bd (κ := fun t16 => kC 216 [none, none, none] [VI t16] S M) ?_ (fun t16 => ?_)
    · refine s_if_ne (tgt := 211) (dt_M_two 60 _ _ _ rfl) rfl ?_ ?_
      · refine s_iload_n (dt_M_two 61 _ _ _ rfl) rfl ?_
        refine s_if_eq (tgt := 215) (dt_M_two 62 _ _ _ rfl) rfl ?_ ?_
        · refine s_iconst (dt_M_two 65 _ _ _ rfl) rfl ?_
          exact s_mask [false, false, false] (s_ret0 rfl)
        · refine s_iconst (dt_M_two 63 _ _ _ rfl) rfl ?_
          refine s_goto (tgt := 216) (dt_M_two 64 _ _ _ rfl) rfl ?_
          exact s_mask [false, false, false] (s_ret0 rfl)
      · refine s_iconst (dt_M_two 63 _ _ _ rfl) rfl ?_
        refine s_goto (tgt := 216) (dt_M_two 64 _ _ _ rfl) rfl ?_
        exact s_mask [false, false, false] (s_ret0 rfl)
    exact s_iret (dt_M_two 66 _ _ _ rfl) rfl rfl
  refine s_tcase (tgt := 203) (dt_M_two 1 _ _ _ rfl) rfl rfl rfl ?_ (fun h44 => ?_)
  · refine s_iload_n (dt_M_two 59 _ _ _ rfl) rfl ?_
    refine s_bd (κ := fun t17 => kC 216 [none, none, none] [VI t17] S M) ?_ (fun t17 => ?_)
    · refine s_if_ne (tgt := 211) (dt_M_two 60 _ _ _ rfl) rfl ?_ ?_
      · refine s_iload_n (dt_M_two 61 _ _ _ rfl) rfl ?_
        refine s_if_eq (tgt := 215) (dt_M_two 62 _ _ _ rfl) rfl ?_ ?_
        · refine s_iconst (dt_M_two 65 _ _ _ rfl) rfl ?_
          exact s_mask [false, false, false] (s_ret0 rfl)
        · refine s_iconst (dt_M_two 63 _ _ _ rfl) rfl ?_
          refine s_goto (tgt := 216) (dt_M_two 64 _ _ _ rfl) rfl ?_
          exact s_mask [false, false, false] (s_ret0 rfl)
      · refine s_iconst (dt_M_two 63 _ _ _ rfl) rfl ?_
        refine s_goto (tgt := 216) (dt_M_two 64 _ _ _ rfl) rfl ?_
        exact s_mask [false, false, false] (s_ret0 rfl)
    exact s_iret (dt_M_two 66 _ _ _ rfl) rfl rfl
  refine s_tcase (tgt := 203) (dt_M_two 1 _ _ _ rfl) rfl rfl rfl ?_ (fun h45 => ?_)
  · refine s_iload_n (dt_M_two 59 _ _ _ rfl) rfl ?_
    refine s_bd (κ := fun t18 => kC 216 [none, none, none] [VI t18] S M) ?_ (fun t18 => ?_)
    · refine s_if_ne (tgt := 211) (dt_M_two 60 _ _ _ rfl) rfl ?_ ?_
      · refine s_iload_n (dt_M_two 61 _ _ _ rfl) rfl ?_
        refine s_if_eq (tgt := 215) (dt_M_two 62 _ _ _ rfl) rfl ?_ ?_
        · refine s_iconst (dt_M_two 65 _ _ _ rfl) rfl ?_
          exact s_mask [false, false, false] (s_ret0 rfl)
        · refine s_iconst (dt_M_two 63 _ _ _ rfl) rfl ?_
          refine s_goto (tgt := 216) (dt_M_two 64 _ _ _ rfl) rfl ?_
          exact s_mask [false, false, false] (s_ret0 rfl)
      · refine s_iconst (dt_M_two 63 _ _ _ rfl) rfl ?_
        refine s_goto (tgt := 216) (dt_M_two 64 _ _ _ rfl) rfl ?_
        exact s_mask [false, false, false] (s_ret0 rfl)
    exact s_iret (dt_M_two 66 _ _ _ rfl) rfl rfl
  refine s_tcase (tgt := 203) (dt_M_two 1 _ _ _ rfl) rfl rfl rfl ?_ (fun h46 => ?_)
  · refine s_iload_n (dt_M_two 59 _ _ _ rfl) rfl ?_
    refine s_bd (κ := fun t19 => kC 216 [none, none, none] [VI t19] S M) ?_ (fun t19 => ?_)
    · refine s_if_ne (tgt := 211) (dt_M_two 60 _ _ _ rfl) rfl ?_ ?_
      · refine s_iload_n (dt_M_two 61 _ _ _ rfl) rfl ?_
        refine s_if_eq (tgt := 215) (dt_M_two 62 _ _ _ rfl) rfl ?_ ?_
        · refine s_iconst (dt_M_two 65 _ _ _ rfl) rfl ?_
          exact s_mask [false, false, false] (s_ret0 rfl)
        · refine s_iconst (dt_M_two 63 _ _ _ rfl) rfl ?_
          refine s_goto (tgt := 216) (dt_M_two 64 _ _ _ rfl) rfl ?_
          exact s_mask [false, false, false] (s_ret0 rfl)
      · refine s_iconst (dt_M_two 63 _ _ _ rfl) rfl ?_
        refine s_goto (tgt := 216) (dt_M_two 64 _ _ _ rfl) rfl ?_
        exact s_mask [false, false, false] (s_ret0 rfl)
    exact s_iret (dt_M_two 66 _ _ _ rfl) rfl rfl
  refine s_tcase (tgt := 203) (dt_M_two 1 _ _ _ rfl) rfl rfl rfl ?_ (fun h47 => ?_)
  · refine s_iload_n (dt_M_two 59 _ _ _ rfl) rfl ?_
    refine s_bd (κ := fun t20 => kC 216 [none, none, none] [VI t20] S M) ?_ (fun t20 => ?_)
    · refine s_if_ne (tgt := 211) (dt_M_two 60 _ _ _ rfl) rfl ?_ ?_
      · refine s_iload_n (dt_M_two 61 _ _ _ rfl) rfl ?_
        refine s_if_eq (tgt := 215) (dt_M_two 62 _ _ _ rfl) rfl ?_ ?_
        · refine s_iconst (dt_M_two 65 _ _ _ rfl) rfl ?_
          exact s_mask [false, false, false] (s_ret0 rfl)
        · refine s_iconst (dt_M_two 63 _ _ _ rfl) rfl ?_
          refine s_goto (tgt := 216) (dt_M_two 64 _ _ _ rfl) rfl ?_
          exact s_mask [false, false, false] (s_ret0 rfl)
      · refine s_iconst (dt_M_two 63 _ _ _ rfl) rfl ?_
        refine s_goto (tgt := 216) (dt_M_two 64 _ _ _ rfl) rfl ?_
        exact s_mask [false, false, false] (s_ret0 rfl)
    exact s_iret (dt_M_two 66 _ _ _ rfl) rfl rfl
  refine s_tcase (tgt := 156) (dt_M_two 1 _ _ _ rfl) rfl rfl rfl ?_ (fun h48 => ?_)
  · refine s_iload_n (dt_M_two 30 _ _ _ rfl) rfl ?_
    refine s_iload_n (dt_M_two 31 _ _ _ rfl) rfl ?_
    refine s_bd (κ := fun t21 => kC 166 [none, none, none] [VI t21] S M) ?_ (fun t21 => ?_)
    · refine s_if_icmp_ge (tgt := 165) (dt_M_two 32 _ _ _ rfl) rfl ?_ ?_
      · refine s_iconst (dt_M_two 33 _ _ _ rfl) rfl ?_
        refine s_goto (tgt := 166) (dt_M_two 34 _ _ _ rfl) rfl ?_
        exact s_mask [false, false, false] (s_ret0 rfl)
      · refine s_iconst (dt_M_two 35 _ _ _ rfl) rfl ?_
        exact s_mask [false, false, false] (s_ret0 rfl)
    exact s_iret (dt_M_two 36 _ _ _ rfl) rfl rfl
  refine s_tcase (tgt := 178) (dt_M_two 1 _ _ _ rfl) rfl rfl rfl ?_ (fun h49 => ?_)
  · refine s_iload_n (dt_M_two 44 _ _ _ rfl) rfl ?_
    refine s_iload_n (dt_M_two 45 _ _ _ rfl) rfl ?_
    refine s_bd (κ := fun t22 => kC 188 [none, none, none] [VI t22] S M) ?_ (fun t22 => ?_)
    · refine s_if_icmp_ne (tgt := 187) (dt_M_two 46 _ _ _ rfl) rfl ?_ ?_
      · refine s_iconst (dt_M_two 47 _ _ _ rfl) rfl ?_
        refine s_goto (tgt := 188) (dt_M_two 48 _ _ _ rfl) rfl ?_
        exact s_mask [false, false, false] (s_ret0 rfl)
      · refine s_iconst (dt_M_two 49 _ _ _ rfl) rfl ?_
        exact s_mask [false, false, false] (s_ret0 rfl)
    exact s_iret (dt_M_two 50 _ _ _ rfl) rfl rfl
  refine s_tcase (tgt := 167) (dt_M_two 1 _ _ _ rfl) rfl rfl rfl ?_ (fun h50 => ?_)
  · refine s_iload_n (dt_M_two 37 _ _ _ rfl) rfl ?_
    refine s_iload_n (dt_M_two 38 _ _ _ rfl) rfl ?_
    refine s_bd (κ := fun t23 => kC 177 [none, none, none] [VI t23] S M) ?_ (fun t23 => ?_)
    · refine s_if_icmp_le (tgt := 176) (dt_M_two 39 _ _ _ rfl) rfl ?_ ?_
      · refine s_iconst (dt_M_two 42 _ _ _ rfl) rfl ?_
        exact s_mask [false, false, false] (s_ret0 rfl)
      · refine s_iconst (dt_M_two 40 _ _ _ rfl) rfl ?_
        refine s_goto (tgt := 177) (dt_M_two 41 _ _ _ rfl) rfl ?_
        exact s_mask [false, false, false] (s_ret0 rfl)
    exact s_iret (dt_M_two 43 _ _ _ rfl) rfl rfl
  refine s_tdef (tgt := 203) (dt_M_two 1 _ _ _ rfl) (by omega) rfl ?_
  refine s_iload_n (dt_M_two 59 _ _ _ rfl) rfl ?_
  refine s_bd (κ := fun t24 => kC 216 [none, none, none] [VI t24] S M) ?_ (fun t24 => ?_)
  · refine s_if_ne (tgt := 211) (dt_M_two 60 _ _ _ rfl) rfl ?_ ?_
    · refine s_iload_n (dt_M_two 61 _ _ _ rfl) rfl ?_
      refine s_if_eq (tgt := 215) (dt_M_two 62 _ _ _ rfl) rfl ?_ ?_
      · refine s_iconst (dt_M_two 65 _ _ _ rfl) rfl ?_
        exact s_mask [false, false, false] (s_ret0 rfl)
      · refine s_iconst (dt_M_two 63 _ _ _ rfl) rfl ?_
        refine s_goto (tgt := 216) (dt_M_two 64 _ _ _ rfl) rfl ?_
        exact s_mask [false, false, false] (s_ret0 rfl)
    · refine s_iconst (dt_M_two 63 _ _ _ rfl) rfl ?_
      refine s_goto (tgt := 216) (dt_M_two 64 _ _ _ rfl) rfl ?_
      exact s_mask [false, false, false] (s_ret0 rfl)
  exact s_iret (dt_M_two 66 _ _ _ rfl) rfl rfl
theorem c_M_two {S : KS} (hS : KExt 435 S)  (a0 : Int) (a1 : Int) (a2 : Int) (M : KM) : ∀ q, f_M_two a0 a1 a2 M = some q → Ctr y_M_two Y_M_two [VI a0, VI a1, VI a2] S M (some (VI q)) S (M) := fun q hq =>
  ctr_of md_M_two (Nat.le_of_ble_eq_true rfl) ⟨Nat.le_refl _, Nat.le_refl _⟩ 0 hq rfl (fun _ G => sim_M_two hS  a0 a1 a2 M)
set_option maxRecDepth 100000 in
theorem sim_M_comes {G : Gam} {S : KS} (hS : KExt 435 S)  (a0 : Int) (M : KM) : Sim G Y_M_comes (f_M_comes a0 M) (kC 0 [some (VR (some 382)), some (VI a0), none, none, none] [] S M) (fun (q : Int × KM) => Sum.inr (some (VI q.1), S, q.2)) := by
  unfold f_M_comes
  refine s_iconst (dt_M_comes 0 _ _ _ rfl) rfl ?_
  refine s_istore_n (dt_M_comes 1 _ _ _ rfl) rfl ?_
  refine s_aload_n (dt_M_comes 2 _ _ _ rfl) rfl ?_
  refine s_getR (c := 1) (j := 26) (o := (some 400)) (dt_M_comes 3 _ _ _ rfl) (kf_M_66) (sc_382 hS) rfl rfl ?_
  refine s_bipush (dt_M_comes 4 _ _ _ rfl) rfl ?_
  refine s_aload_n (dt_M_comes 5 _ _ _ rfl) rfl ?_
  refine s_getI (c := 1) (j := 37) (dt_M_comes 6 _ _ _ rfl) (kf_M_288) (sc_382 hS) rfl ?_
  refine s_imul (dt_M_comes 7 _ _ _ rfl) ?_
  refine s_iload_n (dt_M_comes 8 _ _ _ rfl) rfl ?_
  refine s_iadd (dt_M_comes 9 _ _ _ rfl) ?_
  refine s_iald (N := 14) (dt_M_comes 10 _ _ _ rfl) (sc_400 hS) rfl ?_
  refine s_letI (fun v1 => ?_)
  refine s_istore_n (dt_M_comes 11 _ _ _ rfl) rfl ?_
  refine s_bd (κ := (fun (e12 : KM) => kC 145 [some (VR (some 382)), none, none, none, none] [] S e12)) (s_mask [true, true, true, true, false] (s_while (c := fun s2 => kC 17 [some (VR (some 382)), some (VI a0), some (VI s2.1), some (VI s2.2.1), none] [] S s2.2.2) (fun s2 => ?_) ((0 : Int), v1, M))) ?_
  · refine s_iload_n (dt_M_comes 12 _ _ _ rfl) rfl ?_
    refine s_aload_n (dt_M_comes 13 _ _ _ rfl) rfl ?_
    refine s_getR (c := 1) (j := 27) (o := (some 401)) (dt_M_comes 14 _ _ _ rfl) (kf_M_69) (sc_382 hS) rfl rfl ?_
    refine s_bipush (dt_M_comes 15 _ _ _ rfl) rfl ?_
    refine s_aload_n (dt_M_comes 16 _ _ _ rfl) rfl ?_
    refine s_getI (c := 1) (j := 37) (dt_M_comes 17 _ _ _ rfl) (kf_M_288) (sc_382 hS) rfl ?_
    refine s_imul (dt_M_comes 18 _ _ _ rfl) ?_
    refine s_iload_n (dt_M_comes 19 _ _ _ rfl) rfl ?_
    refine s_iadd (dt_M_comes 20 _ _ _ rfl) ?_
    refine s_iald (N := 14) (dt_M_comes 21 _ _ _ rfl) (sc_401 hS) rfl ?_
    refine s_if_icmp_ge (tgt := 145) (dt_M_comes 22 _ _ _ rfl) rfl ?_ ?_
    · refine s_aload_n (dt_M_comes 23 _ _ _ rfl) rfl ?_
      refine s_getR (c := 1) (j := 32) (o := (some 406)) (dt_M_comes 24 _ _ _ rfl) (kf_M_86) (sc_382 hS) rfl rfl ?_
      refine s_iload_n (dt_M_comes 25 _ _ _ rfl) rfl ?_
      refine s_iald (N := 1120) (dt_M_comes 26 _ _ _ rfl) (sc_406 hS) rfl ?_
      refine s_letI (fun v3 => ?_)
      refine s_istore (dt_M_comes 27 _ _ _ rfl) rfl ?_
      refine s_iload (dt_M_comes 28 _ _ _ rfl) rfl ?_
      refine s_bipush (dt_M_comes 29 _ _ _ rfl) rfl ?_
      refine s_bd (κ := fun t11 => kC 139 [some (VR (some 382)), some (VI a0), some (VI t11.1), some (VI s2.2.1), none] [] S t11.2) ?_ (fun t11 => ?_)
      · refine s_if_icmp_ne (tgt := 77) (dt_M_comes 30 _ _ _ rfl) rfl ?_ ?_
        · refine s_aload_n (dt_M_comes 31 _ _ _ rfl) rfl ?_
          refine s_getR (c := 1) (j := 36) (o := (some 410)) (dt_M_comes 32 _ _ _ rfl) (kf_M_98) (sc_382 hS) rfl rfl ?_
          refine s_iload_n (dt_M_comes 33 _ _ _ rfl) rfl ?_
          refine s_iconst (dt_M_comes 34 _ _ _ rfl) rfl ?_
          refine s_isub (dt_M_comes 35 _ _ _ rfl) ?_
          refine s_aload_n (dt_M_comes 36 _ _ _ rfl) rfl ?_
          refine s_getR (c := 1) (j := 36) (o := (some 410)) (dt_M_comes 37 _ _ _ rfl) (kf_M_98) (sc_382 hS) rfl rfl ?_
          refine s_iload_n (dt_M_comes 38 _ _ _ rfl) rfl ?_
          refine s_iconst (dt_M_comes 39 _ _ _ rfl) rfl ?_
          refine s_isub (dt_M_comes 40 _ _ _ rfl) ?_
          refine s_iald (N := 60) (dt_M_comes 41 _ _ _ rfl) (sc_410 hS) rfl ?_
          refine s_bd (κ := fun t4 => kC 73 [some (VR (some 382)), some (VI a0), some (VI s2.1), some (VI s2.2.1), none] [VI t4, VI (w32 (s2.1 - (1 : Int))), VR (some 410)] S s2.2.2) ?_ (fun t4 => ?_)
          · refine s_if_ne (tgt := 72) (dt_M_comes 42 _ _ _ rfl) rfl ?_ ?_
            · refine s_iconst (dt_M_comes 43 _ _ _ rfl) rfl ?_
              refine s_goto (tgt := 73) (dt_M_comes 44 _ _ _ rfl) rfl ?_
              exact s_mask [true, true, true, true, false] (s_ret0 rfl)
            · refine s_iconst (dt_M_comes 45 _ _ _ rfl) rfl ?_
              exact s_mask [true, true, true, true, false] (s_ret0 rfl)
          refine s_iast (N := 60) (dt_M_comes 46 _ _ _ rfl) (sc_410 hS) rfl ?_
          refine s_letM (fun M5 => ?_)
          refine s_goto (tgt := 139) (dt_M_comes 47 _ _ _ rfl) rfl ?_
          exact s_mask [true, true, true, true, false] (s_ret0 rfl)
        · refine s_iload (dt_M_comes 48 _ _ _ rfl) rfl ?_
          refine s_callO (y := y_M_isLetter) (Y' := Y_M_isLetter) (as := [VI v3]) (r := fun q => some (VI q)) (M' := fun q => s2.2.2) (kInvS (dt_M_comes 49 _ _ _ rfl) kst_M_isLetter rfl) kl_M_233 md_M_isLetter rfl rfl (fun q hq => c_M_isLetter hS v3 s2.2.2 q hq) (fun q6 => ?_)
          refine s_if_eq (tgt := 109) (dt_M_comes 50 _ _ _ rfl) rfl ?_ ?_
          · refine s_iinc (dt_M_comes 64 _ _ _ rfl) rfl rfl ?_
            refine s_aload_n (dt_M_comes 65 _ _ _ rfl) rfl ?_
            refine s_getR (c := 1) (j := 36) (o := (some 410)) (dt_M_comes 66 _ _ _ rfl) (kf_M_98) (sc_382 hS) rfl rfl ?_
            refine s_iload_n (dt_M_comes 67 _ _ _ rfl) rfl ?_
            refine s_iconst (dt_M_comes 68 _ _ _ rfl) rfl ?_
            refine s_isub (dt_M_comes 69 _ _ _ rfl) ?_
            refine s_iload (dt_M_comes 70 _ _ _ rfl) rfl ?_
            refine s_aload_n (dt_M_comes 71 _ _ _ rfl) rfl ?_
            refine s_getR (c := 1) (j := 36) (o := (some 410)) (dt_M_comes 72 _ _ _ rfl) (kf_M_98) (sc_382 hS) rfl rfl ?_
            refine s_iload_n (dt_M_comes 73 _ _ _ rfl) rfl ?_
            refine s_iconst (dt_M_comes 74 _ _ _ rfl) rfl ?_
            refine s_isub (dt_M_comes 75 _ _ _ rfl) ?_
            refine s_iald (N := 60) (dt_M_comes 76 _ _ _ rfl) (sc_410 hS) rfl ?_
            refine s_aload_n (dt_M_comes 77 _ _ _ rfl) rfl ?_
            refine s_getR (c := 1) (j := 36) (o := (some 410)) (dt_M_comes 78 _ _ _ rfl) (kf_M_98) (sc_382 hS) rfl rfl ?_
            refine s_iload_n (dt_M_comes 79 _ _ _ rfl) rfl ?_
            refine s_iald (N := 60) (dt_M_comes 80 _ _ _ rfl) (sc_410 hS) rfl ?_
            refine s_callO (y := y_M_two) (Y' := Y_M_two) (as := [VI v3, VI (s2.2.2 410 (w32 ((w32 (s2.1 + (-1 : Int))) - (1 : Int))).toNat), VI (s2.2.2 410 (w32 (s2.1 + (-1 : Int))).toNat)]) (r := fun q => some (VI q)) (M' := fun q => s2.2.2) (kInvS (dt_M_comes 81 _ _ _ rfl) kst_M_two rfl) kl_M_381 md_M_two rfl rfl (fun q hq => c_M_two hS v3 (s2.2.2 410 (w32 ((w32 (s2.1 + (-1 : Int))) - (1 : Int))).toNat) (s2.2.2 410 (w32 (s2.1 + (-1 : Int))).toNat) s2.2.2 q hq) (fun q7 => ?_)
            refine s_iast (N := 60) (dt_M_comes 82 _ _ _ rfl) (sc_410 hS) rfl ?_
            refine s_letM (fun M8 => ?_)
            exact s_mask [true, true, true, true, false] (s_ret0 rfl)
          · refine s_aload_n (dt_M_comes 51 _ _ _ rfl) rfl ?_
            refine s_getR (c := 1) (j := 36) (o := (some 410)) (dt_M_comes 52 _ _ _ rfl) (kf_M_98) (sc_382 hS) rfl rfl ?_
            refine s_iload_n (dt_M_comes 53 _ _ _ rfl) rfl ?_
            refine s_aload_n (dt_M_comes 54 _ _ _ rfl) rfl ?_
            refine s_iload (dt_M_comes 55 _ _ _ rfl) rfl ?_
            refine s_aload_n (dt_M_comes 56 _ _ _ rfl) rfl ?_
            refine s_getR (c := 1) (j := 33) (o := (some 407)) (dt_M_comes 57 _ _ _ rfl) (kf_M_89) (sc_382 hS) rfl rfl ?_
            refine s_iload_n (dt_M_comes 58 _ _ _ rfl) rfl ?_
            refine s_iald (N := 1120) (dt_M_comes 59 _ _ _ rfl) (sc_407 hS) rfl ?_
            refine s_callO (y := y_M_asked) (Y' := Y_M_asked) (as := [VR (some 382), VI v3, VI (s2.2.2 407 (s2.2.1).toNat)]) (r := fun q => some (VI q)) (M' := fun q => s2.2.2) (kInvV (dt_M_comes 60 _ _ _ rfl) kin_M_asked 1 rfl (sc_382 hS) kse_M_asked rfl) kl_M_378 md_M_asked rfl rfl (fun q hq => c_M_asked hS v3 (s2.2.2 407 (s2.2.1).toNat) s2.2.2 q hq) (fun q9 => ?_)
            refine s_iast (N := 60) (dt_M_comes 61 _ _ _ rfl) (sc_410 hS) rfl ?_
            refine s_letM (fun M10 => ?_)
            refine s_iinc (dt_M_comes 62 _ _ _ rfl) rfl rfl ?_
            refine s_goto (tgt := 139) (dt_M_comes 63 _ _ _ rfl) rfl ?_
            exact s_mask [true, true, true, true, false] (s_ret0 rfl)
      refine s_iinc (dt_M_comes 83 _ _ _ rfl) rfl rfl ?_
      refine s_goto (tgt := 17) (dt_M_comes 84 _ _ _ rfl) rfl ?_
      exact s_mask [true, true, true, true, false] (s_ret0 rfl)
    · exact s_mask [true, false, false, false, false] (s_ret0 rfl)
  intro e12
  refine s_aload_n (dt_M_comes 85 _ _ _ rfl) rfl ?_
  refine s_getR (c := 1) (j := 36) (o := (some 410)) (dt_M_comes 86 _ _ _ rfl) (kf_M_98) (sc_382 hS) rfl rfl ?_
  refine s_iconst (dt_M_comes 87 _ _ _ rfl) rfl ?_
  refine s_iald (N := 60) (dt_M_comes 88 _ _ _ rfl) (sc_410 hS) rfl ?_
  exact s_iret (dt_M_comes 89 _ _ _ rfl) rfl rfl
theorem c_M_comes {S : KS} (hS : KExt 435 S)  (a0 : Int) (M : KM) : ∀ q, f_M_comes a0 M = some q → Ctr y_M_comes Y_M_comes [VR (some 382), VI a0] S M (some (VI q.1)) S (q.2) := fun q hq =>
  ctr_of md_M_comes (Nat.le_of_ble_eq_true rfl) ⟨Nat.le_refl _, Nat.le_refl _⟩ 3 hq rfl (fun _ G => sim_M_comes hS  a0 M)
set_option maxRecDepth 100000 in
theorem sim_M_wouldHave {G : Gam} {S : KS} (hS : KExt 435 S)  (a0 : Int) (a1 : Int) (a2 : Int) (M : KM) : Sim G Y_M_wouldHave (f_M_wouldHave a0 a1 a2 M) (kC 0 [some (VR (some 382)), some (VI a0), some (VI a1), some (VI a2)] [] S M) (fun (q : Int × KM) => Sum.inr (some (VI q.1), S, q.2)) := by
  unfold f_M_wouldHave
  refine s_aload_n (dt_M_wouldHave 0 _ _ _ rfl) rfl ?_
  refine s_iload_n (dt_M_wouldHave 1 _ _ _ rfl) rfl ?_
  refine s_putI (c := 1) (j := 43) (dt_M_wouldHave 2 _ _ _ rfl) kp_M_369 (sc_382 hS) ⟨rfl, rfl⟩ ?_
  refine s_letM (fun M1 => ?_)
  refine s_aload_n (dt_M_wouldHave 3 _ _ _ rfl) rfl ?_
  refine s_aload_n (dt_M_wouldHave 4 _ _ _ rfl) rfl ?_
  refine s_getR (c := 1) (j := 46) (o := (some 411)) (dt_M_wouldHave 5 _ _ _ rfl) (kf_M_101) (sc_382 hS) rfl rfl ?_
  refine s_bipush (dt_M_wouldHave 6 _ _ _ rfl) rfl ?_
  refine s_iload_n (dt_M_wouldHave 7 _ _ _ rfl) rfl ?_
  refine s_iadd (dt_M_wouldHave 8 _ _ _ rfl) ?_
  refine s_iald (N := 171) (dt_M_wouldHave 9 _ _ _ rfl) (sc_411 hS) rfl ?_
  refine s_putI (c := 1) (j := 44) (dt_M_wouldHave 10 _ _ _ rfl) kp_M_372 (sc_382 hS) ⟨rfl, rfl⟩ ?_
  refine s_letM (fun M2 => ?_)
  refine s_aload_n (dt_M_wouldHave 11 _ _ _ rfl) rfl ?_
  refine s_aload_n (dt_M_wouldHave 12 _ _ _ rfl) rfl ?_
  refine s_getR (c := 1) (j := 22) (o := (some 396)) (dt_M_wouldHave 13 _ _ _ rfl) (kf_M_54) (sc_382 hS) rfl rfl ?_
  refine s_bipush (dt_M_wouldHave 14 _ _ _ rfl) rfl ?_
  refine s_aload_n (dt_M_wouldHave 15 _ _ _ rfl) rfl ?_
  refine s_getI (c := 1) (j := 37) (dt_M_wouldHave 16 _ _ _ rfl) (kf_M_288) (sc_382 hS) rfl ?_
  refine s_imul (dt_M_wouldHave 17 _ _ _ rfl) ?_
  refine s_iload_n (dt_M_wouldHave 18 _ _ _ rfl) rfl ?_
  refine s_iadd (dt_M_wouldHave 19 _ _ _ rfl) ?_
  refine s_iald (N := 16) (dt_M_wouldHave 20 _ _ _ rfl) (sc_396 hS) rfl ?_
  refine s_putI (c := 1) (j := 45) (dt_M_wouldHave 21 _ _ _ rfl) kp_M_375 (sc_382 hS) ⟨rfl, rfl⟩ ?_
  refine s_letM (fun M3 => ?_)
  refine s_aload_n (dt_M_wouldHave 22 _ _ _ rfl) rfl ?_
  refine s_iload_n (dt_M_wouldHave 23 _ _ _ rfl) rfl ?_
  refine s_callO (y := y_M_isAlive) (Y' := Y_M_isAlive) (as := [VR (some 382), VI a0]) (r := fun q => some (VI q)) (M' := fun q => M3) (kInvV (dt_M_wouldHave 24 _ _ _ rfl) kin_M_isAlive 1 rfl (sc_382 hS) kse_M_isAlive rfl) kl_M_404 md_M_isAlive rfl rfl (fun q hq => c_M_isAlive hS a0 M3 q hq) (fun q4 => ?_)
  refine s_bd (κ := fun t6 => kC 57 [none, none, none, none] [VI t6.1] S t6.2) ?_ (fun t6 => ?_)
  · refine s_if_eq (tgt := 56) (dt_M_wouldHave 25 _ _ _ rfl) rfl ?_ ?_
    · refine s_iconst (dt_M_wouldHave 32 _ _ _ rfl) rfl ?_
      exact s_mask [false, false, false, false] (s_ret0 rfl)
    · refine s_aload_n (dt_M_wouldHave 26 _ _ _ rfl) rfl ?_
      refine s_iload_n (dt_M_wouldHave 27 _ _ _ rfl) rfl ?_
      refine s_callO (y := y_M_comes) (Y' := Y_M_comes) (as := [VR (some 382), VI a1]) (r := fun q => some (VI q.1)) (M' := fun q => q.2) (kInvV (dt_M_wouldHave 28 _ _ _ rfl) kin_M_comes 1 rfl (sc_382 hS) kse_M_comes rfl) kl_M_407 md_M_comes rfl rfl (fun q hq => c_M_comes hS a1 M3 q hq) (fun q5 => ?_)
      refine s_if_eq (tgt := 56) (dt_M_wouldHave 29 _ _ _ rfl) rfl ?_ ?_
      · refine s_iconst (dt_M_wouldHave 32 _ _ _ rfl) rfl ?_
        exact s_mask [false, false, false, false] (s_ret0 rfl)
      · refine s_iconst (dt_M_wouldHave 30 _ _ _ rfl) rfl ?_
        refine s_goto (tgt := 57) (dt_M_wouldHave 31 _ _ _ rfl) rfl ?_
        exact s_mask [false, false, false, false] (s_ret0 rfl)
  exact s_zret (dt_M_wouldHave 33 _ _ _ rfl) rfl rfl
theorem c_M_wouldHave {S : KS} (hS : KExt 435 S)  (a0 : Int) (a1 : Int) (a2 : Int) (M : KM) : ∀ q, f_M_wouldHave a0 a1 a2 M = some q → Ctr y_M_wouldHave Y_M_wouldHave [VR (some 382), VI a0, VI a1, VI a2] S M (some (VI q.1)) S (q.2) := fun q hq =>
  ctr_of md_M_wouldHave (Nat.le_of_ble_eq_true rfl) ⟨Nat.le_refl _, Nat.le_refl _⟩ 0 hq rfl (fun _ G => sim_M_wouldHave hS  a0 a1 a2 M)
set_option maxRecDepth 100000 in
theorem sim_M_doesHave {G : Gam} {S : KS} (hS : KExt 435 S)  (a0 : Int) (a1 : Int) (M : KM) : Sim G Y_M_doesHave (f_M_doesHave a0 a1 M) (kC 0 [some (VR (some 382)), some (VI a0), some (VI a1)] [] S M) (fun (q : Int × KM) => Sum.inr (some (VI q.1), S, q.2)) := by
  unfold f_M_doesHave
  refine s_aload_n (dt_M_doesHave 0 _ _ _ rfl) rfl ?_
  refine s_iload_n (dt_M_doesHave 1 _ _ _ rfl) rfl ?_
  refine s_iload_n (dt_M_doesHave 2 _ _ _ rfl) rfl ?_
  refine s_aload_n (dt_M_doesHave 3 _ _ _ rfl) rfl ?_
  refine s_getR (c := 1) (j := 46) (o := (some 411)) (dt_M_doesHave 4 _ _ _ rfl) (kf_M_101) (sc_382 hS) rfl rfl ?_
  refine s_iconst (dt_M_doesHave 5 _ _ _ rfl) rfl ?_
  refine s_iload_n (dt_M_doesHave 6 _ _ _ rfl) rfl ?_
  refine s_iadd (dt_M_doesHave 7 _ _ _ rfl) ?_
  refine s_iald (N := 171) (dt_M_doesHave 8 _ _ _ rfl) (sc_411 hS) rfl ?_
  refine s_callO (y := y_M_wouldHave) (Y' := Y_M_wouldHave) (as := [VR (some 382), VI a0, VI a1, VI (M 411 (w32 ((0 : Int) + a0)).toNat)]) (r := fun q => some (VI q.1)) (M' := fun q => q.2) (kInvV (dt_M_doesHave 9 _ _ _ rfl) kin_M_wouldHave 1 rfl (sc_382 hS) kse_M_wouldHave rfl) kl_M_410 md_M_wouldHave rfl rfl (fun q hq => c_M_wouldHave hS a0 a1 (M 411 (w32 ((0 : Int) + a0)).toNat) M q hq) (fun q1 => ?_)
  exact s_zret (dt_M_doesHave 10 _ _ _ rfl) rfl rfl
theorem c_M_doesHave {S : KS} (hS : KExt 435 S)  (a0 : Int) (a1 : Int) (M : KM) : ∀ q, f_M_doesHave a0 a1 M = some q → Ctr y_M_doesHave Y_M_doesHave [VR (some 382), VI a0, VI a1] S M (some (VI q.1)) S (q.2) := fun q hq =>
  ctr_of md_M_doesHave (Nat.le_of_ble_eq_true rfl) ⟨Nat.le_refl _, Nat.le_refl _⟩ 0 hq rfl (fun _ G => sim_M_doesHave hS  a0 a1 M)
set_option maxRecDepth 100000 in
theorem sim_M_isRight {G : Gam} {S : KS} (hS : KExt 435 S)  (a0 : Int) (M : KM) : Sim G Y_M_isRight (f_M_isRight a0 M) (kC 0 [some (VR (some 382)), some (VI a0)] [] S M) (fun (q : Int) => Sum.inr (some (VI q), S, M)) := by
  unfold f_M_isRight
  refine s_iload_n (dt_M_isRight 0 _ _ _ rfl) rfl ?_
  refine s_iconst (dt_M_isRight 1 _ _ _ rfl) rfl ?_
  refine s_aload_n (dt_M_isRight 2 _ _ _ rfl) rfl ?_
  refine s_getR (c := 1) (j := 13) (o := (some 387)) (dt_M_isRight 3 _ _ _ rfl) (kf_M_27) (sc_382 hS) rfl rfl ?_
  refine s_aload_n (dt_M_isRight 4 _ _ _ rfl) rfl ?_
  refine s_getI (c := 1) (j := 37) (dt_M_isRight 5 _ _ _ rfl) (kf_M_288) (sc_382 hS) rfl ?_
  refine s_iald (N := 2) (dt_M_isRight 6 _ _ _ rfl) (sc_387 hS) rfl ?_
  refine s_iconst (dt_M_isRight 7 _ _ _ rfl) rfl ?_
  refine s_isub (dt_M_isRight 8 _ _ _ rfl) ?_
  refine s_callO (y := y_M_isIn) (Y' := Y_M_isIn) (as := [VI a0, VI (0 : Int), VI (w32 ((M 387 (M 382 37).toNat) - (1 : Int)))]) (r := fun q => some (VI q)) (M' := fun q => M) (kInvS (dt_M_isRight 9 _ _ _ rfl) kst_M_isIn rfl) kl_M_388 md_M_isIn rfl rfl (fun q hq => c_M_isIn hS a0 (0 : Int) (w32 ((M 387 (M 382 37).toNat) - (1 : Int))) M q hq) (fun q1 => ?_)
  exact s_zret (dt_M_isRight 10 _ _ _ rfl) rfl rfl
theorem c_M_isRight {S : KS} (hS : KExt 435 S)  (a0 : Int) (M : KM) : ∀ q, f_M_isRight a0 M = some q → Ctr y_M_isRight Y_M_isRight [VR (some 382), VI a0] S M (some (VI q)) S (M) := fun q hq =>
  ctr_of md_M_isRight (Nat.le_of_ble_eq_true rfl) ⟨Nat.le_refl _, Nat.le_refl _⟩ 0 hq rfl (fun _ G => sim_M_isRight hS  a0 M)
set_option maxRecDepth 100000 in
theorem sim_M_has {G : Gam} {S : KS} (hS : KExt 435 S)  (a0 : Int) (a1 : Int) (M : KM) : Sim G Y_M_has (f_M_has a0 a1 M) (kC 0 [some (VR (some 382)), some (VI a0), some (VI a1)] [] S M) (fun (q : Int × KM) => Sum.inr (some (VI q.1), S, q.2)) := by
  unfold f_M_has
  refine s_aload_n (dt_M_has 0 _ _ _ rfl) rfl ?_
  refine s_iload_n (dt_M_has 1 _ _ _ rfl) rfl ?_
  refine s_callO (y := y_M_isPerson) (Y' := Y_M_isPerson) (as := [VR (some 382), VI a0]) (r := fun q => some (VI q)) (M' := fun q => M) (kInvV (dt_M_has 2 _ _ _ rfl) kin_M_isPerson 1 rfl (sc_382 hS) kse_M_isPerson rfl) kl_M_413 md_M_isPerson rfl rfl (fun q hq => c_M_isPerson hS a0 M q hq) (fun q1 => ?_)
  refine s_bd (κ := fun t4 => kC 34 [none, none, none] [VI t4.1] S t4.2) ?_ (fun t4 => ?_)
  · refine s_if_eq (tgt := 16) (dt_M_has 3 _ _ _ rfl) rfl ?_ ?_
    · refine s_iconst (dt_M_has 8 _ _ _ rfl) rfl ?_
      refine s_goto (tgt := 34) (dt_M_has 9 _ _ _ rfl) rfl ?_
      exact s_mask [false, false, false] (s_ret0 rfl)
    · refine s_aload_n (dt_M_has 4 _ _ _ rfl) rfl ?_
      refine s_iload_n (dt_M_has 5 _ _ _ rfl) rfl ?_
      refine s_callO (y := y_M_isRight) (Y' := Y_M_isRight) (as := [VR (some 382), VI a1]) (r := fun q => some (VI q)) (M' := fun q => M) (kInvV (dt_M_has 6 _ _ _ rfl) kin_M_isRight 1 rfl (sc_382 hS) kse_M_isRight rfl) kl_M_416 md_M_isRight rfl rfl (fun q hq => c_M_isRight hS a1 M q hq) (fun q2 => ?_)
      refine s_if_ne (tgt := 20) (dt_M_has 7 _ _ _ rfl) rfl ?_ ?_
      · refine s_iconst (dt_M_has 8 _ _ _ rfl) rfl ?_
        refine s_goto (tgt := 34) (dt_M_has 9 _ _ _ rfl) rfl ?_
        exact s_mask [false, false, false] (s_ret0 rfl)
      · refine s_aload_n (dt_M_has 10 _ _ _ rfl) rfl ?_
        refine s_iload_n (dt_M_has 11 _ _ _ rfl) rfl ?_
        refine s_iload_n (dt_M_has 12 _ _ _ rfl) rfl ?_
        refine s_callO (y := y_M_doesHave) (Y' := Y_M_doesHave) (as := [VR (some 382), VI a0, VI a1]) (r := fun q => some (VI q.1)) (M' := fun q => q.2) (kInvV (dt_M_has 13 _ _ _ rfl) kin_M_doesHave 1 rfl (sc_382 hS) kse_M_doesHave rfl) kl_M_419 md_M_doesHave rfl rfl (fun q hq => c_M_doesHave hS a0 a1 M q hq) (fun q3 => ?_)
        refine s_if_eq (tgt := 33) (dt_M_has 14 _ _ _ rfl) rfl ?_ ?_
        · refine s_iconst (dt_M_has 17 _ _ _ rfl) rfl ?_
          exact s_mask [false, false, false] (s_ret0 rfl)
        · refine s_iconst (dt_M_has 15 _ _ _ rfl) rfl ?_
          refine s_goto (tgt := 34) (dt_M_has 16 _ _ _ rfl) rfl ?_
          exact s_mask [false, false, false] (s_ret0 rfl)
  exact s_iret (dt_M_has 18 _ _ _ rfl) rfl rfl
theorem c_M_has {S : KS} (hS : KExt 435 S)  (a0 : Int) (a1 : Int) (M : KM) : ∀ q, f_M_has a0 a1 M = some q → Ctr y_M_has Y_M_has [VR (some 382), VI a0, VI a1] S M (some (VI q.1)) S (q.2) := fun q hq =>
  ctr_of md_M_has (Nat.le_of_ble_eq_true rfl) ⟨Nat.le_refl _, Nat.le_refl _⟩ 0 hq rfl (fun _ G => sim_M_has hS  a0 a1 M)
set_option maxRecDepth 100000 in
theorem sim_M_isAge {G : Gam} {S : KS} (hS : KExt 435 S)  (a0 : Int) (M : KM) : Sim G Y_M_isAge (f_M_isAge a0 M) (kC 0 [some (VR (some 382)), some (VI a0)] [] S M) (fun (q : Int) => Sum.inr (some (VI q), S, M)) := by
  unfold f_M_isAge
  refine s_iload_n (dt_M_isAge 0 _ _ _ rfl) rfl ?_
  refine s_aload_n (dt_M_isAge 1 _ _ _ rfl) rfl ?_
  refine s_getR (c := 1) (j := 16) (o := (some 390)) (dt_M_isAge 2 _ _ _ rfl) (kf_M_36) (sc_382 hS) rfl rfl ?_
  refine s_aload_n (dt_M_isAge 3 _ _ _ rfl) rfl ?_
  refine s_getI (c := 1) (j := 37) (dt_M_isAge 4 _ _ _ rfl) (kf_M_288) (sc_382 hS) rfl ?_
  refine s_iald (N := 2) (dt_M_isAge 5 _ _ _ rfl) (sc_390 hS) rfl ?_
  refine s_aload_n (dt_M_isAge 6 _ _ _ rfl) rfl ?_
  refine s_getR (c := 1) (j := 17) (o := (some 391)) (dt_M_isAge 7 _ _ _ rfl) (kf_M_39) (sc_382 hS) rfl rfl ?_
  refine s_aload_n (dt_M_isAge 8 _ _ _ rfl) rfl ?_
  refine s_getI (c := 1) (j := 37) (dt_M_isAge 9 _ _ _ rfl) (kf_M_288) (sc_382 hS) rfl ?_
  refine s_iald (N := 2) (dt_M_isAge 10 _ _ _ rfl) (sc_391 hS) rfl ?_
  refine s_callO (y := y_M_isIn) (Y' := Y_M_isIn) (as := [VI a0, VI (M 390 (M 382 37).toNat), VI (M 391 (M 382 37).toNat)]) (r := fun q => some (VI q)) (M' := fun q => M) (kInvS (dt_M_isAge 11 _ _ _ rfl) kst_M_isIn rfl) kl_M_388 md_M_isIn rfl rfl (fun q hq => c_M_isIn hS a0 (M 390 (M 382 37).toNat) (M 391 (M 382 37).toNat) M q hq) (fun q1 => ?_)
  exact s_zret (dt_M_isAge 12 _ _ _ rfl) rfl rfl
theorem c_M_isAge {S : KS} (hS : KExt 435 S)  (a0 : Int) (M : KM) : ∀ q, f_M_isAge a0 M = some q → Ctr y_M_isAge Y_M_isAge [VR (some 382), VI a0] S M (some (VI q)) S (M) := fun q hq =>
  ctr_of md_M_isAge (Nat.le_of_ble_eq_true rfl) ⟨Nat.le_refl _, Nat.le_refl _⟩ 0 hq rfl (fun _ G => sim_M_isAge hS  a0 M)
set_option maxRecDepth 100000 in
theorem sim_M_oddsOf {G : Gam} {S : KS} (hS : KExt 435 S)  (a0 : Int) (M : KM) : Sim G Y_M_oddsOf (f_M_oddsOf a0 M) (kC 0 [some (VR (some 382)), some (VI a0), none] [] S M) (fun (q : Int × KM) => Sum.inr (some (VI q.1), S, q.2)) := by
  unfold f_M_oddsOf
  refine s_aload_n (dt_M_oddsOf 0 _ _ _ rfl) rfl ?_
  refine s_getR (c := 1) (j := 29) (o := (some 403)) (dt_M_oddsOf 1 _ _ _ rfl) (kf_M_76) (sc_382 hS) rfl rfl ?_
  refine s_bipush (dt_M_oddsOf 2 _ _ _ rfl) rfl ?_
  refine s_aload_n (dt_M_oddsOf 3 _ _ _ rfl) rfl ?_
  refine s_getI (c := 1) (j := 37) (dt_M_oddsOf 4 _ _ _ rfl) (kf_M_288) (sc_382 hS) rfl ?_
  refine s_imul (dt_M_oddsOf 5 _ _ _ rfl) ?_
  refine s_bipush (dt_M_oddsOf 6 _ _ _ rfl) rfl ?_
  refine s_iadd (dt_M_oddsOf 7 _ _ _ rfl) ?_
  refine s_zald (N := 14) (dt_M_oddsOf 8 _ _ _ rfl) (sc_403 hS) rfl ?_
  refine s_if_ne (tgt := 20) (dt_M_oddsOf 9 _ _ _ rfl) rfl ?_ ?_
  · refine s_iconst (dt_M_oddsOf 10 _ _ _ rfl) rfl ?_
    exact s_iret (dt_M_oddsOf 11 _ _ _ rfl) rfl rfl
  · refine s_aload_n (dt_M_oddsOf 12 _ _ _ rfl) rfl ?_
    refine s_iload_n (dt_M_oddsOf 13 _ _ _ rfl) rfl ?_
    refine s_putI (c := 1) (j := 43) (dt_M_oddsOf 14 _ _ _ rfl) kp_M_369 (sc_382 hS) ⟨rfl, rfl⟩ ?_
    refine s_letM (fun M1 => ?_)
    refine s_aload_n (dt_M_oddsOf 15 _ _ _ rfl) rfl ?_
    refine s_iconst (dt_M_oddsOf 16 _ _ _ rfl) rfl ?_
    refine s_putI (c := 1) (j := 44) (dt_M_oddsOf 17 _ _ _ rfl) kp_M_372 (sc_382 hS) ⟨rfl, rfl⟩ ?_
    refine s_letM (fun M2 => ?_)
    refine s_aload_n (dt_M_oddsOf 18 _ _ _ rfl) rfl ?_
    refine s_iconst (dt_M_oddsOf 19 _ _ _ rfl) rfl ?_
    refine s_putI (c := 1) (j := 45) (dt_M_oddsOf 20 _ _ _ rfl) kp_M_375 (sc_382 hS) ⟨rfl, rfl⟩ ?_
    refine s_letM (fun M3 => ?_)
    refine s_aload_n (dt_M_oddsOf 21 _ _ _ rfl) rfl ?_
    refine s_bipush (dt_M_oddsOf 22 _ _ _ rfl) rfl ?_
    refine s_callO (y := y_M_comes) (Y' := Y_M_comes) (as := [VR (some 382), VI (6 : Int)]) (r := fun q => some (VI q.1)) (M' := fun q => q.2) (kInvV (dt_M_oddsOf 23 _ _ _ rfl) kin_M_comes 1 rfl (sc_382 hS) kse_M_comes rfl) kl_M_407 md_M_comes rfl rfl (fun q hq => c_M_comes hS (6 : Int) M3 q hq) (fun q4 => ?_)
    refine s_istore_n (dt_M_oddsOf 24 _ _ _ rfl) rfl ?_
    refine s_iload_n (dt_M_oddsOf 25 _ _ _ rfl) rfl ?_
    refine s_bd (κ := fun t5 => kC 62 [none, none, none] [VI t5] S q4.2) ?_ (fun t5 => ?_)
    · refine s_if_ge (tgt := 50) (dt_M_oddsOf 26 _ _ _ rfl) rfl ?_ ?_
      · refine s_iconst (dt_M_oddsOf 27 _ _ _ rfl) rfl ?_
        refine s_goto (tgt := 62) (dt_M_oddsOf 28 _ _ _ rfl) rfl ?_
        exact s_mask [false, false, false] (s_ret0 rfl)
      · refine s_iload_n (dt_M_oddsOf 29 _ _ _ rfl) rfl ?_
        refine s_bipush (dt_M_oddsOf 30 _ _ _ rfl) rfl ?_
        refine s_if_icmp_le (tgt := 61) (dt_M_oddsOf 31 _ _ _ rfl) rfl ?_ ?_
        · refine s_iload_n (dt_M_oddsOf 34 _ _ _ rfl) rfl ?_
          exact s_mask [false, false, false] (s_ret0 rfl)
        · refine s_bipush (dt_M_oddsOf 32 _ _ _ rfl) rfl ?_
          refine s_goto (tgt := 62) (dt_M_oddsOf 33 _ _ _ rfl) rfl ?_
          exact s_mask [false, false, false] (s_ret0 rfl)
    exact s_iret (dt_M_oddsOf 35 _ _ _ rfl) rfl rfl
theorem c_M_oddsOf {S : KS} (hS : KExt 435 S)  (a0 : Int) (M : KM) : ∀ q, f_M_oddsOf a0 M = some q → Ctr y_M_oddsOf Y_M_oddsOf [VR (some 382), VI a0] S M (some (VI q.1)) S (q.2) := fun q hq =>
  ctr_of md_M_oddsOf (Nat.le_of_ble_eq_true rfl) ⟨Nat.le_refl _, Nat.le_refl _⟩ 1 hq rfl (fun _ G => sim_M_oddsOf hS  a0 M)
set_option maxRecDepth 100000 in
theorem sim_M_odds {G : Gam} {S : KS} (hS : KExt 435 S)  (a0 : Int) (M : KM) : Sim G Y_M_odds (f_M_odds a0 M) (kC 0 [some (VR (some 382)), some (VI a0)] [] S M) (fun (q : Int × KM) => Sum.inr (some (VI q.1), S, q.2)) := by
  unfold f_M_odds
  refine s_aload_n (dt_M_odds 0 _ _ _ rfl) rfl ?_
  refine s_iload_n (dt_M_odds 1 _ _ _ rfl) rfl ?_
  refine s_callO (y := y_M_isAge) (Y' := Y_M_isAge) (as := [VR (some 382), VI a0]) (r := fun q => some (VI q)) (M' := fun q => M) (kInvV (dt_M_odds 2 _ _ _ rfl) kin_M_isAge 1 rfl (sc_382 hS) kse_M_isAge rfl) kl_M_422 md_M_isAge rfl rfl (fun q hq => c_M_isAge hS a0 M q hq) (fun q1 => ?_)
  refine s_bd (κ := fun t3 => kC 17 [none, none] [VI t3.1] S t3.2) ?_ (fun t3 => ?_)
  · refine s_if_eq (tgt := 16) (dt_M_odds 3 _ _ _ rfl) rfl ?_ ?_
    · refine s_iconst (dt_M_odds 8 _ _ _ rfl) rfl ?_
      exact s_mask [false, false] (s_ret0 rfl)
    · refine s_aload_n (dt_M_odds 4 _ _ _ rfl) rfl ?_
      refine s_iload_n (dt_M_odds 5 _ _ _ rfl) rfl ?_
      refine s_callO (y := y_M_oddsOf) (Y' := Y_M_oddsOf) (as := [VR (some 382), VI a0]) (r := fun q => some (VI q.1)) (M' := fun q => q.2) (kInvV (dt_M_odds 6 _ _ _ rfl) kin_M_oddsOf 1 rfl (sc_382 hS) kse_M_oddsOf rfl) kl_M_425 md_M_oddsOf rfl rfl (fun q hq => c_M_oddsOf hS a0 M q hq) (fun q2 => ?_)
      refine s_goto (tgt := 17) (dt_M_odds 7 _ _ _ rfl) rfl ?_
      exact s_mask [false, false] (s_ret0 rfl)
  exact s_iret (dt_M_odds 9 _ _ _ rfl) rfl rfl
theorem c_M_odds {S : KS} (hS : KExt 435 S)  (a0 : Int) (M : KM) : ∀ q, f_M_odds a0 M = some q → Ctr y_M_odds Y_M_odds [VR (some 382), VI a0] S M (some (VI q.1)) S (q.2) := fun q hq =>
  ctr_of md_M_odds (Nat.le_of_ble_eq_true rfl) ⟨Nat.le_refl _, Nat.le_refl _⟩ 0 hq rfl (fun _ G => sim_M_odds hS  a0 M)
