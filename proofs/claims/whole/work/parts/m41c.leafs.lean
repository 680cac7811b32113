/-! CONSTRUCTORS that make rows only -/
theorem kw_objI : Cond.instanceMethod Lib.objectInit ∈ tbg := tb_at 168 (by decide +kernel)
theorem kw_objC : Cond.code Lib.objectInit ⟨#[0xb1]⟩ 1 none ∈ tbg := tb_at 169 (by decide +kernel)
theorem ko_Formulas_3 : Cond.methodLink "YearHands$Formulas" 3 Lib.objectInit ∈ tbg := tb_at 181 (by decide +kernel)
theorem kaI : Cond.arrayClass .int ∈ tbg := tb_at 199 (by decide +kernel)
theorem kv_Formulas_9 : (4 < 13 ∧ 0 < kN 4) ∧ Cond.fieldLink "YearHands$Formulas" 9 (kT 4 0).1 (kT 4 0).2.1 (kT 4 0).2.2.1 ∈ tbg := ⟨⟨by decide, by decide⟩, tb_at 182 (by decide +kernel)⟩
theorem kv_Formulas_15 : (4 < 13 ∧ 2 < kN 4) ∧ Cond.fieldLink "YearHands$Formulas" 15 (kT 4 2).1 (kT 4 2).2.1 (kT 4 2).2.2.1 ∈ tbg := ⟨⟨by decide, by decide⟩, tb_at 187 (by decide +kernel)⟩
theorem ko_State_3 : Cond.methodLink "YearHands$State" 3 Lib.objectInit ∈ tbg := tb_at 382 (by decide +kernel)
theorem kv_State_9 : (10 < 13 ∧ 0 < kN 10) ∧ Cond.fieldLink "YearHands$State" 9 (kT 10 0).1 (kT 10 0).2.1 (kT 10 0).2.2.1 ∈ tbg := ⟨⟨by decide, by decide⟩, tb_at 383 (by decide +kernel)⟩
theorem kv_State_15 : (10 < 13 ∧ 1 < kN 10) ∧ Cond.fieldLink "YearHands$State" 15 (kT 10 1).1 (kT 10 1).2.1 (kT 10 1).2.2.1 ∈ tbg := ⟨⟨by decide, by decide⟩, tb_at 387 (by decide +kernel)⟩
theorem kv_State_18 : (10 < 13 ∧ 9 < kN 10) ∧ Cond.fieldLink "YearHands$State" 18 (kT 10 9).1 (kT 10 9).2.1 (kT 10 9).2.2.1 ∈ tbg := ⟨⟨by decide, by decide⟩, tb_at 408 (by decide +kernel)⟩
theorem kv_State_21 : (10 < 13 ∧ 10 < kN 10) ∧ Cond.fieldLink "YearHands$State" 21 (kT 10 10).1 (kT 10 10).2.1 (kT 10 10).2.2.1 ∈ tbg := ⟨⟨by decide, by decide⟩, tb_at 411 (by decide +kernel)⟩
theorem kv_State_24 : (10 < 13 ∧ 11 < kN 10) ∧ Cond.fieldLink "YearHands$State" 24 (kT 10 11).1 (kT 10 11).2.1 (kT 10 11).2.2.1 ∈ tbg := ⟨⟨by decide, by decide⟩, tb_at 414 (by decide +kernel)⟩
theorem kv_State_27 : (10 < 13 ∧ 12 < kN 10) ∧ Cond.fieldLink "YearHands$State" 27 (kT 10 12).1 (kT 10 12).2.1 (kT 10 12).2.2.1 ∈ tbg := ⟨⟨by decide, by decide⟩, tb_at 417 (by decide +kernel)⟩
theorem ko_Tokens_3 : Cond.methodLink "YearHands$Tokens" 3 Lib.objectInit ∈ tbg := tb_at 312 (by decide +kernel)
theorem kv_Tokens_9 : (11 < 13 ∧ 0 < kN 11) ∧ Cond.fieldLink "YearHands$Tokens" 9 (kT 11 0).1 (kT 11 0).2.1 (kT 11 0).2.2.1 ∈ tbg := ⟨⟨by decide, by decide⟩, tb_at 313 (by decide +kernel)⟩
theorem kv_Tokens_15 : (11 < 13 ∧ 1 < kN 11) ∧ Cond.fieldLink "YearHands$Tokens" 15 (kT 11 1).1 (kT 11 1).2.1 (kT 11 1).2.2.1 ∈ tbg := ⟨⟨by decide, by decide⟩, tb_at 315 (by decide +kernel)⟩
theorem kv_Tokens_18 : (11 < 13 ∧ 2 < kN 11) ∧ Cond.fieldLink "YearHands$Tokens" 18 (kT 11 2).1 (kT 11 2).2.1 (kT 11 2).2.2.1 ∈ tbg := ⟨⟨by decide, by decide⟩, tb_at 317 (by decide +kernel)⟩
theorem kaJ : Cond.arrayClass .long ∈ tbg := tb_at 336 (by decide +kernel)
theorem kv_Tokens_21 : (11 < 13 ∧ 3 < kN 11) ∧ Cond.fieldLink "YearHands$Tokens" 21 (kT 11 3).1 (kT 11 3).2.1 (kT 11 3).2.2.1 ∈ tbg := ⟨⟨by decide, by decide⟩, tb_at 319 (by decide +kernel)⟩
theorem ko_Debts_3 : Cond.methodLink "YearHands$Debts" 3 Lib.objectInit ∈ tbg := tb_at 505 (by decide +kernel)
theorem kv_Debts_9 : (2 < 13 ∧ 0 < kN 2) ∧ Cond.fieldLink "YearHands$Debts" 9 (kT 2 0).1 (kT 2 0).2.1 (kT 2 0).2.2.1 ∈ tbg := ⟨⟨by decide, by decide⟩, tb_at 506 (by decide +kernel)⟩
theorem kv_Debts_15 : (2 < 13 ∧ 2 < kN 2) ∧ Cond.fieldLink "YearHands$Debts" 15 (kT 2 2).1 (kT 2 2).2.1 (kT 2 2).2.2.1 ∈ tbg := ⟨⟨by decide, by decide⟩, tb_at 509 (by decide +kernel)⟩
theorem kv_Debts_18 : (2 < 13 ∧ 3 < kN 2) ∧ Cond.fieldLink "YearHands$Debts" 18 (kT 2 3).1 (kT 2 3).2.1 (kT 2 3).2.2.1 ∈ tbg := ⟨⟨by decide, by decide⟩, tb_at 510 (by decide +kernel)⟩
theorem kv_Debts_21 : (2 < 13 ∧ 4 < kN 2) ∧ Cond.fieldLink "YearHands$Debts" 21 (kT 2 4).1 (kT 2 4).2.1 (kT 2 4).2.2.1 ∈ tbg := ⟨⟨by decide, by decide⟩, tb_at 511 (by decide +kernel)⟩
theorem ko_Roads_3 : Cond.methodLink "YearHands$Roads" 3 Lib.objectInit ∈ tbg := tb_at 475 (by decide +kernel)
theorem kv_Roads_9 : (8 < 13 ∧ 0 < kN 8) ∧ Cond.fieldLink "YearHands$Roads" 9 (kT 8 0).1 (kT 8 0).2.1 (kT 8 0).2.2.1 ∈ tbg := ⟨⟨by decide, by decide⟩, tb_at 476 (by decide +kernel)⟩
theorem kv_Roads_15 : (8 < 13 ∧ 1 < kN 8) ∧ Cond.fieldLink "YearHands$Roads" 15 (kT 8 1).1 (kT 8 1).2.1 (kT 8 1).2.2.1 ∈ tbg := ⟨⟨by decide, by decide⟩, tb_at 478 (by decide +kernel)⟩
theorem kv_Roads_18 : (8 < 13 ∧ 2 < kN 8) ∧ Cond.fieldLink "YearHands$Roads" 18 (kT 8 2).1 (kT 8 2).2.1 (kT 8 2).2.2.1 ∈ tbg := ⟨⟨by decide, by decide⟩, tb_at 480 (by decide +kernel)⟩
theorem kv_Roads_21 : (8 < 13 ∧ 3 < kN 8) ∧ Cond.fieldLink "YearHands$Roads" 21 (kT 8 3).1 (kT 8 3).2.1 (kT 8 3).2.2.1 ∈ tbg := ⟨⟨by decide, by decide⟩, tb_at 481 (by decide +kernel)⟩
theorem kv_Roads_24 : (8 < 13 ∧ 4 < kN 8) ∧ Cond.fieldLink "YearHands$Roads" 24 (kT 8 4).1 (kT 8 4).2.1 (kT 8 4).2.2.1 ∈ tbg := ⟨⟨by decide, by decide⟩, tb_at 482 (by decide +kernel)⟩
theorem kv_Roads_27 : (8 < 13 ∧ 5 < kN 8) ∧ Cond.fieldLink "YearHands$Roads" 27 (kT 8 5).1 (kT 8 5).2.1 (kT 8 5).2.2.1 ∈ tbg := ⟨⟨by decide, by decide⟩, tb_at 483 (by decide +kernel)⟩
theorem kv_Roads_30 : (8 < 13 ∧ 6 < kN 8) ∧ Cond.fieldLink "YearHands$Roads" 30 (kT 8 6).1 (kT 8 6).2.1 (kT 8 6).2.2.1 ∈ tbg := ⟨⟨by decide, by decide⟩, tb_at 484 (by decide +kernel)⟩
theorem ko_Safety_3 : Cond.methodLink "YearHands$Safety" 3 Lib.objectInit ∈ tbg := tb_at 528 (by decide +kernel)
theorem kv_Safety_9 : (9 < 13 ∧ 0 < kN 9) ∧ Cond.fieldLink "YearHands$Safety" 9 (kT 9 0).1 (kT 9 0).2.1 (kT 9 0).2.2.1 ∈ tbg := ⟨⟨by decide, by decide⟩, tb_at 529 (by decide +kernel)⟩
theorem kv_Safety_15 : (9 < 13 ∧ 1 < kN 9) ∧ Cond.fieldLink "YearHands$Safety" 15 (kT 9 1).1 (kT 9 1).2.1 (kT 9 1).2.2.1 ∈ tbg := ⟨⟨by decide, by decide⟩, tb_at 531 (by decide +kernel)⟩
theorem kv_Safety_18 : (9 < 13 ∧ 2 < kN 9) ∧ Cond.fieldLink "YearHands$Safety" 18 (kT 9 2).1 (kT 9 2).2.1 (kT 9 2).2.2.1 ∈ tbg := ⟨⟨by decide, by decide⟩, tb_at 533 (by decide +kernel)⟩
theorem ko_Faces_3 : Cond.methodLink "YearHands$Faces" 3 Lib.objectInit ∈ tbg := tb_at 552 (by decide +kernel)
theorem kv_Faces_9 : (3 < 13 ∧ 0 < kN 3) ∧ Cond.fieldLink "YearHands$Faces" 9 (kT 3 0).1 (kT 3 0).2.1 (kT 3 0).2.2.1 ∈ tbg := ⟨⟨by decide, by decide⟩, tb_at 553 (by decide +kernel)⟩
theorem kv_Faces_15 : (3 < 13 ∧ 1 < kN 3) ∧ Cond.fieldLink "YearHands$Faces" 15 (kT 3 1).1 (kT 3 1).2.1 (kT 3 1).2.2.1 ∈ tbg := ⟨⟨by decide, by decide⟩, tb_at 555 (by decide +kernel)⟩
theorem kv_Faces_18 : (3 < 13 ∧ 2 < kN 3) ∧ Cond.fieldLink "YearHands$Faces" 18 (kT 3 2).1 (kT 3 2).2.1 (kT 3 2).2.2.1 ∈ tbg := ⟨⟨by decide, by decide⟩, tb_at 557 (by decide +kernel)⟩
theorem kv_Faces_22 : (3 < 13 ∧ 3 < kN 3) ∧ Cond.fieldLink "YearHands$Faces" 22 (kT 3 3).1 (kT 3 3).2.1 (kT 3 3).2.2.1 ∈ tbg := ⟨⟨by decide, by decide⟩, tb_at 558 (by decide +kernel)⟩
theorem kv_Faces_25 : (3 < 13 ∧ 4 < kN 3) ∧ Cond.fieldLink "YearHands$Faces" 25 (kT 3 4).1 (kT 3 4).2.1 (kT 3 4).2.2.1 ∈ tbg := ⟨⟨by decide, by decide⟩, tb_at 559 (by decide +kernel)⟩
theorem kv_Faces_28 : (3 < 13 ∧ 5 < kN 3) ∧ Cond.fieldLink "YearHands$Faces" 28 (kT 3 5).1 (kT 3 5).2.1 (kT 3 5).2.2.1 ∈ tbg := ⟨⟨by decide, by decide⟩, tb_at 560 (by decide +kernel)⟩
theorem kv_Faces_31 : (3 < 13 ∧ 6 < kN 3) ∧ Cond.fieldLink "YearHands$Faces" 31 (kT 3 6).1 (kT 3 6).2.1 (kT 3 6).2.2.1 ∈ tbg := ⟨⟨by decide, by decide⟩, tb_at 561 (by decide +kernel)⟩
theorem kv_Faces_34 : (3 < 13 ∧ 7 < kN 3) ∧ Cond.fieldLink "YearHands$Faces" 34 (kT 3 7).1 (kT 3 7).2.1 (kT 3 7).2.2.1 ∈ tbg := ⟨⟨by decide, by decide⟩, tb_at 563 (by decide +kernel)⟩
theorem kv_Faces_37 : (3 < 13 ∧ 8 < kN 3) ∧ Cond.fieldLink "YearHands$Faces" 37 (kT 3 8).1 (kT 3 8).2.1 (kT 3 8).2.2.1 ∈ tbg := ⟨⟨by decide, by decide⟩, tb_at 565 (by decide +kernel)⟩
theorem ko_Gifts_3 : Cond.methodLink "YearHands$Gifts" 3 Lib.objectInit ∈ tbg := tb_at 591 (by decide +kernel)
theorem kv_Gifts_9 : (5 < 13 ∧ 2 < kN 5) ∧ Cond.fieldLink "YearHands$Gifts" 9 (kT 5 2).1 (kT 5 2).2.1 (kT 5 2).2.2.1 ∈ tbg := ⟨⟨by decide, by decide⟩, tb_at 596 (by decide +kernel)⟩
theorem kv_Gifts_15 : (5 < 13 ∧ 5 < kN 5) ∧ Cond.fieldLink "YearHands$Gifts" 15 (kT 5 5).1 (kT 5 5).2.1 (kT 5 5).2.2.1 ∈ tbg := ⟨⟨by decide, by decide⟩, tb_at 602 (by decide +kernel)⟩
theorem kv_Gifts_18 : (5 < 13 ∧ 6 < kN 5) ∧ Cond.fieldLink "YearHands$Gifts" 18 (kT 5 6).1 (kT 5 6).2.1 (kT 5 6).2.2.1 ∈ tbg := ⟨⟨by decide, by decide⟩, tb_at 603 (by decide +kernel)⟩
theorem kv_Gifts_21 : (5 < 13 ∧ 7 < kN 5) ∧ Cond.fieldLink "YearHands$Gifts" 21 (kT 5 7).1 (kT 5 7).2.1 (kT 5 7).2.2.1 ∈ tbg := ⟨⟨by decide, by decide⟩, tb_at 604 (by decide +kernel)⟩
def y_Formulas_init : MethodName := ⟨"YearHands$Formulas", "<init>", "()V"⟩
abbrev Y_Formulas_init : KY := ("YearHands$Formulas", prog_4_method_1_code, 1, none, 1)
def D_Formulas_init : List (Nat × Instr × Nat) := [(0, .aload_n 0, 1), (1, .invokespecial 3, 3), (4, .aload_n 0, 1), (5, .sipush 1600, 3), (8, .newarray .int, 2), (10, .putfield 9, 3), (13, .aload_n 0, 1), (14, .bipush 31, 2), (16, .newarray .int, 2), (18, .putfield 15, 3), (21, .return_, 1)]
theorem dt_Formulas_init : kDec prog_4_method_1_code D_Formulas_init := kDec_of (by decide +kernel)
theorem md_Formulas_init : KMd y_Formulas_init Y_Formulas_init 0 := ⟨⟨tb_at 180 (by decide +kernel), tb_at 143 (by decide +kernel)⟩, rfl, ⟨by decide, by decide, by decide⟩, by decide +kernel, by decide⟩
theorem kin_Formulas_init : Cond.instanceMethod y_Formulas_init ∈ tbg := tb_at 179 (by decide +kernel)
def y_State_init : MethodName := ⟨"YearHands$State", "<init>", "()V"⟩
abbrev Y_State_init : KY := ("YearHands$State", prog_10_method_1_code, 1, none, 1)
def D_State_init : List (Nat × Instr × Nat) := [(0, .aload_n 0, 1), (1, .invokespecial 3, 3), (4, .aload_n 0, 1), (5, .bipush 8, 2), (7, .newarray .int, 2), (9, .putfield 9, 3), (12, .aload_n 0, 1), (13, .bipush 8, 2), (15, .newarray .int, 2), (17, .putfield 15, 3), (20, .aload_n 0, 1), (21, .bipush 30, 2), (23, .newarray .int, 2), (25, .putfield 18, 3), (28, .aload_n 0, 1), (29, .bipush 30, 2), (31, .newarray .int, 2), (33, .putfield 21, 3), (36, .aload_n 0, 1), (37, .bipush 30, 2), (39, .newarray .int, 2), (41, .putfield 24, 3), (44, .aload_n 0, 1), (45, .bipush 30, 2), (47, .newarray .int, 2), (49, .putfield 27, 3), (52, .return_, 1)]
theorem dt_State_init : kDec prog_10_method_1_code D_State_init := kDec_of (by decide +kernel)
theorem md_State_init : KMd y_State_init Y_State_init 0 := ⟨⟨tb_at 381 (by decide +kernel), tb_at 146 (by decide +kernel)⟩, rfl, ⟨by decide, by decide, by decide⟩, by decide +kernel, by decide⟩
theorem kin_State_init : Cond.instanceMethod y_State_init ∈ tbg := tb_at 380 (by decide +kernel)
def y_Tokens_init : MethodName := ⟨"YearHands$Tokens", "<init>", "()V"⟩
abbrev Y_Tokens_init : KY := ("YearHands$Tokens", prog_11_method_1_code, 1, none, 1)
def D_Tokens_init : List (Nat × Instr × Nat) := [(0, .aload_n 0, 1), (1, .invokespecial 3, 3), (4, .aload_n 0, 1), (5, .sipush 1601, 3), (8, .newarray .int, 2), (10, .putfield 9, 3), (13, .aload_n 0, 1), (14, .sipush 1601, 3), (17, .newarray .int, 2), (19, .putfield 15, 3), (22, .aload_n 0, 1), (23, .sipush 1601, 3), (26, .newarray .int, 2), (28, .putfield 18, 3), (31, .aload_n 0, 1), (32, .sipush 1601, 3), (35, .newarray .long, 2), (37, .putfield 21, 3), (40, .return_, 1)]
theorem dt_Tokens_init : kDec prog_11_method_1_code D_Tokens_init := kDec_of (by decide +kernel)
theorem md_Tokens_init : KMd y_Tokens_init Y_Tokens_init 0 := ⟨⟨tb_at 311 (by decide +kernel), tb_at 145 (by decide +kernel)⟩, rfl, ⟨by decide, by decide, by decide⟩, by decide +kernel, by decide⟩
theorem kin_Tokens_init : Cond.instanceMethod y_Tokens_init ∈ tbg := tb_at 310 (by decide +kernel)
def y_Debts_init : MethodName := ⟨"YearHands$Debts", "<init>", "()V"⟩
abbrev Y_Debts_init : KY := ("YearHands$Debts", prog_2_method_1_code, 1, none, 1)
def D_Debts_init : List (Nat × Instr × Nat) := [(0, .aload_n 0, 1), (1, .invokespecial 3, 3), (4, .aload_n 0, 1), (5, .bipush 8, 2), (7, .newarray .int, 2), (9, .putfield 9, 3), (12, .aload_n 0, 1), (13, .sipush 256, 3), (16, .newarray .int, 2), (18, .putfield 15, 3), (21, .aload_n 0, 1), (22, .sipush 256, 3), (25, .newarray .int, 2), (27, .putfield 18, 3), (30, .aload_n 0, 1), (31, .bipush 8, 2), (33, .newarray .int, 2), (35, .putfield 21, 3), (38, .return_, 1)]
theorem dt_Debts_init : kDec prog_2_method_1_code D_Debts_init := kDec_of (by decide +kernel)
theorem md_Debts_init : KMd y_Debts_init Y_Debts_init 0 := ⟨⟨tb_at 504 (by decide +kernel), tb_at 149 (by decide +kernel)⟩, rfl, ⟨by decide, by decide, by decide⟩, by decide +kernel, by decide⟩
theorem kin_Debts_init : Cond.instanceMethod y_Debts_init ∈ tbg := tb_at 503 (by decide +kernel)
def y_Roads_init : MethodName := ⟨"YearHands$Roads", "<init>", "()V"⟩
abbrev Y_Roads_init : KY := ("YearHands$Roads", prog_8_method_1_code, 1, none, 1)
def D_Roads_init : List (Nat × Instr × Nat) := [(0, .aload_n 0, 1), (1, .invokespecial 3, 3), (4, .aload_n 0, 1), (5, .bipush 8, 2), (7, .newarray .int, 2), (9, .putfield 9, 3), (12, .aload_n 0, 1), (13, .sipush 151, 3), (16, .newarray .int, 2), (18, .putfield 15, 3), (21, .aload_n 0, 1), (22, .bipush 64, 2), (24, .newarray .int, 2), (26, .putfield 18, 3), (29, .aload_n 0, 1), (30, .bipush 8, 2), (32, .newarray .int, 2), (34, .putfield 21, 3), (37, .aload_n 0, 1), (38, .bipush 20, 2), (40, .newarray .int, 2), (42, .putfield 24, 3), (45, .aload_n 0, 1), (46, .bipush 8, 2), (48, .newarray .int, 2), (50, .putfield 27, 3), (53, .aload_n 0, 1), (54, .bipush 8, 2), (56, .newarray .int, 2), (58, .putfield 30, 3), (61, .return_, 1)]
theorem dt_Roads_init : kDec prog_8_method_1_code D_Roads_init := kDec_of (by decide +kernel)
theorem md_Roads_init : KMd y_Roads_init Y_Roads_init 0 := ⟨⟨tb_at 474 (by decide +kernel), tb_at 148 (by decide +kernel)⟩, rfl, ⟨by decide, by decide, by decide⟩, by decide +kernel, by decide⟩
theorem kin_Roads_init : Cond.instanceMethod y_Roads_init ∈ tbg := tb_at 473 (by decide +kernel)
def y_Safety_init : MethodName := ⟨"YearHands$Safety", "<init>", "()V"⟩
abbrev Y_Safety_init : KY := ("YearHands$Safety", prog_9_method_1_code, 1, none, 1)
def D_Safety_init : List (Nat × Instr × Nat) := [(0, .aload_n 0, 1), (1, .invokespecial 3, 3), (4, .aload_n 0, 1), (5, .sipush 151, 3), (8, .newarray .int, 2), (10, .putfield 9, 3), (13, .aload_n 0, 1), (14, .bipush 8, 2), (16, .newarray .int, 2), (18, .putfield 15, 3), (21, .aload_n 0, 1), (22, .sipush 10809, 3), (25, .newarray .int, 2), (27, .putfield 18, 3), (30, .return_, 1)]
theorem dt_Safety_init : kDec prog_9_method_1_code D_Safety_init := kDec_of (by decide +kernel)
theorem md_Safety_init : KMd y_Safety_init Y_Safety_init 0 := ⟨⟨tb_at 527 (by decide +kernel), tb_at 150 (by decide +kernel)⟩, rfl, ⟨by decide, by decide, by decide⟩, by decide +kernel, by decide⟩
theorem kin_Safety_init : Cond.instanceMethod y_Safety_init ∈ tbg := tb_at 526 (by decide +kernel)
def y_Faces_init : MethodName := ⟨"YearHands$Faces", "<init>", "()V"⟩
abbrev Y_Faces_init : KY := ("YearHands$Faces", prog_3_method_1_code, 1, none, 1)
def D_Faces_init : List (Nat × Instr × Nat) := [(0, .aload_n 0, 1), (1, .invokespecial 3, 3), (4, .aload_n 0, 1), (5, .iconst 0, 1), (6, .putfield 9, 3), (9, .aload_n 0, 1), (10, .iconst 0, 1), (11, .putfield 15, 3), (14, .aload_n 0, 1), (15, .bipush 30, 2), (17, .newarray .int, 2), (19, .putfield 18, 3), (22, .aload_n 0, 1), (23, .bipush 30, 2), (25, .newarray .int, 2), (27, .putfield 22, 3), (30, .aload_n 0, 1), (31, .bipush 30, 2), (33, .newarray .int, 2), (35, .putfield 25, 3), (38, .aload_n 0, 1), (39, .bipush 30, 2), (41, .newarray .int, 2), (43, .putfield 28, 3), (46, .aload_n 0, 1), (47, .iconst 0, 1), (48, .putfield 31, 3), (51, .aload_n 0, 1), (52, .bipush 8, 2), (54, .newarray .int, 2), (56, .putfield 34, 3), (59, .aload_n 0, 1), (60, .iconst 0, 1), (61, .putfield 37, 3), (64, .return_, 1)]
theorem dt_Faces_init : kDec prog_3_method_1_code D_Faces_init := kDec_of (by decide +kernel)
theorem md_Faces_init : KMd y_Faces_init Y_Faces_init 0 := ⟨⟨tb_at 551 (by decide +kernel), tb_at 151 (by decide +kernel)⟩, rfl, ⟨by decide, by decide, by decide⟩, by decide +kernel, by decide⟩
theorem kin_Faces_init : Cond.instanceMethod y_Faces_init ∈ tbg := tb_at 550 (by decide +kernel)
def y_Gifts_init : MethodName := ⟨"YearHands$Gifts", "<init>", "()V"⟩
abbrev Y_Gifts_init : KY := ("YearHands$Gifts", prog_5_method_1_code, 1, none, 1)
def D_Gifts_init : List (Nat × Instr × Nat) := [(0, .aload_n 0, 1), (1, .invokespecial 3, 3), (4, .aload_n 0, 1), (5, .iconst 4, 1), (6, .newarray .int, 2), (8, .putfield 9, 3), (11, .aload_n 0, 1), (12, .iconst 4, 1), (13, .newarray .int, 2), (15, .putfield 15, 3), (18, .aload_n 0, 1), (19, .bipush 8, 2), (21, .newarray .int, 2), (23, .putfield 18, 3), (26, .aload_n 0, 1), (27, .bipush 8, 2), (29, .newarray .int, 2), (31, .putfield 21, 3), (34, .return_, 1)]
theorem dt_Gifts_init : kDec prog_5_method_1_code D_Gifts_init := kDec_of (by decide +kernel)
theorem md_Gifts_init : KMd y_Gifts_init Y_Gifts_init 0 := ⟨⟨tb_at 590 (by decide +kernel), tb_at 152 (by decide +kernel)⟩, rfl, ⟨by decide, by decide, by decide⟩, by decide +kernel, by decide⟩
theorem kin_Gifts_init : Cond.instanceMethod y_Gifts_init ∈ tbg := tb_at 589 (by decide +kernel)
def blk_Formulas (n : Nat) : KS := ((4, 4), [some (n + (1 + 0)), none, some (n + (1 + 1)), none]) :: (([] ++ [((20, 1600), [])]) ++ [((20, 31), [])])
theorem bl_Formulas (n : Nat) : (blk_Formulas n).length = 3 ∧ ksz (blk_Formulas n) = 1635 := ap0 (w := 4) rfl (ap1 (j' := 2) (z' := 1631) (ap1 (j' := 1) (z' := 1600) apN rfl rfl) rfl rfl) rfl rfl
set_option maxRecDepth 100000 in
theorem ci_Formulas {S1 : KS} {n : Nat} (hn : S1.length = n) {M : KM} (hz : kblk M n) : Cin y_Formulas_init Y_Formulas_init S1 ((4, kN 4), List.replicate (kN 4) none) M (blk_Formulas n) (M) := by
  subst hn
  unfold Cin
  have l1 : (S1 ++ [((4, kN 4), List.replicate (kN 4) none)]).length = S1.length + 1 := by rw [List.length_append]; rfl
  have l2 : (S1 ++ blk_Formulas S1.length).length = S1.length + 3 := by rw [List.length_append, (bl_Formulas _).1]
  have z1 : ksz (S1 ++ [((4, kN 4), List.replicate (kN 4) (none : Option Nat))]) = ksz S1 + 4 := by rw [ksz_app]; rfl
  have z2 : ksz (S1 ++ blk_Formulas S1.length) = ksz S1 + 1635 := by rw [ksz_app, (bl_Formulas _).2]
  refine ctr_ofL (α := Unit) (e := some ()) (a := ()) (κ := fun _ => .inr (none, S1 ++ blk_Formulas S1.length, M)) md_Formulas_init (Nat.le_of_ble_eq_true rfl) (by rw [l1, l2, z1, z2]; omega) 0 rfl rfl (fun _ G hG hi0 => ?_)
  have hi := hi0 rfl
  have g1 : G.2.2.1.2.2.1 = S1.length + 3 := by rw [hG]; exact l2
  have g2 : G.2.2.1.2.2.2 = ksz S1 + 1635 := by rw [hG]; exact z2
  show Sim G Y_Formulas_init (some ()) (kC 0 [some (VR (some S1.length))] [] (S1 ++ (((4, kN 4), List.replicate (kN 4) none) :: [])) M) _
  refine s_aload_n (dt_Formulas_init 0 _ _ _ rfl) rfl ?_
  refine s_objInit (dt_Formulas_init 1 _ _ _ rfl) ko_Formulas_3 ⟨kw_objI, kw_objC⟩ rfl ?_
  refine s_aload_n (dt_Formulas_init 2 _ _ _ rfl) rfl ?_
  refine s_sipush (dt_Formulas_init 3 _ _ _ rfl) rfl ?_
  refine i_newI (j := 0) (z := 0) (w := 4) (n := 1600) (dt_Formulas_init 4 _ _ _ rfl) rfl (by decide) kaI ⟨(apN).1, (apN).2, rfl⟩ (hz.up (m := S1.length + (1 + 0)) (by omega)) ⟨by omega, by omega⟩ ?_
  refine i_putR hi (dt_Formulas_init 5 _ _ _ rfl) kv_Formulas_9 rfl ⟨rfl, rfl⟩ rfl ?_
  refine s_aload_n (dt_Formulas_init 6 _ _ _ rfl) rfl ?_
  refine s_bipush (dt_Formulas_init 7 _ _ _ rfl) rfl ?_
  refine i_newI (j := 1) (z := 1600) (w := 4) (n := 31) (dt_Formulas_init 8 _ _ _ rfl) rfl (by decide) kaI ⟨((ap1 (j' := 1) (z' := 1600) apN rfl rfl)).1, ((ap1 (j' := 1) (z' := 1600) apN rfl rfl)).2, rfl⟩ (hz.up (m := S1.length + (1 + 1)) (by omega)) ⟨by omega, by omega⟩ ?_
  refine i_putR hi (dt_Formulas_init 9 _ _ _ rfl) kv_Formulas_15 rfl ⟨rfl, rfl⟩ rfl ?_
  exact s_vret (dt_Formulas_init 10 _ _ _ rfl) rfl rfl
def blk_State (n : Nat) : KS := ((10, 13), [some (n + (1 + 0)), some (n + (1 + 1)), none, none, none, none, none, none, none, some (n + (1 + 2)), some (n + (1 + 3)), some (n + (1 + 4)), some (n + (1 + 5))]) :: (((((([] ++ [((20, 8), [])]) ++ [((20, 8), [])]) ++ [((20, 30), [])]) ++ [((20, 30), [])]) ++ [((20, 30), [])]) ++ [((20, 30), [])])
theorem bl_State (n : Nat) : (blk_State n).length = 7 ∧ ksz (blk_State n) = 149 := ap0 (w := 13) rfl (ap1 (j' := 6) (z' := 136) (ap1 (j' := 5) (z' := 106) (ap1 (j' := 4) (z' := 76) (ap1 (j' := 3) (z' := 46) (ap1 (j' := 2) (z' := 16) (ap1 (j' := 1) (z' := 8) apN rfl rfl) rfl rfl) rfl rfl) rfl rfl) rfl rfl) rfl rfl) rfl rfl
set_option maxRecDepth 100000 in
theorem ci_State {S1 : KS} {n : Nat} (hn : S1.length = n) {M : KM} (hz : kblk M n) : Cin y_State_init Y_State_init S1 ((10, kN 10), List.replicate (kN 10) none) M (blk_State n) (M) := by
  subst hn
  unfold Cin
  have l1 : (S1 ++ [((10, kN 10), List.replicate (kN 10) none)]).length = S1.length + 1 := by rw [List.length_append]; rfl
  have l2 : (S1 ++ blk_State S1.length).length = S1.length + 7 := by rw [List.length_append, (bl_State _).1]
  have z1 : ksz (S1 ++ [((10, kN 10), List.replicate (kN 10) (none : Option Nat))]) = ksz S1 + 13 := by rw [ksz_app]; rfl
  have z2 : ksz (S1 ++ blk_State S1.length) = ksz S1 + 149 := by rw [ksz_app, (bl_State _).2]
  refine ctr_ofL (α := Unit) (e := some ()) (a := ()) (κ := fun _ => .inr (none, S1 ++ blk_State S1.length, M)) md_State_init (Nat.le_of_ble_eq_true rfl) (by rw [l1, l2, z1, z2]; omega) 0 rfl rfl (fun _ G hG hi0 => ?_)
  have hi := hi0 rfl
  have g1 : G.2.2.1.2.2.1 = S1.length + 7 := by rw [hG]; exact l2
  have g2 : G.2.2.1.2.2.2 = ksz S1 + 149 := by rw [hG]; exact z2
  show Sim G Y_State_init (some ()) (kC 0 [some (VR (some S1.length))] [] (S1 ++ (((10, kN 10), List.replicate (kN 10) none) :: [])) M) _
  refine s_aload_n (dt_State_init 0 _ _ _ rfl) rfl ?_
  refine s_objInit (dt_State_init 1 _ _ _ rfl) ko_State_3 ⟨kw_objI, kw_objC⟩ rfl ?_
  refine s_aload_n (dt_State_init 2 _ _ _ rfl) rfl ?_
  refine s_bipush (dt_State_init 3 _ _ _ rfl) rfl ?_
  refine i_newI (j := 0) (z := 0) (w := 13) (n := 8) (dt_State_init 4 _ _ _ rfl) rfl (by decide) kaI ⟨(apN).1, (apN).2, rfl⟩ (hz.up (m := S1.length + (1 + 0)) (by omega)) ⟨by omega, by omega⟩ ?_
  refine i_putR hi (dt_State_init 5 _ _ _ rfl) kv_State_9 rfl ⟨rfl, rfl⟩ rfl ?_
  refine s_aload_n (dt_State_init 6 _ _ _ rfl) rfl ?_
  refine s_bipush (dt_State_init 7 _ _ _ rfl) rfl ?_
  refine i_newI (j := 1) (z := 8) (w := 13) (n := 8) (dt_State_init 8 _ _ _ rfl) rfl (by decide) kaI ⟨((ap1 (j' := 1) (z' := 8) apN rfl rfl)).1, ((ap1 (j' := 1) (z' := 8) apN rfl rfl)).2, rfl⟩ (hz.up (m := S1.length + (1 + 1)) (by omega)) ⟨by omega, by omega⟩ ?_
  refine i_putR hi (dt_State_init 9 _ _ _ rfl) kv_State_15 rfl ⟨rfl, rfl⟩ rfl ?_
  refine s_aload_n (dt_State_init 10 _ _ _ rfl) rfl ?_
  refine s_bipush (dt_State_init 11 _ _ _ rfl) rfl ?_
  refine i_newI (j := 2) (z := 16) (w := 13) (n := 30) (dt_State_init 12 _ _ _ rfl) rfl (by decide) kaI ⟨((ap1 (j' := 2) (z' := 16) (ap1 (j' := 1) (z' := 8) apN rfl rfl) rfl rfl)).1, ((ap1 (j' := 2) (z' := 16) (ap1 (j' := 1) (z' := 8) apN rfl rfl) rfl rfl)).2, rfl⟩ (hz.up (m := S1.length + (1 + 2)) (by omega)) ⟨by omega, by omega⟩ ?_
  refine i_putR hi (dt_State_init 13 _ _ _ rfl) kv_State_18 rfl ⟨rfl, rfl⟩ rfl ?_
  refine s_aload_n (dt_State_init 14 _ _ _ rfl) rfl ?_
  refine s_bipush (dt_State_init 15 _ _ _ rfl) rfl ?_
  refine i_newI (j := 3) (z := 46) (w := 13) (n := 30) (dt_State_init 16 _ _ _ rfl) rfl (by decide) kaI ⟨((ap1 (j' := 3) (z' := 46) (ap1 (j' := 2) (z' := 16) (ap1 (j' := 1) (z' := 8) apN rfl rfl) rfl rfl) rfl rfl)).1, ((ap1 (j' := 3) (z' := 46) (ap1 (j' := 2) (z' := 16) (ap1 (j' := 1) (z' := 8) apN rfl rfl) rfl rfl) rfl rfl)).2, rfl⟩ (hz.up (m := S1.length + (1 + 3)) (by omega)) ⟨by omega, by omega⟩ ?_
  refine i_putR hi (dt_State_init 17 _ _ _ rfl) kv_State_21 rfl ⟨rfl, rfl⟩ rfl ?_
  refine s_aload_n (dt_State_init 18 _ _ _ rfl) rfl ?_
  refine s_bipush (dt_State_init 19 _ _ _ rfl) rfl ?_
  refine i_newI (j := 4) (z := 76) (w := 13) (n := 30) (dt_State_init 20 _ _ _ rfl) rfl (by decide) kaI ⟨((ap1 (j' := 4) (z' := 76) (ap1 (j' := 3) (z' := 46) (ap1 (j' := 2) (z' := 16) (ap1 (j' := 1) (z' := 8) apN rfl rfl) rfl rfl) rfl rfl) rfl rfl)).1, ((ap1 (j' := 4) (z' := 76) (ap1 (j' := 3) (z' := 46) (ap1 (j' := 2) (z' := 16) (ap1 (j' := 1) (z' := 8) apN rfl rfl) rfl rfl) rfl rfl) rfl rfl)).2, rfl⟩ (hz.up (m := S1.length + (1 + 4)) (by omega)) ⟨by omega, by omega⟩ ?_
  refine i_putR hi (dt_State_init 21 _ _ _ rfl) kv_State_24 rfl ⟨rfl, rfl⟩ rfl ?_
  refine s_aload_n (dt_State_init 22 _ _ _ rfl) rfl ?_
  refine s_bipush (dt_State_init 23 _ _ _ rfl) rfl ?_
  refine i_newI (j := 5) (z := 106) (w := 13) (n := 30) (dt_State_init 24 _ _ _ rfl) rfl (by decide) kaI ⟨((ap1 (j' := 5) (z' := 106) (ap1 (j' := 4) (z' := 76) (ap1 (j' := 3) (z' := 46) (ap1 (j' := 2) (z' := 16) (ap1 (j' := 1) (z' := 8) apN rfl rfl) rfl rfl) rfl rfl) rfl rfl) rfl rfl)).1, ((ap1 (j' := 5) (z' := 106) (ap1 (j' := 4) (z' := 76) (ap1 (j' := 3) (z' := 46) (ap1 (j' := 2) (z' := 16) (ap1 (j' := 1) (z' := 8) apN rfl rfl) rfl rfl) rfl rfl) rfl rfl) rfl rfl)).2, rfl⟩ (hz.up (m := S1.length + (1 + 5)) (by omega)) ⟨by omega, by omega⟩ ?_
  refine i_putR hi (dt_State_init 25 _ _ _ rfl) kv_State_27 rfl ⟨rfl, rfl⟩ rfl ?_
  exact s_vret (dt_State_init 26 _ _ _ rfl) rfl rfl
def blk_Tokens (n : Nat) : KS := ((11, 6), [some (n + (1 + 0)), some (n + (1 + 1)), some (n + (1 + 2)), some (n + (1 + 3)), none, none]) :: (((([] ++ [((20, 1601), [])]) ++ [((20, 1601), [])]) ++ [((20, 1601), [])]) ++ [((21, 1601), [])])
theorem bl_Tokens (n : Nat) : (blk_Tokens n).length = 5 ∧ ksz (blk_Tokens n) = 6410 := ap0 (w := 6) rfl (ap1 (j' := 4) (z' := 6404) (ap1 (j' := 3) (z' := 4803) (ap1 (j' := 2) (z' := 3202) (ap1 (j' := 1) (z' := 1601) apN rfl rfl) rfl rfl) rfl rfl) rfl rfl) rfl rfl
set_option maxRecDepth 100000 in
theorem ci_Tokens {S1 : KS} {n : Nat} (hn : S1.length = n) {M : KM} (hz : kblk M n) : Cin y_Tokens_init Y_Tokens_init S1 ((11, kN 11), List.replicate (kN 11) none) M (blk_Tokens n) (M) := by
  subst hn
  unfold Cin
  have l1 : (S1 ++ [((11, kN 11), List.replicate (kN 11) none)]).length = S1.length + 1 := by rw [List.length_append]; rfl
  have l2 : (S1 ++ blk_Tokens S1.length).length = S1.length + 5 := by rw [List.length_append, (bl_Tokens _).1]
  have z1 : ksz (S1 ++ [((11, kN 11), List.replicate (kN 11) (none : Option Nat))]) = ksz S1 + 6 := by rw [ksz_app]; rfl
  have z2 : ksz (S1 ++ blk_Tokens S1.length) = ksz S1 + 6410 := by rw [ksz_app, (bl_Tokens _).2]
  refine ctr_ofL (α := Unit) (e := some ()) (a := ()) (κ := fun _ => .inr (none, S1 ++ blk_Tokens S1.length, M)) md_Tokens_init (Nat.le_of_ble_eq_true rfl) (by rw [l1, l2, z1, z2]; omega) 0 rfl rfl (fun _ G hG hi0 => ?_)
  have hi := hi0 rfl
  have g1 : G.2.2.1.2.2.1 = S1.length + 5 := by rw [hG]; exact l2
  have g2 : G.2.2.1.2.2.2 = ksz S1 + 6410 := by rw [hG]; exact z2
  show Sim G Y_Tokens_init (some ()) (kC 0 [some (VR (some S1.length))] [] (S1 ++ (((11, kN 11), List.replicate (kN 11) none) :: [])) M) _
  refine s_aload_n (dt_Tokens_init 0 _ _ _ rfl) rfl ?_
  refine s_objInit (dt_Tokens_init 1 _ _ _ rfl) ko_Tokens_3 ⟨kw_objI, kw_objC⟩ rfl ?_
  refine s_aload_n (dt_Tokens_init 2 _ _ _ rfl) rfl ?_
  refine s_sipush (dt_Tokens_init 3 _ _ _ rfl) rfl ?_
  refine i_newI (j := 0) (z := 0) (w := 6) (n := 1601) (dt_Tokens_init 4 _ _ _ rfl) rfl (by decide) kaI ⟨(apN).1, (apN).2, rfl⟩ (hz.up (m := S1.length + (1 + 0)) (by omega)) ⟨by omega, by omega⟩ ?_
  refine i_putR hi (dt_Tokens_init 5 _ _ _ rfl) kv_Tokens_9 rfl ⟨rfl, rfl⟩ rfl ?_
  refine s_aload_n (dt_Tokens_init 6 _ _ _ rfl) rfl ?_
  refine s_sipush (dt_Tokens_init 7 _ _ _ rfl) rfl ?_
  refine i_newI (j := 1) (z := 1601) (w := 6) (n := 1601) (dt_Tokens_init 8 _ _ _ rfl) rfl (by decide) kaI ⟨((ap1 (j' := 1) (z' := 1601) apN rfl rfl)).1, ((ap1 (j' := 1) (z' := 1601) apN rfl rfl)).2, rfl⟩ (hz.up (m := S1.length + (1 + 1)) (by omega)) ⟨by omega, by omega⟩ ?_
  refine i_putR hi (dt_Tokens_init 9 _ _ _ rfl) kv_Tokens_15 rfl ⟨rfl, rfl⟩ rfl ?_
  refine s_aload_n (dt_Tokens_init 10 _ _ _ rfl) rfl ?_
  refine s_sipush (dt_Tokens_init 11 _ _ _ rfl) rfl ?_
  refine i_newI (j := 2) (z := 3202) (w := 6) (n := 1601) (dt_Tokens_init 12 _ _ _ rfl) rfl (by decide) kaI ⟨((ap1 (j' := 2) (z' := 3202) (ap1 (j' := 1) (z' := 1601) apN rfl rfl) rfl rfl)).1, ((ap1 (j' := 2) (z' := 3202) (ap1 (j' := 1) (z' := 1601) apN rfl rfl) rfl rfl)).2, rfl⟩ (hz.up (m := S1.length + (1 + 2)) (by omega)) ⟨by omega, by omega⟩ ?_
  refine i_putR hi (dt_Tokens_init 13 _ _ _ rfl) kv_Tokens_18 rfl ⟨rfl, rfl⟩ rfl ?_
  refine s_aload_n (dt_Tokens_init 14 _ _ _ rfl) rfl ?_
  refine s_sipush (dt_Tokens_init 15 _ _ _ rfl) rfl ?_
  refine i_newJ (j := 3) (z := 4803) (w := 6) (n := 1601) (dt_Tokens_init 16 _ _ _ rfl) rfl (by decide) kaJ ⟨((ap1 (j' := 3) (z' := 4803) (ap1 (j' := 2) (z' := 3202) (ap1 (j' := 1) (z' := 1601) apN rfl rfl) rfl rfl) rfl rfl)).1, ((ap1 (j' := 3) (z' := 4803) (ap1 (j' := 2) (z' := 3202) (ap1 (j' := 1) (z' := 1601) apN rfl rfl) rfl rfl) rfl rfl)).2, rfl⟩ (hz.up (m := S1.length + (1 + 3)) (by omega)) ⟨by omega, by omega⟩ ?_
  refine i_putR hi (dt_Tokens_init 17 _ _ _ rfl) kv_Tokens_21 rfl ⟨rfl, rfl⟩ rfl ?_
  exact s_vret (dt_Tokens_init 18 _ _ _ rfl) rfl rfl
def blk_Debts (n : Nat) : KS := ((2, 5), [some (n + (1 + 0)), none, some (n + (1 + 1)), some (n + (1 + 2)), some (n + (1 + 3))]) :: (((([] ++ [((20, 8), [])]) ++ [((20, 256), [])]) ++ [((20, 256), [])]) ++ [((20, 8), [])])
theorem bl_Debts (n : Nat) : (blk_Debts n).length = 5 ∧ ksz (blk_Debts n) = 533 := ap0 (w := 5) rfl (ap1 (j' := 4) (z' := 528) (ap1 (j' := 3) (z' := 520) (ap1 (j' := 2) (z' := 264) (ap1 (j' := 1) (z' := 8) apN rfl rfl) rfl rfl) rfl rfl) rfl rfl) rfl rfl
set_option maxRecDepth 100000 in
theorem ci_Debts {S1 : KS} {n : Nat} (hn : S1.length = n) {M : KM} (hz : kblk M n) : Cin y_Debts_init Y_Debts_init S1 ((2, kN 2), List.replicate (kN 2) none) M (blk_Debts n) (M) := by
  subst hn
  unfold Cin
  have l1 : (S1 ++ [((2, kN 2), List.replicate (kN 2) none)]).length = S1.length + 1 := by rw [List.length_append]; rfl
  have l2 : (S1 ++ blk_Debts S1.length).length = S1.length + 5 := by rw [List.length_append, (bl_Debts _).1]
  have z1 : ksz (S1 ++ [((2, kN 2), List.replicate (kN 2) (none : Option Nat))]) = ksz S1 + 5 := by rw [ksz_app]; rfl
  have z2 : ksz (S1 ++ blk_Debts S1.length) = ksz S1 + 533 := by rw [ksz_app, (bl_Debts _).2]
  refine ctr_ofL (α := Unit) (e := some ()) (a := ()) (κ := fun _ => .inr (none, S1 ++ blk_Debts S1.length, M)) md_Debts_init (Nat.le_of_ble_eq_true rfl) (by rw [l1, l2, z1, z2]; omega) 0 rfl rfl (fun _ G hG hi0 => ?_)
  have hi := hi0 rfl
  have g1 : G.2.2.1.2.2.1 = S1.length + 5 := by rw [hG]; exact l2
  have g2 : G.2.2.1.2.2.2 = ksz S1 + 533 := by rw [hG]; exact z2
  show Sim G Y_Debts_init (some ()) (kC 0 [some (VR (some S1.length))] [] (S1 ++ (((2, kN 2), List.replicate (kN 2) none) :: [])) M) _
  refine s_aload_n (dt_Debts_init 0 _ _ _ rfl) rfl ?_
  refine s_objInit (dt_Debts_init 1 _ _ _ rfl) ko_Debts_3 ⟨kw_objI, kw_objC⟩ rfl ?_
  refine s_aload_n (dt_Debts_init 2 _ _ _ rfl) rfl ?_
  refine s_bipush (dt_Debts_init 3 _ _ _ rfl) rfl ?_
  refine i_newI (j := 0) (z := 0) (w := 5) (n := 8) (dt_Debts_init 4 _ _ _ rfl) rfl (by decide) kaI ⟨(apN).1, (apN).2, rfl⟩ (hz.up (m := S1.length + (1 + 0)) (by omega)) ⟨by omega, by omega⟩ ?_
  refine i_putR hi (dt_Debts_init 5 _ _ _ rfl) kv_Debts_9 rfl ⟨rfl, rfl⟩ rfl ?_
  refine s_aload_n (dt_Debts_init 6 _ _ _ rfl) rfl ?_
  refine s_sipush (dt_Debts_init 7 _ _ _ rfl) rfl ?_
  refine i_newI (j := 1) (z := 8) (w := 5) (n := 256) (dt_Debts_init 8 _ _ _ rfl) rfl (by decide) kaI ⟨((ap1 (j' := 1) (z' := 8) apN rfl rfl)).1, ((ap1 (j' := 1) (z' := 8) apN rfl rfl)).2, rfl⟩ (hz.up (m := S1.length + (1 + 1)) (by omega)) ⟨by omega, by omega⟩ ?_
  refine i_putR hi (dt_Debts_init 9 _ _ _ rfl) kv_Debts_15 rfl ⟨rfl, rfl⟩ rfl ?_
  refine s_aload_n (dt_Debts_init 10 _ _ _ rfl) rfl ?_
  refine s_sipush (dt_Debts_init 11 _ _ _ rfl) rfl ?_
  refine i_newI (j := 2) (z := 264) (w := 5) (n := 256) (dt_Debts_init 12 _ _ _ rfl) rfl (by decide) kaI ⟨((ap1 (j' := 2) (z' := 264) (ap1 (j' := 1) (z' := 8) apN rfl rfl) rfl rfl)).1, ((ap1 (j' := 2) (z' := 264) (ap1 (j' := 1) (z' := 8) apN rfl rfl) rfl rfl)).2, rfl⟩ (hz.up (m := S1.length + (1 + 2)) (by omega)) ⟨by omega, by omega⟩ ?_
  refine i_putR hi (dt_Debts_init 13 _ _ _ rfl) kv_Debts_18 rfl ⟨rfl, rfl⟩ rfl ?_
  refine s_aload_n (dt_Debts_init 14 _ _ _ rfl) rfl ?_
  refine s_bipush (dt_Debts_init 15 _ _ _ rfl) rfl ?_
  refine i_newI (j := 3) (z := 520) (w := 5) (n := 8) (dt_Debts_init 16 _ _ _ rfl) rfl (by decide) kaI ⟨((ap1 (j' := 3) (z' := 520) (ap1 (j' := 2) (z' := 264) (ap1 (j' := 1) (z' := 8) apN rfl rfl) rfl rfl) rfl rfl)).1, ((ap1 (j' := 3) (z' := 520) (ap1 (j' := 2) (z' := 264) (ap1 (j' := 1) (z' := 8) apN rfl rfl) rfl rfl) rfl rfl)).2, rfl⟩ (hz.up (m := S1.length + (1 + 3)) (by omega)) ⟨by omega, by omega⟩ ?_
  refine i_putR hi (dt_Debts_init 17 _ _ _ rfl) kv_Debts_21 rfl ⟨rfl, rfl⟩ rfl ?_
  exact s_vret (dt_Debts_init 18 _ _ _ rfl) rfl rfl
def blk_Roads (n : Nat) : KS := ((8, 7), [some (n + (1 + 0)), some (n + (1 + 1)), some (n + (1 + 2)), some (n + (1 + 3)), some (n + (1 + 4)), some (n + (1 + 5)), some (n + (1 + 6))]) :: ((((((([] ++ [((20, 8), [])]) ++ [((20, 151), [])]) ++ [((20, 64), [])]) ++ [((20, 8), [])]) ++ [((20, 20), [])]) ++ [((20, 8), [])]) ++ [((20, 8), [])])
theorem bl_Roads (n : Nat) : (blk_Roads n).length = 8 ∧ ksz (blk_Roads n) = 274 := ap0 (w := 7) rfl (ap1 (j' := 7) (z' := 267) (ap1 (j' := 6) (z' := 259) (ap1 (j' := 5) (z' := 251) (ap1 (j' := 4) (z' := 231) (ap1 (j' := 3) (z' := 223) (ap1 (j' := 2) (z' := 159) (ap1 (j' := 1) (z' := 8) apN rfl rfl) rfl rfl) rfl rfl) rfl rfl) rfl rfl) rfl rfl) rfl rfl) rfl rfl
set_option maxRecDepth 100000 in
theorem ci_Roads {S1 : KS} {n : Nat} (hn : S1.length = n) {M : KM} (hz : kblk M n) : Cin y_Roads_init Y_Roads_init S1 ((8, kN 8), List.replicate (kN 8) none) M (blk_Roads n) (M) := by
  subst hn
  unfold Cin
  have l1 : (S1 ++ [((8, kN 8), List.replicate (kN 8) none)]).length = S1.length + 1 := by rw [List.length_append]; rfl
  have l2 : (S1 ++ blk_Roads S1.length).length = S1.length + 8 := by rw [List.length_append, (bl_Roads _).1]
  have z1 : ksz (S1 ++ [((8, kN 8), List.replicate (kN 8) (none : Option Nat))]) = ksz S1 + 7 := by rw [ksz_app]; rfl
  have z2 : ksz (S1 ++ blk_Roads S1.length) = ksz S1 + 274 := by rw [ksz_app, (bl_Roads _).2]
  refine ctr_ofL (α := Unit) (e := some ()) (a := ()) (κ := fun _ => .inr (none, S1 ++ blk_Roads S1.length, M)) md_Roads_init (Nat.le_of_ble_eq_true rfl) (by rw [l1, l2, z1, z2]; omega) 0 rfl rfl (fun _ G hG hi0 => ?_)
  have hi := hi0 rfl
  have g1 : G.2.2.1.2.2.1 = S1.length + 8 := by rw [hG]; exact l2
  have g2 : G.2.2.1.2.2.2 = ksz S1 + 274 := by rw [hG]; exact z2
  show Sim G Y_Roads_init (some ()) (kC 0 [some (VR (some S1.length))] [] (S1 ++ (((8, kN 8), List.replicate (kN 8) none) :: [])) M) _
  refine s_aload_n (dt_Roads_init 0 _ _ _ rfl) rfl ?_
  refine s_objInit (dt_Roads_init 1 _ _ _ rfl) ko_Roads_3 ⟨kw_objI, kw_objC⟩ rfl ?_
  refine s_aload_n (dt_Roads_init 2 _ _ _ rfl) rfl ?_
  refine s_bipush (dt_Roads_init 3 _ _ _ rfl) rfl ?_
  refine i_newI (j := 0) (z := 0) (w := 7) (n := 8) (dt_Roads_init 4 _ _ _ rfl) rfl (by decide) kaI ⟨(apN).1, (apN).2, rfl⟩ (hz.up (m := S1.length + (1 + 0)) (by omega)) ⟨by omega, by omega⟩ ?_
  refine i_putR hi (dt_Roads_init 5 _ _ _ rfl) kv_Roads_9 rfl ⟨rfl, rfl⟩ rfl ?_
  refine s_aload_n (dt_Roads_init 6 _ _ _ rfl) rfl ?_
  refine s_sipush (dt_Roads_init 7 _ _ _ rfl) rfl ?_
  refine i_newI (j := 1) (z := 8) (w := 7) (n := 151) (dt_Roads_init 8 _ _ _ rfl) rfl (by decide) kaI ⟨((ap1 (j' := 1) (z' := 8) apN rfl rfl)).1, ((ap1 (j' := 1) (z' := 8) apN rfl rfl)).2, rfl⟩ (hz.up (m := S1.length + (1 + 1)) (by omega)) ⟨by omega, by omega⟩ ?_
  refine i_putR hi (dt_Roads_init 9 _ _ _ rfl) kv_Roads_15 rfl ⟨rfl, rfl⟩ rfl ?_
  refine s_aload_n (dt_Roads_init 10 _ _ _ rfl) rfl ?_
  refine s_bipush (dt_Roads_init 11 _ _ _ rfl) rfl ?_
  refine i_newI (j := 2) (z := 159) (w := 7) (n := 64) (dt_Roads_init 12 _ _ _ rfl) rfl (by decide) kaI ⟨((ap1 (j' := 2) (z' := 159) (ap1 (j' := 1) (z' := 8) apN rfl rfl) rfl rfl)).1, ((ap1 (j' := 2) (z' := 159) (ap1 (j' := 1) (z' := 8) apN rfl rfl) rfl rfl)).2, rfl⟩ (hz.up (m := S1.length + (1 + 2)) (by omega)) ⟨by omega, by omega⟩ ?_
  refine i_putR hi (dt_Roads_init 13 _ _ _ rfl) kv_Roads_18 rfl ⟨rfl, rfl⟩ rfl ?_
  refine s_aload_n (dt_Roads_init 14 _ _ _ rfl) rfl ?_
  refine s_bipush (dt_Roads_init 15 _ _ _ rfl) rfl ?_
  refine i_newI (j := 3) (z := 223) (w := 7) (n := 8) (dt_Roads_init 16 _ _ _ rfl) rfl (by decide) kaI ⟨((ap1 (j' := 3) (z' := 223) (ap1 (j' := 2) (z' := 159) (ap1 (j' := 1) (z' := 8) apN rfl rfl) rfl rfl) rfl rfl)).1, ((ap1 (j' := 3) (z' := 223) (ap1 (j' := 2) (z' := 159) (ap1 (j' := 1) (z' := 8) apN rfl rfl) rfl rfl) rfl rfl)).2, rfl⟩ (hz.up (m := S1.length + (1 + 3)) (by omega)) ⟨by omega, by omega⟩ ?_
  refine i_putR hi (dt_Roads_init 17 _ _ _ rfl) kv_Roads_21 rfl ⟨rfl, rfl⟩ rfl ?_
  refine s_aload_n (dt_Roads_init 18 _ _ _ rfl) rfl ?_
  refine s_bipush (dt_Roads_init 19 _ _ _ rfl) rfl ?_
  refine i_newI (j := 4) (z := 231) (w := 7) (n := 20) (dt_Roads_init 20 _ _ _ rfl) rfl (by decide) kaI ⟨((ap1 (j' := 4) (z' := 231) (ap1 (j' := 3) (z' := 223) (ap1 (j' := 2) (z' := 159) (ap1 (j' := 1) (z' := 8) apN rfl rfl) rfl rfl) rfl rfl) rfl rfl)).1, ((ap1 (j' := 4) (z' := 231) (ap1 (j' := 3) (z' := 223) (ap1 (j' := 2) (z' := 159) (ap1 (j' := 1) (z' := 8) apN rfl rfl) rfl rfl) rfl rfl) rfl rfl)).2, rfl⟩ (hz.up (m := S1.length + (1 + 4)) (by omega)) ⟨by omega, by omega⟩ ?_
  refine i_putR hi (dt_Roads_init 21 _ _ _ rfl) kv_Roads_24 rfl ⟨rfl, rfl⟩ rfl ?_
  refine s_aload_n (dt_Roads_init 22 _ _ _ rfl) rfl ?_
  refine s_bipush (dt_Roads_init 23 _ _ _ rfl) rfl ?_
  refine i_newI (j := 5) (z := 251) (w := 7) (n := 8) (dt_Roads_init 24 _ _ _ rfl) rfl (by decide) kaI ⟨((ap1 (j' := 5) (z' := 251) (ap1 (j' := 4) (z' := 231) (ap1 (j' := 3) (z' := 223) (ap1 (j' := 2) (z' := 159) (ap1 (j' := 1) (z' := 8) apN rfl rfl) rfl rfl) rfl rfl) rfl rfl) rfl rfl)).1, ((ap1 (j' := 5) (z' := 251) (ap1 (j' := 4) (z' := 231) (ap1 (j' := 3) (z' := 223) (ap1 (j' := 2) (z' := 159) (ap1 (j' := 1) (z' := 8) apN rfl rfl) rfl rfl) rfl rfl) rfl rfl) rfl rfl)).2, rfl⟩ (hz.up (m := S1.length + (1 + 5)) (by omega)) ⟨by omega, by omega⟩ ?_
  refine i_putR hi (dt_Roads_init 25 _ _ _ rfl) kv_Roads_27 rfl ⟨rfl, rfl⟩ rfl ?_
  refine s_aload_n (dt_Roads_init 26 _ _ _ rfl) rfl ?_
  refine s_bipush (dt_Roads_init 27 _ _ _ rfl) rfl ?_
  refine i_newI (j := 6) (z := 259) (w := 7) (n := 8) (dt_Roads_init 28 _ _ _ rfl) rfl (by decide) kaI ⟨((ap1 (j' := 6) (z' := 259) (ap1 (j' := 5) (z' := 251) (ap1 (j' := 4) (z' := 231) (ap1 (j' := 3) (z' := 223) (ap1 (j' := 2) (z' := 159) (ap1 (j' := 1) (z' := 8) apN rfl rfl) rfl rfl) rfl rfl) rfl rfl) rfl rfl) rfl rfl)).1, ((ap1 (j' := 6) (z' := 259) (ap1 (j' := 5) (z' := 251) (ap1 (j' := 4) (z' := 231) (ap1 (j' := 3) (z' := 223) (ap1 (j' := 2) (z' := 159) (ap1 (j' := 1) (z' := 8) apN rfl rfl) rfl rfl) rfl rfl) rfl rfl) rfl rfl) rfl rfl)).2, rfl⟩ (hz.up (m := S1.length + (1 + 6)) (by omega)) ⟨by omega, by omega⟩ ?_
  refine i_putR hi (dt_Roads_init 29 _ _ _ rfl) kv_Roads_30 rfl ⟨rfl, rfl⟩ rfl ?_
  exact s_vret (dt_Roads_init 30 _ _ _ rfl) rfl rfl
def blk_Safety (n : Nat) : KS := ((9, 5), [some (n + (1 + 0)), some (n + (1 + 1)), some (n + (1 + 2)), none, none]) :: ((([] ++ [((20, 151), [])]) ++ [((20, 8), [])]) ++ [((20, 10809), [])])
theorem bl_Safety (n : Nat) : (blk_Safety n).length = 4 ∧ ksz (blk_Safety n) = 10973 := ap0 (w := 5) rfl (ap1 (j' := 3) (z' := 10968) (ap1 (j' := 2) (z' := 159) (ap1 (j' := 1) (z' := 151) apN rfl rfl) rfl rfl) rfl rfl) rfl rfl
set_option maxRecDepth 100000 in
theorem ci_Safety {S1 : KS} {n : Nat} (hn : S1.length = n) {M : KM} (hz : kblk M n) : Cin y_Safety_init Y_Safety_init S1 ((9, kN 9), List.replicate (kN 9) none) M (blk_Safety n) (M) := by
  subst hn
  unfold Cin
  have l1 : (S1 ++ [((9, kN 9), List.replicate (kN 9) none)]).length = S1.length + 1 := by rw [List.length_append]; rfl
  have l2 : (S1 ++ blk_Safety S1.length).length = S1.length + 4 := by rw [List.length_append, (bl_Safety _).1]
  have z1 : ksz (S1 ++ [((9, kN 9), List.replicate (kN 9) (none : Option Nat))]) = ksz S1 + 5 := by rw [ksz_app]; rfl
  have z2 : ksz (S1 ++ blk_Safety S1.length) = ksz S1 + 10973 := by rw [ksz_app, (bl_Safety _).2]
  refine ctr_ofL (α := Unit) (e := some ()) (a := ()) (κ := fun _ => .inr (none, S1 ++ blk_Safety S1.length, M)) md_Safety_init (Nat.le_of_ble_eq_true rfl) (by rw [l1, l2, z1, z2]; omega) 0 rfl rfl (fun _ G hG hi0 => ?_)
  have hi := hi0 rfl
  have g1 : G.2.2.1.2.2.1 = S1.length + 4 := by rw [hG]; exact l2
  have g2 : G.2.2.1.2.2.2 = ksz S1 + 10973 := by rw [hG]; exact z2
  show Sim G Y_Safety_init (some ()) (kC 0 [some (VR (some S1.length))] [] (S1 ++ (((9, kN 9), List.replicate (kN 9) none) :: [])) M) _
  refine s_aload_n (dt_Safety_init 0 _ _ _ rfl) rfl ?_
  refine s_objInit (dt_Safety_init 1 _ _ _ rfl) ko_Safety_3 ⟨kw_objI, kw_objC⟩ rfl ?_
  refine s_aload_n (dt_Safety_init 2 _ _ _ rfl) rfl ?_
  refine s_sipush (dt_Safety_init 3 _ _ _ rfl) rfl ?_
  refine i_newI (j := 0) (z := 0) (w := 5) (n := 151) (dt_Safety_init 4 _ _ _ rfl) rfl (by decide) kaI ⟨(apN).1, (apN).2, rfl⟩ (hz.up (m := S1.length + (1 + 0)) (by omega)) ⟨by omega, by omega⟩ ?_
  refine i_putR hi (dt_Safety_init 5 _ _ _ rfl) kv_Safety_9 rfl ⟨rfl, rfl⟩ rfl ?_
  refine s_aload_n (dt_Safety_init 6 _ _ _ rfl) rfl ?_
  refine s_bipush (dt_Safety_init 7 _ _ _ rfl) rfl ?_
  refine i_newI (j := 1) (z := 151) (w := 5) (n := 8) (dt_Safety_init 8 _ _ _ rfl) rfl (by decide) kaI ⟨((ap1 (j' := 1) (z' := 151) apN rfl rfl)).1, ((ap1 (j' := 1) (z' := 151) apN rfl rfl)).2, rfl⟩ (hz.up (m := S1.length + (1 + 1)) (by omega)) ⟨by omega, by omega⟩ ?_
  refine i_putR hi (dt_Safety_init 9 _ _ _ rfl) kv_Safety_15 rfl ⟨rfl, rfl⟩ rfl ?_
  refine s_aload_n (dt_Safety_init 10 _ _ _ rfl) rfl ?_
  refine s_sipush (dt_Safety_init 11 _ _ _ rfl) rfl ?_
  refine i_newI (j := 2) (z := 159) (w := 5) (n := 10809) (dt_Safety_init 12 _ _ _ rfl) rfl (by decide) kaI ⟨((ap1 (j' := 2) (z' := 159) (ap1 (j' := 1) (z' := 151) apN rfl rfl) rfl rfl)).1, ((ap1 (j' := 2) (z' := 159) (ap1 (j' := 1) (z' := 151) apN rfl rfl) rfl rfl)).2, rfl⟩ (hz.up (m := S1.length + (1 + 2)) (by omega)) ⟨by omega, by omega⟩ ?_
  refine i_putR hi (dt_Safety_init 13 _ _ _ rfl) kv_Safety_18 rfl ⟨rfl, rfl⟩ rfl ?_
  exact s_vret (dt_Safety_init 14 _ _ _ rfl) rfl rfl
def blk_Faces (n : Nat) : KS := ((3, 9), [none, none, some (n + (1 + 0)), some (n + (1 + 1)), some (n + (1 + 2)), some (n + (1 + 3)), none, some (n + (1 + 4)), none]) :: ((((([] ++ [((20, 30), [])]) ++ [((20, 30), [])]) ++ [((20, 30), [])]) ++ [((20, 30), [])]) ++ [((20, 8), [])])
theorem bl_Faces (n : Nat) : (blk_Faces n).length = 6 ∧ ksz (blk_Faces n) = 137 := ap0 (w := 9) rfl (ap1 (j' := 5) (z' := 128) (ap1 (j' := 4) (z' := 120) (ap1 (j' := 3) (z' := 90) (ap1 (j' := 2) (z' := 60) (ap1 (j' := 1) (z' := 30) apN rfl rfl) rfl rfl) rfl rfl) rfl rfl) rfl rfl) rfl rfl
set_option maxRecDepth 100000 in
theorem ci_Faces {S1 : KS} {n : Nat} (hn : S1.length = n) {M : KM} (hz : kblk M n) : Cin y_Faces_init Y_Faces_init S1 ((3, kN 3), List.replicate (kN 3) none) M (blk_Faces n) (M) := by
  subst hn
  unfold Cin
  have l1 : (S1 ++ [((3, kN 3), List.replicate (kN 3) none)]).length = S1.length + 1 := by rw [List.length_append]; rfl
  have l2 : (S1 ++ blk_Faces S1.length).length = S1.length + 6 := by rw [List.length_append, (bl_Faces _).1]
  have z1 : ksz (S1 ++ [((3, kN 3), List.replicate (kN 3) (none : Option Nat))]) = ksz S1 + 9 := by rw [ksz_app]; rfl
  have z2 : ksz (S1 ++ blk_Faces S1.length) = ksz S1 + 137 := by rw [ksz_app, (bl_Faces _).2]
  refine ctr_ofL (α := Unit) (e := some ()) (a := ()) (κ := fun _ => .inr (none, S1 ++ blk_Faces S1.length, M)) md_Faces_init (Nat.le_of_ble_eq_true rfl) (by rw [l1, l2, z1, z2]; omega) 0 rfl rfl (fun _ G hG hi0 => ?_)
  have hi := hi0 rfl
  have g1 : G.2.2.1.2.2.1 = S1.length + 6 := by rw [hG]; exact l2
  have g2 : G.2.2.1.2.2.2 = ksz S1 + 137 := by rw [hG]; exact z2
  show Sim G Y_Faces_init (some ()) (kC 0 [some (VR (some S1.length))] [] (S1 ++ (((3, kN 3), List.replicate (kN 3) none) :: [])) M) _
  refine s_aload_n (dt_Faces_init 0 _ _ _ rfl) rfl ?_
  refine s_objInit (dt_Faces_init 1 _ _ _ rfl) ko_Faces_3 ⟨kw_objI, kw_objC⟩ rfl ?_
  refine s_aload_n (dt_Faces_init 2 _ _ _ rfl) rfl ?_
  refine s_iconst (dt_Faces_init 3 _ _ _ rfl) rfl ?_
  refine i_put0 (dt_Faces_init 4 _ _ _ rfl) kv_Faces_9 ⟨rfl, rfl⟩ (hz _ (Nat.le_refl _) _) ?_
  refine s_aload_n (dt_Faces_init 5 _ _ _ rfl) rfl ?_
  refine s_iconst (dt_Faces_init 6 _ _ _ rfl) rfl ?_
  refine i_put0 (dt_Faces_init 7 _ _ _ rfl) kv_Faces_15 ⟨rfl, rfl⟩ (hz _ (Nat.le_refl _) _) ?_
  refine s_aload_n (dt_Faces_init 8 _ _ _ rfl) rfl ?_
  refine s_bipush (dt_Faces_init 9 _ _ _ rfl) rfl ?_
  refine i_newI (j := 0) (z := 0) (w := 9) (n := 30) (dt_Faces_init 10 _ _ _ rfl) rfl (by decide) kaI ⟨(apN).1, (apN).2, rfl⟩ (hz.up (m := S1.length + (1 + 0)) (by omega)) ⟨by omega, by omega⟩ ?_
  refine i_putR hi (dt_Faces_init 11 _ _ _ rfl) kv_Faces_18 rfl ⟨rfl, rfl⟩ rfl ?_
  refine s_aload_n (dt_Faces_init 12 _ _ _ rfl) rfl ?_
  refine s_bipush (dt_Faces_init 13 _ _ _ rfl) rfl ?_
  refine i_newI (j := 1) (z := 30) (w := 9) (n := 30) (dt_Faces_init 14 _ _ _ rfl) rfl (by decide) kaI ⟨((ap1 (j' := 1) (z' := 30) apN rfl rfl)).1, ((ap1 (j' := 1) (z' := 30) apN rfl rfl)).2, rfl⟩ (hz.up (m := S1.length + (1 + 1)) (by omega)) ⟨by omega, by omega⟩ ?_
  refine i_putR hi (dt_Faces_init 15 _ _ _ rfl) kv_Faces_22 rfl ⟨rfl, rfl⟩ rfl ?_
  refine s_aload_n (dt_Faces_init 16 _ _ _ rfl) rfl ?_
  refine s_bipush (dt_Faces_init 17 _ _ _ rfl) rfl ?_
  refine i_newI (j := 2) (z := 60) (w := 9) (n := 30) (dt_Faces_init 18 _ _ _ rfl) rfl (by decide) kaI ⟨((ap1 (j' := 2) (z' := 60) (ap1 (j' := 1) (z' := 30) apN rfl rfl) rfl rfl)).1, ((ap1 (j' := 2) (z' := 60) (ap1 (j' := 1) (z' := 30) apN rfl rfl) rfl rfl)).2, rfl⟩ (hz.up (m := S1.length + (1 + 2)) (by omega)) ⟨by omega, by omega⟩ ?_
  refine i_putR hi (dt_Faces_init 19 _ _ _ rfl) kv_Faces_25 rfl ⟨rfl, rfl⟩ rfl ?_
  refine s_aload_n (dt_Faces_init 20 _ _ _ rfl) rfl ?_
  refine s_bipush (dt_Faces_init 21 _ _ _ rfl) rfl ?_
  refine i_newI (j := 3) (z := 90) (w := 9) (n := 30) (dt_Faces_init 22 _ _ _ rfl) rfl (by decide) kaI ⟨((ap1 (j' := 3) (z' := 90) (ap1 (j' := 2) (z' := 60) (ap1 (j' := 1) (z' := 30) apN rfl rfl) rfl rfl) rfl rfl)).1, ((ap1 (j' := 3) (z' := 90) (ap1 (j' := 2) (z' := 60) (ap1 (j' := 1) (z' := 30) apN rfl rfl) rfl rfl) rfl rfl)).2, rfl⟩ (hz.up (m := S1.length + (1 + 3)) (by omega)) ⟨by omega, by omega⟩ ?_
  refine i_putR hi (dt_Faces_init 23 _ _ _ rfl) kv_Faces_28 rfl ⟨rfl, rfl⟩ rfl ?_
  refine s_aload_n (dt_Faces_init 24 _ _ _ rfl) rfl ?_
  refine s_iconst (dt_Faces_init 25 _ _ _ rfl) rfl ?_
  refine i_put0 (dt_Faces_init 26 _ _ _ rfl) kv_Faces_31 ⟨rfl, rfl⟩ (hz _ (Nat.le_refl _) _) ?_
  refine s_aload_n (dt_Faces_init 27 _ _ _ rfl) rfl ?_
  refine s_bipush (dt_Faces_init 28 _ _ _ rfl) rfl ?_
  refine i_newI (j := 4) (z := 120) (w := 9) (n := 8) (dt_Faces_init 29 _ _ _ rfl) rfl (by decide) kaI ⟨((ap1 (j' := 4) (z' := 120) (ap1 (j' := 3) (z' := 90) (ap1 (j' := 2) (z' := 60) (ap1 (j' := 1) (z' := 30) apN rfl rfl) rfl rfl) rfl rfl) rfl rfl)).1, ((ap1 (j' := 4) (z' := 120) (ap1 (j' := 3) (z' := 90) (ap1 (j' := 2) (z' := 60) (ap1 (j' := 1) (z' := 30) apN rfl rfl) rfl rfl) rfl rfl) rfl rfl)).2, rfl⟩ (hz.up (m := S1.length + (1 + 4)) (by omega)) ⟨by omega, by omega⟩ ?_
  refine i_putR hi (dt_Faces_init 30 _ _ _ rfl) kv_Faces_34 rfl ⟨rfl, rfl⟩ rfl ?_
  refine s_aload_n (dt_Faces_init 31 _ _ _ rfl) rfl ?_
  refine s_iconst (dt_Faces_init 32 _ _ _ rfl) rfl ?_
  refine i_putZ0 (dt_Faces_init 33 _ _ _ rfl) kv_Faces_37 ⟨rfl, rfl⟩ (hz _ (Nat.le_refl _) _) ?_
  exact s_vret (dt_Faces_init 34 _ _ _ rfl) rfl rfl
def blk_Gifts (n : Nat) : KS := ((5, 10), [none, none, some (n + (1 + 0)), none, none, some (n + (1 + 1)), some (n + (1 + 2)), some (n + (1 + 3)), none, none]) :: (((([] ++ [((20, 4), [])]) ++ [((20, 4), [])]) ++ [((20, 8), [])]) ++ [((20, 8), [])])
theorem bl_Gifts (n : Nat) : (blk_Gifts n).length = 5 ∧ ksz (blk_Gifts n) = 34 := ap0 (w := 10) rfl (ap1 (j' := 4) (z' := 24) (ap1 (j' := 3) (z' := 16) (ap1 (j' := 2) (z' := 8) (ap1 (j' := 1) (z' := 4) apN rfl rfl) rfl rfl) rfl rfl) rfl rfl) rfl rfl
set_option maxRecDepth 100000 in
theorem ci_Gifts {S1 : KS} {n : Nat} (hn : S1.length = n) {M : KM} (hz : kblk M n) : Cin y_Gifts_init Y_Gifts_init S1 ((5, kN 5), List.replicate (kN 5) none) M (blk_Gifts n) (M) := by
  subst hn
  unfold Cin
  have l1 : (S1 ++ [((5, kN 5), List.replicate (kN 5) none)]).length = S1.length + 1 := by rw [List.length_append]; rfl
  have l2 : (S1 ++ blk_Gifts S1.length).length = S1.length + 5 := by rw [List.length_append, (bl_Gifts _).1]
  have z1 : ksz (S1 ++ [((5, kN 5), List.replicate (kN 5) (none : Option Nat))]) = ksz S1 + 10 := by rw [ksz_app]; rfl
  have z2 : ksz (S1 ++ blk_Gifts S1.length) = ksz S1 + 34 := by rw [ksz_app, (bl_Gifts _).2]
  refine ctr_ofL (α := Unit) (e := some ()) (a := ()) (κ := fun _ => .inr (none, S1 ++ blk_Gifts S1.length, M)) md_Gifts_init (Nat.le_of_ble_eq_true rfl) (by rw [l1, l2, z1, z2]; omega) 0 rfl rfl (fun _ G hG hi0 => ?_)
  have hi := hi0 rfl
  have g1 : G.2.2.1.2.2.1 = S1.length + 5 := by rw [hG]; exact l2
  have g2 : G.2.2.1.2.2.2 = ksz S1 + 34 := by rw [hG]; exact z2
  show Sim G Y_Gifts_init (some ()) (kC 0 [some (VR (some S1.length))] [] (S1 ++ (((5, kN 5), List.replicate (kN 5) none) :: [])) M) _
  refine s_aload_n (dt_Gifts_init 0 _ _ _ rfl) rfl ?_
  refine s_objInit (dt_Gifts_init 1 _ _ _ rfl) ko_Gifts_3 ⟨kw_objI, kw_objC⟩ rfl ?_
  refine s_aload_n (dt_Gifts_init 2 _ _ _ rfl) rfl ?_
  refine s_iconst (dt_Gifts_init 3 _ _ _ rfl) rfl ?_
  refine i_newI (j := 0) (z := 0) (w := 10) (n := 4) (dt_Gifts_init 4 _ _ _ rfl) rfl (by decide) kaI ⟨(apN).1, (apN).2, rfl⟩ (hz.up (m := S1.length + (1 + 0)) (by omega)) ⟨by omega, by omega⟩ ?_
  refine i_putR hi (dt_Gifts_init 5 _ _ _ rfl) kv_Gifts_9 rfl ⟨rfl, rfl⟩ rfl ?_
  refine s_aload_n (dt_Gifts_init 6 _ _ _ rfl) rfl ?_
  refine s_iconst (dt_Gifts_init 7 _ _ _ rfl) rfl ?_
  refine i_newI (j := 1) (z := 4) (w := 10) (n := 4) (dt_Gifts_init 8 _ _ _ rfl) rfl (by decide) kaI ⟨((ap1 (j' := 1) (z' := 4) apN rfl rfl)).1, ((ap1 (j' := 1) (z' := 4) apN rfl rfl)).2, rfl⟩ (hz.up (m := S1.length + (1 + 1)) (by omega)) ⟨by omega, by omega⟩ ?_
  refine i_putR hi (dt_Gifts_init 9 _ _ _ rfl) kv_Gifts_15 rfl ⟨rfl, rfl⟩ rfl ?_
  refine s_aload_n (dt_Gifts_init 10 _ _ _ rfl) rfl ?_
  refine s_bipush (dt_Gifts_init 11 _ _ _ rfl) rfl ?_
  refine i_newI (j := 2) (z := 8) (w := 10) (n := 8) (dt_Gifts_init 12 _ _ _ rfl) rfl (by decide) kaI ⟨((ap1 (j' := 2) (z' := 8) (ap1 (j' := 1) (z' := 4) apN rfl rfl) rfl rfl)).1, ((ap1 (j' := 2) (z' := 8) (ap1 (j' := 1) (z' := 4) apN rfl rfl) rfl rfl)).2, rfl⟩ (hz.up (m := S1.length + (1 + 2)) (by omega)) ⟨by omega, by omega⟩ ?_
  refine i_putR hi (dt_Gifts_init 13 _ _ _ rfl) kv_Gifts_18 rfl ⟨rfl, rfl⟩ rfl ?_
  refine s_aload_n (dt_Gifts_init 14 _ _ _ rfl) rfl ?_
  refine s_bipush (dt_Gifts_init 15 _ _ _ rfl) rfl ?_
  refine i_newI (j := 3) (z := 16) (w := 10) (n := 8) (dt_Gifts_init 16 _ _ _ rfl) rfl (by decide) kaI ⟨((ap1 (j' := 3) (z' := 16) (ap1 (j' := 2) (z' := 8) (ap1 (j' := 1) (z' := 4) apN rfl rfl) rfl rfl) rfl rfl)).1, ((ap1 (j' := 3) (z' := 16) (ap1 (j' := 2) (z' := 8) (ap1 (j' := 1) (z' := 4) apN rfl rfl) rfl rfl) rfl rfl)).2, rfl⟩ (hz.up (m := S1.length + (1 + 3)) (by omega)) ⟨by omega, by omega⟩ ?_
  refine i_putR hi (dt_Gifts_init 17 _ _ _ rfl) kv_Gifts_21 rfl ⟨rfl, rfl⟩ rfl ?_
  exact s_vret (dt_Gifts_init 18 _ _ _ rfl) rfl rfl
