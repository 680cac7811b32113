/-! THE CLASS IS MADE -/
def y_X_init : MethodName := ⟨"YearHands", "<init>", "()V"⟩
abbrev Y_X_init : KY := ("YearHands", prog_1_method_1_code, 2, none, 100)
def D_X_init : List (Nat × Instr × Nat) := [(0, .aload_n 0, 1), (1, .invokespecial 1, 3), (4, .aload_n 0, 1), (5, .sipush 1600, 3), (8, .newarray .byte, 2), (10, .putfield 9, 3), (13, .aload_n 0, 1), (14, .iconst 0, 1), (15, .putfield 13, 3), (18, .aload_n 0, 1), (19, .new 17, 3), (22, .dup, 1), (23, .invokespecial 19, 3), (26, .putfield 20, 3), (29, .aload_n 0, 1), (30, .new 24, 3), (33, .dup, 1), (34, .invokespecial 26, 3), (37, .putfield 27, 3), (40, .aload_n 0, 1), (41, .new 31, 3), (44, .dup, 1), (45, .invokespecial 33, 3), (48, .putfield 34, 3), (51, .aload_n 0, 1), (52, .new 38, 3), (55, .dup, 1), (56, .invokespecial 40, 3), (59, .putfield 41, 3), (62, .aload_n 0, 1), (63, .iconst 3, 1), (64, .anewarray 31, 3), (67, .putfield 45, 3), (70, .aload_n 0, 1), (71, .iconst 0, 1), (72, .putfield 49, 3), (75, .aload_n 0, 1), (76, .bipush 8, 2), (78, .newarray .int, 2), (80, .putfield 52, 3), (83, .aload_n 0, 1), (84, .iconst 0, 1), (85, .putfield 56, 3), (88, .aload_n 0, 1), (89, .new 59, 3), (92, .dup, 1), (93, .invokespecial 61, 3), (96, .putfield 62, 3), (99, .aload_n 0, 1), (100, .new 66, 3), (103, .dup, 1), (104, .invokespecial 68, 3), (107, .putfield 69, 3), (110, .aload_n 0, 1), (111, .new 73, 3), (114, .dup, 1), (115, .invokespecial 75, 3), (118, .putfield 76, 3), (121, .aload_n 0, 1), (122, .new 80, 3), (125, .dup, 1), (126, .invokespecial 82, 3), (129, .putfield 83, 3), (132, .aload_n 0, 1), (133, .new 87, 3), (136, .dup, 1), (137, .invokespecial 89, 3), (140, .putfield 90, 3), (143, .aload_n 0, 1), (144, .bipush 8, 2), (146, .newarray .int, 2), (148, .putfield 94, 3), (151, .aload_n 0, 1), (152, .iconst 0, 1), (153, .putfield 97, 3), (156, .iconst 0, 1), (157, .istore_n 1, 1), (158, .iload_n 1, 1), (159, .aload_n 0, 1), (160, .getfield 45, 3), (163, .arraylength, 1), (164, .if_icmp .ge 22, 3), (167, .aload_n 0, 1), (168, .getfield 45, 3), (171, .iload_n 1, 1), (172, .new 31, 3), (175, .dup, 1), (176, .invokespecial 33, 3), (179, .aastore, 1), (180, .iinc 1 1, 3), (183, .goto (-25), 3), (186, .aload_n 0, 1), (187, .getfield 34, 3), (190, .aload_n 0, 1), (191, .getfield 20, 3), (194, .invokevirtual 100, 3), (197, .aload_n 0, 1), (198, .getfield 41, 3), (201, .aload_n 0, 1), (202, .getfield 34, 3), (205, .invokevirtual 104, 3), (208, .return_, 1)]
theorem dt_X_init : kDec prog_1_method_1_code D_X_init := kDec_of (by decide +kernel)
theorem md_X_init : KMd y_X_init Y_X_init 0 := ⟨⟨tb_at 166 (by decide +kernel), tb_at 141 (by decide +kernel)⟩, rfl, ⟨by decide, by decide, by decide⟩, by decide +kernel, by decide⟩
theorem kin_X_init : Cond.instanceMethod y_X_init ∈ tbg := tb_at 165 (by decide +kernel)
theorem ko_X_1 : Cond.methodLink "YearHands" 1 Lib.objectInit ∈ tbg := tb_at 167 (by decide +kernel)
theorem kv_X_9 : (0 < 13 ∧ 0 < kN 0) ∧ Cond.fieldLink "YearHands" 9 (kT 0 0).1 (kT 0 0).2.1 (kT 0 0).2.2.1 ∈ tbg := ⟨⟨by decide, by decide⟩, tb_at 652 (by decide +kernel)⟩
theorem kv_X_13 : (0 < 13 ∧ 1 < kN 0) ∧ Cond.fieldLink "YearHands" 13 (kT 0 1).1 (kT 0 1).2.1 (kT 0 1).2.2.1 ∈ tbg := ⟨⟨by decide, by decide⟩, tb_at 653 (by decide +kernel)⟩
theorem kq_X_17 : Cond.classLink "YearHands" 17 "YearHands$Town" ∈ tbg := tb_at 170 (by decide +kernel)
theorem kw_X_19 : kML "YearHands" 19 y_Town_init := Or.inl (tb_at 172 (by decide +kernel))
theorem kv_X_20 : (0 < 13 ∧ 2 < kN 0) ∧ Cond.fieldLink "YearHands" 20 (kT 0 2).1 (kT 0 2).2.1 (kT 0 2).2.2.1 ∈ tbg := ⟨⟨by decide, by decide⟩, tb_at 654 (by decide +kernel)⟩
theorem kq_X_24 : Cond.classLink "YearHands" 24 "YearHands$Reader" ∈ tbg := tb_at 299 (by decide +kernel)
theorem kw_X_26 : kML "YearHands" 26 y_Reader_init := Or.inr ⟨"YearHands", tb_at 301 (by decide +kernel)⟩
theorem kv_X_27 : (0 < 13 ∧ 3 < kN 0) ∧ Cond.fieldLink "YearHands" 27 (kT 0 3).1 (kT 0 3).2.1 (kT 0 3).2.2.1 ∈ tbg := ⟨⟨by decide, by decide⟩, tb_at 655 (by decide +kernel)⟩
theorem kq_X_31 : Cond.classLink "YearHands" 31 "YearHands$State" ∈ tbg := tb_at 377 (by decide +kernel)
theorem kw_X_33 : kML "YearHands" 33 y_State_init := Or.inr ⟨"YearHands", tb_at 379 (by decide +kernel)⟩
theorem kv_X_34 : (0 < 13 ∧ 4 < kN 0) ∧ Cond.fieldLink "YearHands" 34 (kT 0 4).1 (kT 0 4).2.1 (kT 0 4).2.2.1 ∈ tbg := ⟨⟨by decide, by decide⟩, tb_at 656 (by decide +kernel)⟩
theorem kq_X_38 : Cond.classLink "YearHands" 38 "YearHands$History" ∈ tbg := tb_at 446 (by decide +kernel)
theorem kw_X_40 : kML "YearHands" 40 y_History_init := Or.inl (tb_at 448 (by decide +kernel))
theorem kv_X_41 : (0 < 13 ∧ 5 < kN 0) ∧ Cond.fieldLink "YearHands" 41 (kT 0 5).1 (kT 0 5).2.1 (kT 0 5).2.2.1 ∈ tbg := ⟨⟨by decide, by decide⟩, tb_at 657 (by decide +kernel)⟩
theorem kv_X_45 : (0 < 13 ∧ 6 < kN 0) ∧ Cond.fieldLink "YearHands" 45 (kT 0 6).1 (kT 0 6).2.1 (kT 0 6).2.2.1 ∈ tbg := ⟨⟨by decide, by decide⟩, tb_at 658 (by decide +kernel)⟩
theorem kv_X_49 : (0 < 13 ∧ 7 < kN 0) ∧ Cond.fieldLink "YearHands" 49 (kT 0 7).1 (kT 0 7).2.1 (kT 0 7).2.2.1 ∈ tbg := ⟨⟨by decide, by decide⟩, tb_at 659 (by decide +kernel)⟩
theorem kv_X_52 : (0 < 13 ∧ 8 < kN 0) ∧ Cond.fieldLink "YearHands" 52 (kT 0 8).1 (kT 0 8).2.1 (kT 0 8).2.2.1 ∈ tbg := ⟨⟨by decide, by decide⟩, tb_at 660 (by decide +kernel)⟩
theorem kv_X_56 : (0 < 13 ∧ 9 < kN 0) ∧ Cond.fieldLink "YearHands" 56 (kT 0 9).1 (kT 0 9).2.1 (kT 0 9).2.2.1 ∈ tbg := ⟨⟨by decide, by decide⟩, tb_at 661 (by decide +kernel)⟩
theorem kq_X_59 : Cond.classLink "YearHands" 59 "YearHands$Roads" ∈ tbg := tb_at 470 (by decide +kernel)
theorem kw_X_61 : kML "YearHands" 61 y_Roads_init := Or.inr ⟨"YearHands", tb_at 472 (by decide +kernel)⟩
theorem kv_X_62 : (0 < 13 ∧ 10 < kN 0) ∧ Cond.fieldLink "YearHands" 62 (kT 0 10).1 (kT 0 10).2.1 (kT 0 10).2.2.1 ∈ tbg := ⟨⟨by decide, by decide⟩, tb_at 662 (by decide +kernel)⟩
theorem kq_X_66 : Cond.classLink "YearHands" 66 "YearHands$Debts" ∈ tbg := tb_at 500 (by decide +kernel)
theorem kw_X_68 : kML "YearHands" 68 y_Debts_init := Or.inr ⟨"YearHands", tb_at 502 (by decide +kernel)⟩
theorem kv_X_69 : (0 < 13 ∧ 11 < kN 0) ∧ Cond.fieldLink "YearHands" 69 (kT 0 11).1 (kT 0 11).2.1 (kT 0 11).2.2.1 ∈ tbg := ⟨⟨by decide, by decide⟩, tb_at 663 (by decide +kernel)⟩
theorem kq_X_73 : Cond.classLink "YearHands" 73 "YearHands$Safety" ∈ tbg := tb_at 523 (by decide +kernel)
theorem kw_X_75 : kML "YearHands" 75 y_Safety_init := Or.inr ⟨"YearHands", tb_at 525 (by decide +kernel)⟩
theorem kv_X_76 : (0 < 13 ∧ 12 < kN 0) ∧ Cond.fieldLink "YearHands" 76 (kT 0 12).1 (kT 0 12).2.1 (kT 0 12).2.2.1 ∈ tbg := ⟨⟨by decide, by decide⟩, tb_at 664 (by decide +kernel)⟩
theorem kq_X_80 : Cond.classLink "YearHands" 80 "YearHands$Faces" ∈ tbg := tb_at 547 (by decide +kernel)
theorem kw_X_82 : kML "YearHands" 82 y_Faces_init := Or.inr ⟨"YearHands", tb_at 549 (by decide +kernel)⟩
theorem kv_X_83 : (0 < 13 ∧ 13 < kN 0) ∧ Cond.fieldLink "YearHands" 83 (kT 0 13).1 (kT 0 13).2.1 (kT 0 13).2.2.1 ∈ tbg := ⟨⟨by decide, by decide⟩, tb_at 665 (by decide +kernel)⟩
theorem kq_X_87 : Cond.classLink "YearHands" 87 "YearHands$Gifts" ∈ tbg := tb_at 586 (by decide +kernel)
theorem kw_X_89 : kML "YearHands" 89 y_Gifts_init := Or.inr ⟨"YearHands", tb_at 588 (by decide +kernel)⟩
theorem kv_X_90 : (0 < 13 ∧ 14 < kN 0) ∧ Cond.fieldLink "YearHands" 90 (kT 0 14).1 (kT 0 14).2.1 (kT 0 14).2.2.1 ∈ tbg := ⟨⟨by decide, by decide⟩, tb_at 666 (by decide +kernel)⟩
theorem kv_X_94 : (0 < 13 ∧ 15 < kN 0) ∧ Cond.fieldLink "YearHands" 94 (kT 0 15).1 (kT 0 15).2.1 (kT 0 15).2.2.1 ∈ tbg := ⟨⟨by decide, by decide⟩, tb_at 667 (by decide +kernel)⟩
theorem kv_X_97 : (0 < 13 ∧ 16 < kN 0) ∧ Cond.fieldLink "YearHands" 97 (kT 0 16).1 (kT 0 16).2.1 (kT 0 16).2.2.1 ∈ tbg := ⟨⟨by decide, by decide⟩, tb_at 668 (by decide +kernel)⟩
theorem kw_X_100 : kML "YearHands" 100 y_State_begin := Or.inl (tb_at 628 (by decide +kernel))
theorem kw_X_104 : kML "YearHands" 104 y_History_begin := Or.inl (tb_at 641 (by decide +kernel))
theorem x_assoc {A B1 B2 B3 B4 B5 B6 B7 : KS} {q : KQ} : ((((((((A ++ [q]) ++ B1) ++ B2) ++ B3) ++ B4) ++ B5) ++ B6) ++ B7) = A ++ (q :: ((((((([] ++ B1) ++ B2) ++ B3) ++ B4) ++ B5) ++ B6) ++ B7)) := by simp only [List.append_assoc, List.cons_append, List.nil_append]
theorem in_getK {S1 A Y B : KS} {o q : KQ} {j : Nat} (hA : A.length = j) : (S1 ++ (o :: ((A ++ (q :: Y)) ++ B)))[S1.length + (1 + j)]? = some q := by
  rw [List.append_assoc, List.cons_append]; exact in_getJ hA
theorem in_setK {S1 A Y B : KS} {o q q' : KQ} {j : Nat} (hA : A.length = j) : (S1 ++ (o :: ((A ++ (q :: Y)) ++ B))).set (S1.length + (1 + j)) q' = S1 ++ (o :: (A ++ (q' :: (Y ++ B)))) := by
  rw [List.append_assoc, List.cons_append, List.set_append_right _ _ (by omega), show S1.length + (1 + j) - S1.length = j + 1 by omega, List.set_cons_succ, List.set_append_right _ _ (by omega), hA, Nat.sub_self]; rfl
theorem kblk.mem_Reader_up {M : KM} {m k : Nat} (h : kblk M m) (hk : k + 1 < m) : kblk (mem_Reader k M) m := (h.upd (by omega)).townM_up (by omega)
def xA (n : Nat) : KS := ((((([] ++ [((22, 1600), [])]) ++ blk_Town (n + (1 + 1))) ++ blk_Reader (n + (1 + 13))) ++ blk_State (n + (1 + 33))) ++ blk_History (n + (1 + 40)))
theorem xA_len (n : Nat) : (xA n).length = 329 ∧ ksz (xA n) = 17839 := (apB (j' := 329) (z' := 17839) (apB (j' := 40) (z' := 11685) (apB (j' := 33) (z' := 11536) (apB (j' := 13) (z' := 3350) (ap1 (j' := 1) (z' := 1600) apN rfl rfl) (bl_Town _) rfl rfl) (bl_Reader _) rfl rfl) (bl_State _) rfl rfl) (bl_History _) rfl rfl)
def xY (n : Nat) : KS := ((((((([] ++ [((20, 8), [])]) ++ blk_Roads (n + (1 + 331))) ++ blk_Debts (n + (1 + 339))) ++ blk_Safety (n + (1 + 344))) ++ blk_Faces (n + (1 + 348))) ++ blk_Gifts (n + (1 + 354))) ++ [((20, 8), [])])
theorem xY_len (n : Nat) : (xY n).length = 30 ∧ ksz (xY n) = 11967 := (ap1 (j' := 30) (z' := 11967) (apB (j' := 29) (z' := 11959) (apB (j' := 24) (z' := 11925) (apB (j' := 18) (z' := 11788) (apB (j' := 14) (z' := 815) (apB (j' := 9) (z' := 282) (ap1 (j' := 1) (z' := 8) apN rfl rfl) (bl_Roads _) rfl rfl) (bl_Debts _) rfl rfl) (bl_Safety _) rfl rfl) (bl_Faces _) rfl rfl) (bl_Gifts _) rfl rfl) rfl rfl)
def xO (n : Nat) : KQ := ((0, 17), [some (n + (1 + 0)), none, some (n + (1 + 1)), some (n + (1 + 13)), some (n + (1 + 33)), some (n + (1 + 40)), some (n + (1 + 329)), none, some (n + (1 + 330)), none, some (n + (1 + 331)), some (n + (1 + 339)), some (n + (1 + 344)), some (n + (1 + 348)), some (n + (1 + 354)), some (n + (1 + 359)), none])
def xS (n : Nat) : KS := xO n :: (xA n ++ (((24, 3), [some (n + (1 + 360)), some (n + (1 + 367)), some (n + (1 + 374))]) :: (((xY n ++ blk_State (n + (1 + 360))) ++ blk_State (n + (1 + 367))) ++ blk_State (n + (1 + 374)))))
def xM (n : Nat) (M : KM) : KM := mem_Reader (n + (1 + 13)) (townM (n + (1 + 1)) (M))
theorem xS_0 : xS 0 = kS0.take 382 := by decide +kernel
theorem bl_X (n : Nat) : (xS n).length = 382 ∧ ksz (xS n) = 30273 := ap0 (w := 17) rfl (apB (j' := 381) (z' := 30256) (xA_len n) (ap0 (w := 3) (j' := 52) (z' := 12417) rfl (apB (j' := 51) (z' := 12414) (apB (j' := 44) (z' := 12265) (apB (j' := 37) (z' := 12116) (xY_len n) (bl_State _) rfl rfl) (bl_State _) rfl rfl) (bl_State _) rfl rfl) rfl rfl) rfl rfl) rfl rfl
set_option maxRecDepth 100000 in
theorem ci_X {S1 : KS} (hS1 : S1 = []) {M q2 : KM} (hz : kblk M S1.length) (hq : f_History_begin (beginM (xM S1.length M)) = some q2) : Cin y_X_init Y_X_init S1 ((0, kN 0), List.replicate (kN 0) none) M (xS S1.length) q2 := by
  unfold Cin
  have l1 : (S1 ++ [((0, kN 0), List.replicate (kN 0) none)]).length = S1.length + 1 := by rw [List.length_append]; rfl
  have l2 : (S1 ++ xS S1.length).length = S1.length + 382 := by rw [List.length_append, (bl_X _).1]
  have z1 : ksz (S1 ++ [((0, kN 0), List.replicate (kN 0) (none : Option Nat))]) = ksz S1 + 17 := by rw [ksz_app]; rfl
  have z2 : ksz (S1 ++ xS S1.length) = ksz S1 + 30273 := by rw [ksz_app, (bl_X _).2]
  refine ctr_ofL (α := Unit) (e := some ()) (a := ()) (κ := fun _ => .inr (none, S1 ++ xS S1.length, q2)) md_X_init (Nat.le_of_ble_eq_true rfl) (by rw [l1, l2, z1, z2]; omega) 1 rfl rfl (fun _ G hG hi0 => ?_)
  have hi := hi0 rfl
  have g1 : G.2.2.1.2.2.1 = S1.length + 382 := by rw [hG]; exact l2
  have g2 : G.2.2.1.2.2.2 = ksz S1 + 30273 := by rw [hG]; exact z2
  show Sim G Y_X_init (some ()) (kC 0 [some (VR (some S1.length)), none] [] (S1 ++ (((0, kN 0), List.replicate (kN 0) none) :: [])) M) _
  refine s_aload_n (dt_X_init 0 _ _ _ rfl) rfl ?_
  refine s_objInit (dt_X_init 1 _ _ _ rfl) ko_X_1 ⟨kw_objI, kw_objC⟩ rfl ?_
  refine s_aload_n (dt_X_init 2 _ _ _ rfl) rfl ?_
  refine s_sipush (dt_X_init 3 _ _ _ rfl) rfl ?_
  refine i_newB (j := 0) (z := 0) (w := 17) (n := 1600) (dt_X_init 4 _ _ _ rfl) rfl (by decide) kaB ⟨(apN).1, (apN).2, rfl⟩ (hz.up (m := S1.length + (1 + 0)) (by omega)) ⟨by omega, by omega⟩ ?_
  refine i_putR hi (dt_X_init 5 _ _ _ rfl) kv_X_9 rfl ⟨rfl, rfl⟩ rfl ?_
  refine s_aload_n (dt_X_init 6 _ _ _ rfl) rfl ?_
  refine s_iconst (dt_X_init 7 _ _ _ rfl) rfl ?_
  refine i_put0 (dt_X_init 8 _ _ _ rfl) kv_X_13 ⟨rfl, rfl⟩ (hz _ (Nat.le_refl _) _) ?_
  refine s_aload_n (dt_X_init 9 _ _ _ rfl) rfl ?_
  refine i_new (c := 12) (j := 1) (z := 1600) (w := 17) (dt_X_init 10 _ _ _ rfl) (by decide) kq_X_17 ⟨((ap1 (j' := 1) (z' := 1600) apN rfl rfl)).1, ((ap1 (j' := 1) (z' := 1600) apN rfl rfl)).2, rfl⟩ (hz.up (m := S1.length + (1 + 1)) (by omega)) ⟨by omega, by show _ + 17 ≤ _; omega⟩ ?_
  refine s_dup (dt_X_init 11 _ _ _ rfl) rfl ?_
  refine i_call (j := 1) (z := 1600) (w := 17) (ja := 12) (za := 1750) (dt_X_init 12 _ _ _ rfl) rfl kin_Town_init rfl kw_X_19 md_Town_init rfl rfl ⟨((ap1 (j' := 1) (z' := 1600) apN rfl rfl)).1, ((ap1 (j' := 1) (z' := 1600) apN rfl rfl)).2, rfl⟩ (bl_Town _) ⟨by decide, by decide⟩ (ci_Town (n := S1.length + (1 + 1)) (in_len ((ap1 (j' := 1) (z' := 1600) apN rfl rfl)).1) (hz.up (m := S1.length + (1 + 1)) (by omega))) ⟨by omega, by omega⟩ ?_
  refine i_putR hi (dt_X_init 13 _ _ _ rfl) kv_X_20 rfl ⟨rfl, rfl⟩ rfl ?_
  refine s_aload_n (dt_X_init 14 _ _ _ rfl) rfl ?_
  refine i_new (c := 7) (j := 13) (z := 3350) (w := 17) (dt_X_init 15 _ _ _ rfl) (by decide) kq_X_24 ⟨((apB (j' := 13) (z' := 3350) (ap1 (j' := 1) (z' := 1600) apN rfl rfl) (bl_Town _) rfl rfl)).1, ((apB (j' := 13) (z' := 3350) (ap1 (j' := 1) (z' := 1600) apN rfl rfl) (bl_Town _) rfl rfl)).2, rfl⟩ ((hz.up (m := S1.length + (1 + 13)) (by omega)).townM_up (by omega)) ⟨by omega, by show _ + 12 ≤ _; omega⟩ ?_
  refine s_dup (dt_X_init 16 _ _ _ rfl) rfl ?_
  refine i_call (j := 13) (z := 3350) (w := 17) (ja := 20) (za := 8186) (dt_X_init 17 _ _ _ rfl) rfl kin_Reader_init rfl kw_X_26 md_Reader_init rfl rfl ⟨((apB (j' := 13) (z' := 3350) (ap1 (j' := 1) (z' := 1600) apN rfl rfl) (bl_Town _) rfl rfl)).1, ((apB (j' := 13) (z' := 3350) (ap1 (j' := 1) (z' := 1600) apN rfl rfl) (bl_Town _) rfl rfl)).2, rfl⟩ (bl_Reader _) ⟨by decide, by decide⟩ (ci_Reader (n := S1.length + (1 + 13)) (in_len ((apB (j' := 13) (z' := 3350) (ap1 (j' := 1) (z' := 1600) apN rfl rfl) (bl_Town _) rfl rfl)).1) ((hz.up (m := S1.length + (1 + 13)) (by omega)).townM_up (by omega))) ⟨by omega, by omega⟩ ?_
  refine i_putR hi (dt_X_init 18 _ _ _ rfl) kv_X_27 rfl ⟨rfl, rfl⟩ rfl ?_
  refine s_aload_n (dt_X_init 19 _ _ _ rfl) rfl ?_
  refine i_new (c := 10) (j := 33) (z := 11536) (w := 17) (dt_X_init 20 _ _ _ rfl) (by decide) kq_X_31 ⟨((apB (j' := 33) (z' := 11536) (apB (j' := 13) (z' := 3350) (ap1 (j' := 1) (z' := 1600) apN rfl rfl) (bl_Town _) rfl rfl) (bl_Reader _) rfl rfl)).1, ((apB (j' := 33) (z' := 11536) (apB (j' := 13) (z' := 3350) (ap1 (j' := 1) (z' := 1600) apN rfl rfl) (bl_Town _) rfl rfl) (bl_Reader _) rfl rfl)).2, rfl⟩ (((hz.up (m := S1.length + (1 + 33)) (by omega)).townM_up (by omega)).mem_Reader_up (by omega)) ⟨by omega, by show _ + 13 ≤ _; omega⟩ ?_
  refine s_dup (dt_X_init 21 _ _ _ rfl) rfl ?_
  refine i_call (j := 33) (z := 11536) (w := 17) (ja := 7) (za := 149) (dt_X_init 22 _ _ _ rfl) rfl kin_State_init rfl kw_X_33 md_State_init rfl rfl ⟨((apB (j' := 33) (z' := 11536) (apB (j' := 13) (z' := 3350) (ap1 (j' := 1) (z' := 1600) apN rfl rfl) (bl_Town _) rfl rfl) (bl_Reader _) rfl rfl)).1, ((apB (j' := 33) (z' := 11536) (apB (j' := 13) (z' := 3350) (ap1 (j' := 1) (z' := 1600) apN rfl rfl) (bl_Town _) rfl rfl) (bl_Reader _) rfl rfl)).2, rfl⟩ (bl_State _) ⟨by decide, by decide⟩ (ci_State (n := S1.length + (1 + 33)) (in_len ((apB (j' := 33) (z' := 11536) (apB (j' := 13) (z' := 3350) (ap1 (j' := 1) (z' := 1600) apN rfl rfl) (bl_Town _) rfl rfl) (bl_Reader _) rfl rfl)).1) (((hz.up (m := S1.length + (1 + 33)) (by omega)).townM_up (by omega)).mem_Reader_up (by omega))) ⟨by omega, by omega⟩ ?_
  refine i_putR hi (dt_X_init 23 _ _ _ rfl) kv_X_34 rfl ⟨rfl, rfl⟩ rfl ?_
  refine s_aload_n (dt_X_init 24 _ _ _ rfl) rfl ?_
  refine i_new (c := 6) (j := 40) (z := 11685) (w := 17) (dt_X_init 25 _ _ _ rfl) (by decide) kq_X_38 ⟨((apB (j' := 40) (z' := 11685) (apB (j' := 33) (z' := 11536) (apB (j' := 13) (z' := 3350) (ap1 (j' := 1) (z' := 1600) apN rfl rfl) (bl_Town _) rfl rfl) (bl_Reader _) rfl rfl) (bl_State _) rfl rfl)).1, ((apB (j' := 40) (z' := 11685) (apB (j' := 33) (z' := 11536) (apB (j' := 13) (z' := 3350) (ap1 (j' := 1) (z' := 1600) apN rfl rfl) (bl_Town _) rfl rfl) (bl_Reader _) rfl rfl) (bl_State _) rfl rfl)).2, rfl⟩ (((hz.up (m := S1.length + (1 + 40)) (by omega)).townM_up (by omega)).mem_Reader_up (by omega)) ⟨by omega, by show _ + 4 ≤ _; omega⟩ ?_
  refine s_dup (dt_X_init 26 _ _ _ rfl) rfl ?_
  refine i_call (j := 40) (z := 11685) (w := 17) (ja := 289) (za := 6154) (dt_X_init 27 _ _ _ rfl) rfl kin_History_init rfl kw_X_40 md_History_init rfl rfl ⟨((apB (j' := 40) (z' := 11685) (apB (j' := 33) (z' := 11536) (apB (j' := 13) (z' := 3350) (ap1 (j' := 1) (z' := 1600) apN rfl rfl) (bl_Town _) rfl rfl) (bl_Reader _) rfl rfl) (bl_State _) rfl rfl)).1, ((apB (j' := 40) (z' := 11685) (apB (j' := 33) (z' := 11536) (apB (j' := 13) (z' := 3350) (ap1 (j' := 1) (z' := 1600) apN rfl rfl) (bl_Town _) rfl rfl) (bl_Reader _) rfl rfl) (bl_State _) rfl rfl)).2, rfl⟩ (bl_History _) ⟨by decide, by decide⟩ (ci_History (n := S1.length + (1 + 40)) (in_len ((apB (j' := 40) (z' := 11685) (apB (j' := 33) (z' := 11536) (apB (j' := 13) (z' := 3350) (ap1 (j' := 1) (z' := 1600) apN rfl rfl) (bl_Town _) rfl rfl) (bl_Reader _) rfl rfl) (bl_State _) rfl rfl)).1) (((hz.up (m := S1.length + (1 + 40)) (by omega)).townM_up (by omega)).mem_Reader_up (by omega))) ⟨by omega, by omega⟩ ?_
  refine i_putR hi (dt_X_init 28 _ _ _ rfl) kv_X_41 rfl ⟨rfl, rfl⟩ rfl ?_
  refine s_aload_n (dt_X_init 29 _ _ _ rfl) rfl ?_
  refine s_iconst (dt_X_init 30 _ _ _ rfl) rfl ?_
  refine i_newQ (j := 329) (z := 17839) (w := 17) (n := 3) (dt_X_init 31 _ _ _ rfl) rfl (by decide) kq_X_31 ⟨((apB (j' := 329) (z' := 17839) (apB (j' := 40) (z' := 11685) (apB (j' := 33) (z' := 11536) (apB (j' := 13) (z' := 3350) (ap1 (j' := 1) (z' := 1600) apN rfl rfl) (bl_Town _) rfl rfl) (bl_Reader _) rfl rfl) (bl_State _) rfl rfl) (bl_History _) rfl rfl)).1, ((apB (j' := 329) (z' := 17839) (apB (j' := 40) (z' := 11685) (apB (j' := 33) (z' := 11536) (apB (j' := 13) (z' := 3350) (ap1 (j' := 1) (z' := 1600) apN rfl rfl) (bl_Town _) rfl rfl) (bl_Reader _) rfl rfl) (bl_State _) rfl rfl) (bl_History _) rfl rfl)).2, rfl⟩ (((hz.up (m := S1.length + (1 + 329)) (by omega)).townM_up (by omega)).mem_Reader_up (by omega)) ⟨by omega, by omega⟩ ?_
  refine i_putR hi (dt_X_init 32 _ _ _ rfl) kv_X_45 rfl ⟨rfl, rfl⟩ rfl ?_
  refine s_aload_n (dt_X_init 33 _ _ _ rfl) rfl ?_
  refine s_iconst (dt_X_init 34 _ _ _ rfl) rfl ?_
  refine i_put0 (dt_X_init 35 _ _ _ rfl) kv_X_49 ⟨rfl, rfl⟩ (by simp [townM, mem_Reader, mupd_at, hz _ (Nat.le_refl _)]) ?_
  refine s_aload_n (dt_X_init 36 _ _ _ rfl) rfl ?_
  refine s_bipush (dt_X_init 37 _ _ _ rfl) rfl ?_
  refine i_newI (j := 330) (z := 17842) (w := 17) (n := 8) (dt_X_init 38 _ _ _ rfl) rfl (by decide) kaI ⟨((ap1 (j' := 330) (z' := 17842) (apB (j' := 329) (z' := 17839) (apB (j' := 40) (z' := 11685) (apB (j' := 33) (z' := 11536) (apB (j' := 13) (z' := 3350) (ap1 (j' := 1) (z' := 1600) apN rfl rfl) (bl_Town _) rfl rfl) (bl_Reader _) rfl rfl) (bl_State _) rfl rfl) (bl_History _) rfl rfl) rfl rfl)).1, ((ap1 (j' := 330) (z' := 17842) (apB (j' := 329) (z' := 17839) (apB (j' := 40) (z' := 11685) (apB (j' := 33) (z' := 11536) (apB (j' := 13) (z' := 3350) (ap1 (j' := 1) (z' := 1600) apN rfl rfl) (bl_Town _) rfl rfl) (bl_Reader _) rfl rfl) (bl_State _) rfl rfl) (bl_History _) rfl rfl) rfl rfl)).2, rfl⟩ (((hz.up (m := S1.length + (1 + 330)) (by omega)).townM_up (by omega)).mem_Reader_up (by omega)) ⟨by omega, by omega⟩ ?_
  refine i_putR hi (dt_X_init 39 _ _ _ rfl) kv_X_52 rfl ⟨rfl, rfl⟩ rfl ?_
  refine s_aload_n (dt_X_init 40 _ _ _ rfl) rfl ?_
  refine s_iconst (dt_X_init 41 _ _ _ rfl) rfl ?_
  refine i_put0 (dt_X_init 42 _ _ _ rfl) kv_X_56 ⟨rfl, rfl⟩ (by simp [townM, mem_Reader, mupd_at, hz _ (Nat.le_refl _)]) ?_
  refine s_aload_n (dt_X_init 43 _ _ _ rfl) rfl ?_
  refine i_new (c := 8) (j := 331) (z := 17850) (w := 17) (dt_X_init 44 _ _ _ rfl) (by decide) kq_X_59 ⟨((ap1 (j' := 331) (z' := 17850) (ap1 (j' := 330) (z' := 17842) (apB (j' := 329) (z' := 17839) (apB (j' := 40) (z' := 11685) (apB (j' := 33) (z' := 11536) (apB (j' := 13) (z' := 3350) (ap1 (j' := 1) (z' := 1600) apN rfl rfl) (bl_Town _) rfl rfl) (bl_Reader _) rfl rfl) (bl_State _) rfl rfl) (bl_History _) rfl rfl) rfl rfl) rfl rfl)).1, ((ap1 (j' := 331) (z' := 17850) (ap1 (j' := 330) (z' := 17842) (apB (j' := 329) (z' := 17839) (apB (j' := 40) (z' := 11685) (apB (j' := 33) (z' := 11536) (apB (j' := 13) (z' := 3350) (ap1 (j' := 1) (z' := 1600) apN rfl rfl) (bl_Town _) rfl rfl) (bl_Reader _) rfl rfl) (bl_State _) rfl rfl) (bl_History _) rfl rfl) rfl rfl) rfl rfl)).2, rfl⟩ (((hz.up (m := S1.length + (1 + 331)) (by omega)).townM_up (by omega)).mem_Reader_up (by omega)) ⟨by omega, by show _ + 7 ≤ _; omega⟩ ?_
  refine s_dup (dt_X_init 45 _ _ _ rfl) rfl ?_
  refine i_call (j := 331) (z := 17850) (w := 17) (ja := 8) (za := 274) (dt_X_init 46 _ _ _ rfl) rfl kin_Roads_init rfl kw_X_61 md_Roads_init rfl rfl ⟨((ap1 (j' := 331) (z' := 17850) (ap1 (j' := 330) (z' := 17842) (apB (j' := 329) (z' := 17839) (apB (j' := 40) (z' := 11685) (apB (j' := 33) (z' := 11536) (apB (j' := 13) (z' := 3350) (ap1 (j' := 1) (z' := 1600) apN rfl rfl) (bl_Town _) rfl rfl) (bl_Reader _) rfl rfl) (bl_State _) rfl rfl) (bl_History _) rfl rfl) rfl rfl) rfl rfl)).1, ((ap1 (j' := 331) (z' := 17850) (ap1 (j' := 330) (z' := 17842) (apB (j' := 329) (z' := 17839) (apB (j' := 40) (z' := 11685) (apB (j' := 33) (z' := 11536) (apB (j' := 13) (z' := 3350) (ap1 (j' := 1) (z' := 1600) apN rfl rfl) (bl_Town _) rfl rfl) (bl_Reader _) rfl rfl) (bl_State _) rfl rfl) (bl_History _) rfl rfl) rfl rfl) rfl rfl)).2, rfl⟩ (bl_Roads _) ⟨by decide, by decide⟩ (ci_Roads (n := S1.length + (1 + 331)) (in_len ((ap1 (j' := 331) (z' := 17850) (ap1 (j' := 330) (z' := 17842) (apB (j' := 329) (z' := 17839) (apB (j' := 40) (z' := 11685) (apB (j' := 33) (z' := 11536) (apB (j' := 13) (z' := 3350) (ap1 (j' := 1) (z' := 1600) apN rfl rfl) (bl_Town _) rfl rfl) (bl_Reader _) rfl rfl) (bl_State _) rfl rfl) (bl_History _) rfl rfl) rfl rfl) rfl rfl)).1) (((hz.up (m := S1.length + (1 + 331)) (by omega)).townM_up (by omega)).mem_Reader_up (by omega))) ⟨by omega, by omega⟩ ?_
  refine i_putR hi (dt_X_init 47 _ _ _ rfl) kv_X_62 rfl ⟨rfl, rfl⟩ rfl ?_
  refine s_aload_n (dt_X_init 48 _ _ _ rfl) rfl ?_
  refine i_new (c := 2) (j := 339) (z := 18124) (w := 17) (dt_X_init 49 _ _ _ rfl) (by decide) kq_X_66 ⟨((apB (j' := 339) (z' := 18124) (ap1 (j' := 331) (z' := 17850) (ap1 (j' := 330) (z' := 17842) (apB (j' := 329) (z' := 17839) (apB (j' := 40) (z' := 11685) (apB (j' := 33) (z' := 11536) (apB (j' := 13) (z' := 3350) (ap1 (j' := 1) (z' := 1600) apN rfl rfl) (bl_Town _) rfl rfl) (bl_Reader _) rfl rfl) (bl_State _) rfl rfl) (bl_History _) rfl rfl) rfl rfl) rfl rfl) (bl_Roads _) rfl rfl)).1, ((apB (j' := 339) (z' := 18124) (ap1 (j' := 331) (z' := 17850) (ap1 (j' := 330) (z' := 17842) (apB (j' := 329) (z' := 17839) (apB (j' := 40) (z' := 11685) (apB (j' := 33) (z' := 11536) (apB (j' := 13) (z' := 3350) (ap1 (j' := 1) (z' := 1600) apN rfl rfl) (bl_Town _) rfl rfl) (bl_Reader _) rfl rfl) (bl_State _) rfl rfl) (bl_History _) rfl rfl) rfl rfl) rfl rfl) (bl_Roads _) rfl rfl)).2, rfl⟩ (((hz.up (m := S1.length + (1 + 339)) (by omega)).townM_up (by omega)).mem_Reader_up (by omega)) ⟨by omega, by show _ + 5 ≤ _; omega⟩ ?_
  refine s_dup (dt_X_init 50 _ _ _ rfl) rfl ?_
  refine i_call (j := 339) (z := 18124) (w := 17) (ja := 5) (za := 533) (dt_X_init 51 _ _ _ rfl) rfl kin_Debts_init rfl kw_X_68 md_Debts_init rfl rfl ⟨((apB (j' := 339) (z' := 18124) (ap1 (j' := 331) (z' := 17850) (ap1 (j' := 330) (z' := 17842) (apB (j' := 329) (z' := 17839) (apB (j' := 40) (z' := 11685) (apB (j' := 33) (z' := 11536) (apB (j' := 13) (z' := 3350) (ap1 (j' := 1) (z' := 1600) apN rfl rfl) (bl_Town _) rfl rfl) (bl_Reader _) rfl rfl) (bl_State _) rfl rfl) (bl_History _) rfl rfl) rfl rfl) rfl rfl) (bl_Roads _) rfl rfl)).1, ((apB (j' := 339) (z' := 18124) (ap1 (j' := 331) (z' := 17850) (ap1 (j' := 330) (z' := 17842) (apB (j' := 329) (z' := 17839) (apB (j' := 40) (z' := 11685) (apB (j' := 33) (z' := 11536) (apB (j' := 13) (z' := 3350) (ap1 (j' := 1) (z' := 1600) apN rfl rfl) (bl_Town _) rfl rfl) (bl_Reader _) rfl rfl) (bl_State _) rfl rfl) (bl_History _) rfl rfl) rfl rfl) rfl rfl) (bl_Roads _) rfl rfl)).2, rfl⟩ (bl_Debts _) ⟨by decide, by decide⟩ (ci_Debts (n := S1.length + (1 + 339)) (in_len ((apB (j' := 339) (z' := 18124) (ap1 (j' := 331) (z' := 17850) (ap1 (j' := 330) (z' := 17842) (apB (j' := 329) (z' := 17839) (apB (j' := 40) (z' := 11685) (apB (j' := 33) (z' := 11536) (apB (j' := 13) (z' := 3350) (ap1 (j' := 1) (z' := 1600) apN rfl rfl) (bl_Town _) rfl rfl) (bl_Reader _) rfl rfl) (bl_State _) rfl rfl) (bl_History _) rfl rfl) rfl rfl) rfl rfl) (bl_Roads _) rfl rfl)).1) (((hz.up (m := S1.length + (1 + 339)) (by omega)).townM_up (by omega)).mem_Reader_up (by omega))) ⟨by omega, by omega⟩ ?_
  refine i_putR hi (dt_X_init 52 _ _ _ rfl) kv_X_69 rfl ⟨rfl, rfl⟩ rfl ?_
  refine s_aload_n (dt_X_init 53 _ _ _ rfl) rfl ?_
  refine i_new (c := 9) (j := 344) (z := 18657) (w := 17) (dt_X_init 54 _ _ _ rfl) (by decide) kq_X_73 ⟨((apB (j' := 344) (z' := 18657) (apB (j' := 339) (z' := 18124) (ap1 (j' := 331) (z' := 17850) (ap1 (j' := 330) (z' := 17842) (apB (j' := 329) (z' := 17839) (apB (j' := 40) (z' := 11685) (apB (j' := 33) (z' := 11536) (apB (j' := 13) (z' := 3350) (ap1 (j' := 1) (z' := 1600) apN rfl rfl) (bl_Town _) rfl rfl) (bl_Reader _) rfl rfl) (bl_State _) rfl rfl) (bl_History _) rfl rfl) rfl rfl) rfl rfl) (bl_Roads _) rfl rfl) (bl_Debts _) rfl rfl)).1, ((apB (j' := 344) (z' := 18657) (apB (j' := 339) (z' := 18124) (ap1 (j' := 331) (z' := 17850) (ap1 (j' := 330) (z' := 17842) (apB (j' := 329) (z' := 17839) (apB (j' := 40) (z' := 11685) (apB (j' := 33) (z' := 11536) (apB (j' := 13) (z' := 3350) (ap1 (j' := 1) (z' := 1600) apN rfl rfl) (bl_Town _) rfl rfl) (bl_Reader _) rfl rfl) (bl_State _) rfl rfl) (bl_History _) rfl rfl) rfl rfl) rfl rfl) (bl_Roads _) rfl rfl) (bl_Debts _) rfl rfl)).2, rfl⟩ (((hz.up (m := S1.length + (1 + 344)) (by omega)).townM_up (by omega)).mem_Reader_up (by omega)) ⟨by omega, by show _ + 5 ≤ _; omega⟩ ?_
  refine s_dup (dt_X_init 55 _ _ _ rfl) rfl ?_
  refine i_call (j := 344) (z := 18657) (w := 17) (ja := 4) (za := 10973) (dt_X_init 56 _ _ _ rfl) rfl kin_Safety_init rfl kw_X_75 md_Safety_init rfl rfl ⟨((apB (j' := 344) (z' := 18657) (apB (j' := 339) (z' := 18124) (ap1 (j' := 331) (z' := 17850) (ap1 (j' := 330) (z' := 17842) (apB (j' := 329) (z' := 17839) (apB (j' := 40) (z' := 11685) (apB (j' := 33) (z' := 11536) (apB (j' := 13) (z' := 3350) (ap1 (j' := 1) (z' := 1600) apN rfl rfl) (bl_Town _) rfl rfl) (bl_Reader _) rfl rfl) (bl_State _) rfl rfl) (bl_History _) rfl rfl) rfl rfl) rfl rfl) (bl_Roads _) rfl rfl) (bl_Debts _) rfl rfl)).1, ((apB (j' := 344) (z' := 18657) (apB (j' := 339) (z' := 18124) (ap1 (j' := 331) (z' := 17850) (ap1 (j' := 330) (z' := 17842) (apB (j' := 329) (z' := 17839) (apB (j' := 40) (z' := 11685) (apB (j' := 33) (z' := 11536) (apB (j' := 13) (z' := 3350) (ap1 (j' := 1) (z' := 1600) apN rfl rfl) (bl_Town _) rfl rfl) (bl_Reader _) rfl rfl) (bl_State _) rfl rfl) (bl_History _) rfl rfl) rfl rfl) rfl rfl) (bl_Roads _) rfl rfl) (bl_Debts _) rfl rfl)).2, rfl⟩ (bl_Safety _) ⟨by decide, by decide⟩ (ci_Safety (n := S1.length + (1 + 344)) (in_len ((apB (j' := 344) (z' := 18657) (apB (j' := 339) (z' := 18124) (ap1 (j' := 331) (z' := 17850) (ap1 (j' := 330) (z' := 17842) (apB (j' := 329) (z' := 17839) (apB (j' := 40) (z' := 11685) (apB (j' := 33) (z' := 11536) (apB (j' := 13) (z' := 3350) (ap1 (j' := 1) (z' := 1600) apN rfl rfl) (bl_Town _) rfl rfl) (bl_Reader _) rfl rfl) (bl_State _) rfl rfl) (bl_History _) rfl rfl) rfl rfl) rfl rfl) (bl_Roads _) rfl rfl) (bl_Debts _) rfl rfl)).1) (((hz.up (m := S1.length + (1 + 344)) (by omega)).townM_up (by omega)).mem_Reader_up (by omega))) ⟨by omega, by omega⟩ ?_
  refine i_putR hi (dt_X_init 57 _ _ _ rfl) kv_X_76 rfl ⟨rfl, rfl⟩ rfl ?_
  refine s_aload_n (dt_X_init 58 _ _ _ rfl) rfl ?_
  refine i_new (c := 3) (j := 348) (z := 29630) (w := 17) (dt_X_init 59 _ _ _ rfl) (by decide) kq_X_80 ⟨((apB (j' := 348) (z' := 29630) (apB (j' := 344) (z' := 18657) (apB (j' := 339) (z' := 18124) (ap1 (j' := 331) (z' := 17850) (ap1 (j' := 330) (z' := 17842) (apB (j' := 329) (z' := 17839) (apB (j' := 40) (z' := 11685) (apB (j' := 33) (z' := 11536) (apB (j' := 13) (z' := 3350) (ap1 (j' := 1) (z' := 1600) apN rfl rfl) (bl_Town _) rfl rfl) (bl_Reader _) rfl rfl) (bl_State _) rfl rfl) (bl_History _) rfl rfl) rfl rfl) rfl rfl) (bl_Roads _) rfl rfl) (bl_Debts _) rfl rfl) (bl_Safety _) rfl rfl)).1, ((apB (j' := 348) (z' := 29630) (apB (j' := 344) (z' := 18657) (apB (j' := 339) (z' := 18124) (ap1 (j' := 331) (z' := 17850) (ap1 (j' := 330) (z' := 17842) (apB (j' := 329) (z' := 17839) (apB (j' := 40) (z' := 11685) (apB (j' := 33) (z' := 11536) (apB (j' := 13) (z' := 3350) (ap1 (j' := 1) (z' := 1600) apN rfl rfl) (bl_Town _) rfl rfl) (bl_Reader _) rfl rfl) (bl_State _) rfl rfl) (bl_History _) rfl rfl) rfl rfl) rfl rfl) (bl_Roads _) rfl rfl) (bl_Debts _) rfl rfl) (bl_Safety _) rfl rfl)).2, rfl⟩ (((hz.up (m := S1.length + (1 + 348)) (by omega)).townM_up (by omega)).mem_Reader_up (by omega)) ⟨by omega, by show _ + 9 ≤ _; omega⟩ ?_
  refine s_dup (dt_X_init 60 _ _ _ rfl) rfl ?_
  refine i_call (j := 348) (z := 29630) (w := 17) (ja := 6) (za := 137) (dt_X_init 61 _ _ _ rfl) rfl kin_Faces_init rfl kw_X_82 md_Faces_init rfl rfl ⟨((apB (j' := 348) (z' := 29630) (apB (j' := 344) (z' := 18657) (apB (j' := 339) (z' := 18124) (ap1 (j' := 331) (z' := 17850) (ap1 (j' := 330) (z' := 17842) (apB (j' := 329) (z' := 17839) (apB (j' := 40) (z' := 11685) (apB (j' := 33) (z' := 11536) (apB (j' := 13) (z' := 3350) (ap1 (j' := 1) (z' := 1600) apN rfl rfl) (bl_Town _) rfl rfl) (bl_Reader _) rfl rfl) (bl_State _) rfl rfl) (bl_History _) rfl rfl) rfl rfl) rfl rfl) (bl_Roads _) rfl rfl) (bl_Debts _) rfl rfl) (bl_Safety _) rfl rfl)).1, ((apB (j' := 348) (z' := 29630) (apB (j' := 344) (z' := 18657) (apB (j' := 339) (z' := 18124) (ap1 (j' := 331) (z' := 17850) (ap1 (j' := 330) (z' := 17842) (apB (j' := 329) (z' := 17839) (apB (j' := 40) (z' := 11685) (apB (j' := 33) (z' := 11536) (apB (j' := 13) (z' := 3350) (ap1 (j' := 1) (z' := 1600) apN rfl rfl) (bl_Town _) rfl rfl) (bl_Reader _) rfl rfl) (bl_State _) rfl rfl) (bl_History _) rfl rfl) rfl rfl) rfl rfl) (bl_Roads _) rfl rfl) (bl_Debts _) rfl rfl) (bl_Safety _) rfl rfl)).2, rfl⟩ (bl_Faces _) ⟨by decide, by decide⟩ (ci_Faces (n := S1.length + (1 + 348)) (in_len ((apB (j' := 348) (z' := 29630) (apB (j' := 344) (z' := 18657) (apB (j' := 339) (z' := 18124) (ap1 (j' := 331) (z' := 17850) (ap1 (j' := 330) (z' := 17842) (apB (j' := 329) (z' := 17839) (apB (j' := 40) (z' := 11685) (apB (j' := 33) (z' := 11536) (apB (j' := 13) (z' := 3350) (ap1 (j' := 1) (z' := 1600) apN rfl rfl) (bl_Town _) rfl rfl) (bl_Reader _) rfl rfl) (bl_State _) rfl rfl) (bl_History _) rfl rfl) rfl rfl) rfl rfl) (bl_Roads _) rfl rfl) (bl_Debts _) rfl rfl) (bl_Safety _) rfl rfl)).1) (((hz.up (m := S1.length + (1 + 348)) (by omega)).townM_up (by omega)).mem_Reader_up (by omega))) ⟨by omega, by omega⟩ ?_
  refine i_putR hi (dt_X_init 62 _ _ _ rfl) kv_X_83 rfl ⟨rfl, rfl⟩ rfl ?_
  refine s_aload_n (dt_X_init 63 _ _ _ rfl) rfl ?_
  refine i_new (c := 5) (j := 354) (z := 29767) (w := 17) (dt_X_init 64 _ _ _ rfl) (by decide) kq_X_87 ⟨((apB (j' := 354) (z' := 29767) (apB (j' := 348) (z' := 29630) (apB (j' := 344) (z' := 18657) (apB (j' := 339) (z' := 18124) (ap1 (j' := 331) (z' := 17850) (ap1 (j' := 330) (z' := 17842) (apB (j' := 329) (z' := 17839) (apB (j' := 40) (z' := 11685) (apB (j' := 33) (z' := 11536) (apB (j' := 13) (z' := 3350) (ap1 (j' := 1) (z' := 1600) apN rfl rfl) (bl_Town _) rfl rfl) (bl_Reader _) rfl rfl) (bl_State _) rfl rfl) (bl_History _) rfl rfl) rfl rfl) rfl rfl) (bl_Roads _) rfl rfl) (bl_Debts _) rfl rfl) (bl_Safety _) rfl rfl) (bl_Faces _) rfl rfl)).1, ((apB (j' := 354) (z' := 29767) (apB (j' := 348) (z' := 29630) (apB (j' := 344) (z' := 18657) (apB (j' := 339) (z' := 18124) (ap1 (j' := 331) (z' := 17850) (ap1 (j' := 330) (z' := 17842) (apB (j' := 329) (z' := 17839) (apB (j' := 40) (z' := 11685) (apB (j' := 33) (z' := 11536) (apB (j' := 13) (z' := 3350) (ap1 (j' := 1) (z' := 1600) apN rfl rfl) (bl_Town _) rfl rfl) (bl_Reader _) rfl rfl) (bl_State _) rfl rfl) (bl_History _) rfl rfl) rfl rfl) rfl rfl) (bl_Roads _) rfl rfl) (bl_Debts _) rfl rfl) (bl_Safety _) rfl rfl) (bl_Faces _) rfl rfl)).2, rfl⟩ (((hz.up (m := S1.length + (1 + 354)) (by omega)).townM_up (by omega)).mem_Reader_up (by omega)) ⟨by omega, by show _ + 10 ≤ _; omega⟩ ?_
  refine s_dup (dt_X_init 65 _ _ _ rfl) rfl ?_
  refine i_call (j := 354) (z := 29767) (w := 17) (ja := 5) (za := 34) (dt_X_init 66 _ _ _ rfl) rfl kin_Gifts_init rfl kw_X_89 md_Gifts_init rfl rfl ⟨((apB (j' := 354) (z' := 29767) (apB (j' := 348) (z' := 29630) (apB (j' := 344) (z' := 18657) (apB (j' := 339) (z' := 18124) (ap1 (j' := 331) (z' := 17850) (ap1 (j' := 330) (z' := 17842) (apB (j' := 329) (z' := 17839) (apB (j' := 40) (z' := 11685) (apB (j' := 33) (z' := 11536) (apB (j' := 13) (z' := 3350) (ap1 (j' := 1) (z' := 1600) apN rfl rfl) (bl_Town _) rfl rfl) (bl_Reader _) rfl rfl) (bl_State _) rfl rfl) (bl_History _) rfl rfl) rfl rfl) rfl rfl) (bl_Roads _) rfl rfl) (bl_Debts _) rfl rfl) (bl_Safety _) rfl rfl) (bl_Faces _) rfl rfl)).1, ((apB (j' := 354) (z' := 29767) (apB (j' := 348) (z' := 29630) (apB (j' := 344) (z' := 18657) (apB (j' := 339) (z' := 18124) (ap1 (j' := 331) (z' := 17850) (ap1 (j' := 330) (z' := 17842) (apB (j' := 329) (z' := 17839) (apB (j' := 40) (z' := 11685) (apB (j' := 33) (z' := 11536) (apB (j' := 13) (z' := 3350) (ap1 (j' := 1) (z' := 1600) apN rfl rfl) (bl_Town _) rfl rfl) (bl_Reader _) rfl rfl) (bl_State _) rfl rfl) (bl_History _) rfl rfl) rfl rfl) rfl rfl) (bl_Roads _) rfl rfl) (bl_Debts _) rfl rfl) (bl_Safety _) rfl rfl) (bl_Faces _) rfl rfl)).2, rfl⟩ (bl_Gifts _) ⟨by decide, by decide⟩ (ci_Gifts (n := S1.length + (1 + 354)) (in_len ((apB (j' := 354) (z' := 29767) (apB (j' := 348) (z' := 29630) (apB (j' := 344) (z' := 18657) (apB (j' := 339) (z' := 18124) (ap1 (j' := 331) (z' := 17850) (ap1 (j' := 330) (z' := 17842) (apB (j' := 329) (z' := 17839) (apB (j' := 40) (z' := 11685) (apB (j' := 33) (z' := 11536) (apB (j' := 13) (z' := 3350) (ap1 (j' := 1) (z' := 1600) apN rfl rfl) (bl_Town _) rfl rfl) (bl_Reader _) rfl rfl) (bl_State _) rfl rfl) (bl_History _) rfl rfl) rfl rfl) rfl rfl) (bl_Roads _) rfl rfl) (bl_Debts _) rfl rfl) (bl_Safety _) rfl rfl) (bl_Faces _) rfl rfl)).1) (((hz.up (m := S1.length + (1 + 354)) (by omega)).townM_up (by omega)).mem_Reader_up (by omega))) ⟨by omega, by omega⟩ ?_
  refine i_putR hi (dt_X_init 67 _ _ _ rfl) kv_X_90 rfl ⟨rfl, rfl⟩ rfl ?_
  refine s_aload_n (dt_X_init 68 _ _ _ rfl) rfl ?_
  refine s_bipush (dt_X_init 69 _ _ _ rfl) rfl ?_
  refine i_newI (j := 359) (z := 29801) (w := 17) (n := 8) (dt_X_init 70 _ _ _ rfl) rfl (by decide) kaI ⟨((apB (j' := 359) (z' := 29801) (apB (j' := 354) (z' := 29767) (apB (j' := 348) (z' := 29630) (apB (j' := 344) (z' := 18657) (apB (j' := 339) (z' := 18124) (ap1 (j' := 331) (z' := 17850) (ap1 (j' := 330) (z' := 17842) (apB (j' := 329) (z' := 17839) (apB (j' := 40) (z' := 11685) (apB (j' := 33) (z' := 11536) (apB (j' := 13) (z' := 3350) (ap1 (j' := 1) (z' := 1600) apN rfl rfl) (bl_Town _) rfl rfl) (bl_Reader _) rfl rfl) (bl_State _) rfl rfl) (bl_History _) rfl rfl) rfl rfl) rfl rfl) (bl_Roads _) rfl rfl) (bl_Debts _) rfl rfl) (bl_Safety _) rfl rfl) (bl_Faces _) rfl rfl) (bl_Gifts _) rfl rfl)).1, ((apB (j' := 359) (z' := 29801) (apB (j' := 354) (z' := 29767) (apB (j' := 348) (z' := 29630) (apB (j' := 344) (z' := 18657) (apB (j' := 339) (z' := 18124) (ap1 (j' := 331) (z' := 17850) (ap1 (j' := 330) (z' := 17842) (apB (j' := 329) (z' := 17839) (apB (j' := 40) (z' := 11685) (apB (j' := 33) (z' := 11536) (apB (j' := 13) (z' := 3350) (ap1 (j' := 1) (z' := 1600) apN rfl rfl) (bl_Town _) rfl rfl) (bl_Reader _) rfl rfl) (bl_State _) rfl rfl) (bl_History _) rfl rfl) rfl rfl) rfl rfl) (bl_Roads _) rfl rfl) (bl_Debts _) rfl rfl) (bl_Safety _) rfl rfl) (bl_Faces _) rfl rfl) (bl_Gifts _) rfl rfl)).2, rfl⟩ (((hz.up (m := S1.length + (1 + 359)) (by omega)).townM_up (by omega)).mem_Reader_up (by omega)) ⟨by omega, by omega⟩ ?_
  refine i_putR hi (dt_X_init 71 _ _ _ rfl) kv_X_94 rfl ⟨rfl, rfl⟩ rfl ?_
  refine s_aload_n (dt_X_init 72 _ _ _ rfl) rfl ?_
  refine s_iconst (dt_X_init 73 _ _ _ rfl) rfl ?_
  refine i_put0 (dt_X_init 74 _ _ _ rfl) kv_X_97 ⟨rfl, rfl⟩ (by simp [townM, mem_Reader, mupd_at, hz _ (Nat.le_refl _)]) ?_
  refine s_iconst (dt_X_init 75 _ _ _ rfl) rfl ?_
  refine s_istore_n (dt_X_init 76 _ _ _ rfl) rfl ?_
  rw [x_assoc]
  have hzx : kblk (xM S1.length M) (S1.length + (1 + 360)) := ((hz.up (m := S1.length + (1 + 360)) (by omega)).townM_up (by omega)).mem_Reader_up (by omega)
  show Sim G Y_X_init (some ()) (kC 158 [some (VR (some S1.length)), some (VI 0)] [] (S1 ++ (xO S1.length :: (xA S1.length ++ (((24, 3), [none, none, none]) :: xY S1.length)))) (xM S1.length M)) _
  generalize xM S1.length M = Mx at *
  refine s_iload_n (dt_X_init 77 _ _ _ rfl) rfl ?_
  refine s_aload_n (dt_X_init 78 _ _ _ rfl) rfl ?_
  refine s_getR (c := 0) (j := 6) (o := some (S1.length + (1 + 329))) (dt_X_init 79 _ _ _ rfl) kf_X_45 in_get rfl rfl ?_
  refine s_alen (N := 3) (dt_X_init 80 _ _ _ rfl) (in_getJ (xA_len _).1) rfl rfl (by decide) ?_
  rw [show (some () : Option Unit) = (if (0 : Int) < 3 then some () else none) from rfl]
  refine s_if_icmp_ge (tgt := 186) (dt_X_init 81 _ _ _ rfl) rfl ?_ s_no
  refine s_aload_n (dt_X_init 82 _ _ _ rfl) rfl ?_
  refine s_getR (c := 0) (j := 6) (o := some (S1.length + (1 + 329))) (dt_X_init 83 _ _ _ rfl) kf_X_45 in_get rfl rfl ?_
  refine s_iload_n (dt_X_init 84 _ _ _ rfl) rfl ?_
  have hr0 := (apB (j' := 360) (z' := 29809) (xA_len S1.length) (ap0 (w := 3) (q := ((24, 3), [none, none, none])) (j' := 31) (z' := 11970) rfl (xY_len S1.length) rfl rfl) rfl rfl)
  refine i_new (c := 10) (j := 360) (z := 29809) (w := 17) (dt_X_init 85 _ _ _ rfl) (by decide) kq_X_31 ⟨hr0.1, hr0.2, rfl⟩ (hzx.up (by omega)) ⟨by omega, by show _ + 13 ≤ _; omega⟩ ?_
  refine s_dup (dt_X_init 86 _ _ _ rfl) rfl ?_
  refine i_call (j := 360) (z := 29809) (w := 17) (ja := 7) (za := 149) (dt_X_init 87 _ _ _ rfl) rfl kin_State_init rfl kw_X_33 md_State_init rfl rfl ⟨hr0.1, hr0.2, rfl⟩ (bl_State _) ⟨by decide, by decide⟩ (ci_State (n := S1.length + (1 + 360)) (in_len hr0.1) (hzx.up (by omega))) ⟨by omega, by omega⟩ ?_
  rw [show (some () : Option Unit) = (if 0 ≤ (0 : Int) ∧ (0 : Int) < 3 then some () else none) from rfl]
  refine s_aastq (n2 := 13) (dt_X_init 88 _ _ _ rfl) (in_getK (xA_len _).1) (in_getJ hr0.1) rfl rfl ?_
  rw [in_setK (xA_len _).1]
  refine s_iinc (dt_X_init 89 _ _ _ rfl) rfl rfl ?_
  refine s_goto (tgt := 158) (dt_X_init 90 _ _ _ rfl) rfl ?_
  show Sim G Y_X_init (some ()) (kC 158 [some (VR (some S1.length)), some (VI (w32 ((0 : Int) + 1)))] [] (S1 ++ (xO S1.length :: (xA S1.length ++ (((24, 3), [some (S1.length + (1 + 360)), none, none]) :: (xY S1.length ++ blk_State (S1.length + (1 + 360))))))) Mx) _
  rw [show w32 ((0 : Int) + 1) = 1 from by decide]
  refine s_iload_n (dt_X_init 77 _ _ _ rfl) rfl ?_
  refine s_aload_n (dt_X_init 78 _ _ _ rfl) rfl ?_
  refine s_getR (c := 0) (j := 6) (o := some (S1.length + (1 + 329))) (dt_X_init 79 _ _ _ rfl) kf_X_45 in_get rfl rfl ?_
  refine s_alen (N := 3) (dt_X_init 80 _ _ _ rfl) (in_getJ (xA_len _).1) rfl rfl (by decide) ?_
  rw [show (some () : Option Unit) = (if (1 : Int) < 3 then some () else none) from rfl]
  refine s_if_icmp_ge (tgt := 186) (dt_X_init 81 _ _ _ rfl) rfl ?_ s_no
  refine s_aload_n (dt_X_init 82 _ _ _ rfl) rfl ?_
  refine s_getR (c := 0) (j := 6) (o := some (S1.length + (1 + 329))) (dt_X_init 83 _ _ _ rfl) kf_X_45 in_get rfl rfl ?_
  refine s_iload_n (dt_X_init 84 _ _ _ rfl) rfl ?_
  have hr1 := (apB (j' := 367) (z' := 29958) (xA_len S1.length) (ap0 (w := 3) (q := ((24, 3), [some (S1.length + (1 + 360)), none, none])) (j' := 38) (z' := 12119) rfl (apB (j' := 37) (z' := 12116) (xY_len S1.length) (bl_State (S1.length + (1 + 360))) rfl rfl) rfl rfl) rfl rfl)
  refine i_new (c := 10) (j := 367) (z := 29958) (w := 17) (dt_X_init 85 _ _ _ rfl) (by decide) kq_X_31 ⟨hr1.1, hr1.2, rfl⟩ (hzx.up (by omega)) ⟨by omega, by show _ + 13 ≤ _; omega⟩ ?_
  refine s_dup (dt_X_init 86 _ _ _ rfl) rfl ?_
  refine i_call (j := 367) (z := 29958) (w := 17) (ja := 7) (za := 149) (dt_X_init 87 _ _ _ rfl) rfl kin_State_init rfl kw_X_33 md_State_init rfl rfl ⟨hr1.1, hr1.2, rfl⟩ (bl_State _) ⟨by decide, by decide⟩ (ci_State (n := S1.length + (1 + 367)) (in_len hr1.1) (hzx.up (by omega))) ⟨by omega, by omega⟩ ?_
  rw [show (some () : Option Unit) = (if 0 ≤ (1 : Int) ∧ (1 : Int) < 3 then some () else none) from rfl]
  refine s_aastq (n2 := 13) (dt_X_init 88 _ _ _ rfl) (in_getK (xA_len _).1) (in_getJ hr1.1) rfl rfl ?_
  rw [in_setK (xA_len _).1]
  refine s_iinc (dt_X_init 89 _ _ _ rfl) rfl rfl ?_
  refine s_goto (tgt := 158) (dt_X_init 90 _ _ _ rfl) rfl ?_
  show Sim G Y_X_init (some ()) (kC 158 [some (VR (some S1.length)), some (VI (w32 ((1 : Int) + 1)))] [] (S1 ++ (xO S1.length :: (xA S1.length ++ (((24, 3), [some (S1.length + (1 + 360)), some (S1.length + (1 + 367)), none]) :: ((xY S1.length ++ blk_State (S1.length + (1 + 360))) ++ blk_State (S1.length + (1 + 367))))))) Mx) _
  rw [show w32 ((1 : Int) + 1) = 2 from by decide]
  refine s_iload_n (dt_X_init 77 _ _ _ rfl) rfl ?_
  refine s_aload_n (dt_X_init 78 _ _ _ rfl) rfl ?_
  refine s_getR (c := 0) (j := 6) (o := some (S1.length + (1 + 329))) (dt_X_init 79 _ _ _ rfl) kf_X_45 in_get rfl rfl ?_
  refine s_alen (N := 3) (dt_X_init 80 _ _ _ rfl) (in_getJ (xA_len _).1) rfl rfl (by decide) ?_
  rw [show (some () : Option Unit) = (if (2 : Int) < 3 then some () else none) from rfl]
  refine s_if_icmp_ge (tgt := 186) (dt_X_init 81 _ _ _ rfl) rfl ?_ s_no
  refine s_aload_n (dt_X_init 82 _ _ _ rfl) rfl ?_
  refine s_getR (c := 0) (j := 6) (o := some (S1.length + (1 + 329))) (dt_X_init 83 _ _ _ rfl) kf_X_45 in_get rfl rfl ?_
  refine s_iload_n (dt_X_init 84 _ _ _ rfl) rfl ?_
  have hr2 := (apB (j' := 374) (z' := 30107) (xA_len S1.length) (ap0 (w := 3) (q := ((24, 3), [some (S1.length + (1 + 360)), some (S1.length + (1 + 367)), none])) (j' := 45) (z' := 12268) rfl (apB (j' := 44) (z' := 12265) (apB (j' := 37) (z' := 12116) (xY_len S1.length) (bl_State (S1.length + (1 + 360))) rfl rfl) (bl_State (S1.length + (1 + 367))) rfl rfl) rfl rfl) rfl rfl)
  refine i_new (c := 10) (j := 374) (z := 30107) (w := 17) (dt_X_init 85 _ _ _ rfl) (by decide) kq_X_31 ⟨hr2.1, hr2.2, rfl⟩ (hzx.up (by omega)) ⟨by omega, by show _ + 13 ≤ _; omega⟩ ?_
  refine s_dup (dt_X_init 86 _ _ _ rfl) rfl ?_
  refine i_call (j := 374) (z := 30107) (w := 17) (ja := 7) (za := 149) (dt_X_init 87 _ _ _ rfl) rfl kin_State_init rfl kw_X_33 md_State_init rfl rfl ⟨hr2.1, hr2.2, rfl⟩ (bl_State _) ⟨by decide, by decide⟩ (ci_State (n := S1.length + (1 + 374)) (in_len hr2.1) (hzx.up (by omega))) ⟨by omega, by omega⟩ ?_
  rw [show (some () : Option Unit) = (if 0 ≤ (2 : Int) ∧ (2 : Int) < 3 then some () else none) from rfl]
  refine s_aastq (n2 := 13) (dt_X_init 88 _ _ _ rfl) (in_getK (xA_len _).1) (in_getJ hr2.1) rfl rfl ?_
  rw [in_setK (xA_len _).1]
  refine s_iinc (dt_X_init 89 _ _ _ rfl) rfl rfl ?_
  refine s_goto (tgt := 158) (dt_X_init 90 _ _ _ rfl) rfl ?_
  show Sim G Y_X_init (some ()) (kC 158 [some (VR (some S1.length)), some (VI (w32 ((2 : Int) + 1)))] [] (S1 ++ (xO S1.length :: (xA S1.length ++ (((24, 3), [some (S1.length + (1 + 360)), some (S1.length + (1 + 367)), some (S1.length + (1 + 374))]) :: (((xY S1.length ++ blk_State (S1.length + (1 + 360))) ++ blk_State (S1.length + (1 + 367))) ++ blk_State (S1.length + (1 + 374))))))) Mx) _
  rw [show w32 ((2 : Int) + 1) = 3 from by decide]
  refine s_iload_n (dt_X_init 77 _ _ _ rfl) rfl ?_
  refine s_aload_n (dt_X_init 78 _ _ _ rfl) rfl ?_
  refine s_getR (c := 0) (j := 6) (o := some (S1.length + (1 + 329))) (dt_X_init 79 _ _ _ rfl) kf_X_45 in_get rfl rfl ?_
  refine s_alen (N := 3) (dt_X_init 80 _ _ _ rfl) (in_getJ (xA_len _).1) rfl rfl (by decide) ?_
  rw [show (some () : Option Unit) = (if (3 : Int) < 3 then none else some ()) from rfl]
  refine s_if_icmp_ge (tgt := 186) (dt_X_init 81 _ _ _ rfl) rfl s_no ?_
  subst hS1
  have hE : KExt 382 (([] : KS) ++ xS ([] : KS).length) := fun k q hk hq => by
    show (xS 0)[k]? = some q
    rw [xS_0, List.getElem?_take, if_pos hk]; exact hq
  show Sim G Y_X_init (some ()) (kC 186 [some (VR (some 0)), some (VI 3)] [] (([] : KS) ++ xS ([] : KS).length) Mx) _
  refine s_aload_n (dt_X_init 91 _ _ _ rfl) rfl ?_
  refine s_getR (c := 0) (j := 4) (o := some 34) (dt_X_init 92 _ _ _ rfl) kf_X_34 (sc_0 hE) rfl rfl ?_
  refine s_aload_n (dt_X_init 93 _ _ _ rfl) rfl ?_
  refine s_getR (c := 0) (j := 2) (o := some 2) (dt_X_init 94 _ _ _ rfl) kf_X_20 (sc_0 hE) rfl rfl ?_
  refine s_inv (y := y_State_begin) (Y' := Y_State_begin) (np := 1) (as := [VR (some 34), VR (some 2)]) (r := none) (Or.inr (Or.inl ⟨(dt_X_init 95 _ _ _ rfl), kin_State_begin, 10, 34, 13, _, [VR (some 2)], by decide, sc_34 hE, kse_State_begin, rfl, rfl⟩)) (kw_X_100) md_State_begin rfl rfl (c_State_begin hE Mx _ (X_sbegin Mx)) ?_
  refine s_aload_n (dt_X_init 96 _ _ _ rfl) rfl ?_
  refine s_getR (c := 0) (j := 5) (o := some 41) (dt_X_init 97 _ _ _ rfl) kf_X_41 (sc_0 hE) rfl rfl ?_
  refine s_aload_n (dt_X_init 98 _ _ _ rfl) rfl ?_
  refine s_getR (c := 0) (j := 4) (o := some 34) (dt_X_init 99 _ _ _ rfl) kf_X_34 (sc_0 hE) rfl rfl ?_
  refine s_inv (y := y_History_begin) (Y' := Y_History_begin) (np := 1) (as := [VR (some 41), VR (some 34)]) (r := none) (Or.inr (Or.inl ⟨(dt_X_init 100 _ _ _ rfl), kin_History_begin, 6, 41, 4, _, [VR (some 34)], by decide, sc_41 hE, kse_History_begin, rfl, rfl⟩)) (kw_X_104) md_History_begin rfl rfl (c_History_begin hE _ _ hq) ?_
  exact s_vret (dt_X_init 101 _ _ _ rfl) rfl rfl
