/-! THE REFERENCE IS MADE: its walk up to its two calls, piece by piece -/
def y_M_init : MethodName := ⟨"YearHandsModel", "<init>", "()V"⟩
abbrev Y_M_init : KY := ("YearHandsModel", prog_14_method_1_code, 1, none, 100)
def D_M_init : List (Nat × Instr × Nat) := [(0, .aload_n 0, 1), (1, .invokespecial 1, 3), (4, .aload_n 0, 1), (5, .sipush 1620, 3), (8, .newarray .byte, 2), (10, .putfield 7, 3), (13, .aload_n 0, 1), (14, .sipush 1600, 3), (17, .newarray .byte, 2), (19, .putfield 13, 3), (22, .aload_n 0, 1), (23, .iconst (-1), 1), (24, .putfield 16, 3), (27, .aload_n 0, 1), (28, .iconst 2, 1), (29, .newarray .int, 2), (31, .putfield 20, 3), (34, .aload_n 0, 1), (35, .iconst 2, 1), (36, .newarray .int, 2), (38, .putfield 24, 3), (41, .aload_n 0, 1), (42, .iconst 2, 1), (43, .newarray .int, 2), (45, .putfield 27, 3), (48, .aload_n 0, 1), (49, .iconst 2, 1), (50, .newarray .int, 2), (52, .putfield 30, 3), (55, .aload_n 0, 1), (56, .iconst 2, 1), (57, .newarray .int, 2), (59, .putfield 33, 3), (62, .aload_n 0, 1), (63, .iconst 2, 1), (64, .newarray .int, 2), (66, .putfield 36, 3), (69, .aload_n 0, 1), (70, .iconst 2, 1), (71, .newarray .int, 2), (73, .putfield 39, 3), (76, .aload_n 0, 1), (77, .iconst 2, 1), (78, .newarray .int, 2), (80, .putfield 42, 3), (83, .aload_n 0, 1), (84, .bipush 16, 2), (86, .newarray .int, 2), (88, .putfield 45, 3), (91, .aload_n 0, 1), (92, .bipush 16, 2), (94, .newarray .int, 2), (96, .putfield 48, 3), (99, .aload_n 0, 1), (100, .bipush 16, 2), (102, .newarray .int, 2), (104, .putfield 51, 3), (107, .aload_n 0, 1), (108, .bipush 16, 2), (110, .newarray .int, 2), (112, .putfield 54, 3), (115, .aload_n 0, 1), (116, .bipush 40, 2), (118, .newarray .int, 2), (120, .putfield 57, 3), (123, .aload_n 0, 1), (124, .bipush 40, 2), (126, .newarray .int, 2), (128, .putfield 60, 3), (131, .aload_n 0, 1), (132, .bipush 40, 2), (134, .newarray .int, 2), (136, .putfield 63, 3), (139, .aload_n 0, 1), (140, .bipush 14, 2), (142, .newarray .int, 2), (144, .putfield 66, 3), (147, .aload_n 0, 1), (148, .bipush 14, 2), (150, .newarray .int, 2), (152, .putfield 69, 3), (155, .aload_n 0, 1), (156, .iconst 2, 1), (157, .newarray .boolean, 2), (159, .putfield 72, 3), (162, .aload_n 0, 1), (163, .bipush 14, 2), (165, .newarray .boolean, 2), (167, .putfield 76, 3), (170, .aload_n 0, 1), (171, .bipush 16, 2), (173, .newarray .long, 2), (175, .putfield 79, 3), (178, .aload_n 0, 1), (179, .bipush 12, 2), (181, .newarray .long, 2), (183, .putfield 83, 3), (186, .aload_n 0, 1), (187, .sipush 1120, 3), (190, .newarray .int, 2), (192, .putfield 86, 3), (195, .aload_n 0, 1), (196, .sipush 1120, 3), (199, .newarray .int, 2), (201, .putfield 89, 3), (204, .aload_n 0, 1), (205, .bipush 90, 2), (207, .newarray .int, 2), (209, .putfield 92, 3), (212, .aload_n 0, 1), (213, .bipush 90, 2), (215, .newarray .int, 2), (217, .putfield 95, 3), (220, .aload_n 0, 1), (221, .bipush 60, 2), (223, .newarray .int, 2), (225, .putfield 98, 3), (228, .aload_n 0, 1), (229, .sipush 171, 3), (232, .newarray .int, 2), (234, .putfield 101, 3), (237, .aload_n 0, 1), (238, .sipush 7011, 3), (241, .newarray .int, 2), (243, .putfield 104, 3), (246, .aload_n 0, 1), (247, .bipush 64, 2), (249, .newarray .int, 2), (251, .putfield 107, 3), (254, .aload_n 0, 1), (255, .bipush 8, 2), (257, .newarray .int, 2), (259, .putfield 110, 3), (262, .aload_n 0, 1), (263, .bipush 8, 2), (265, .newarray .int, 2), (267, .putfield 113, 3), (270, .aload_n 0, 1), (271, .bipush 64, 2), (273, .newarray .int, 2), (275, .putfield 116, 3), (278, .aload_n 0, 1), (279, .bipush 8, 2), (281, .newarray .int, 2), (283, .putfield 119, 3), (286, .aload_n 0, 1), (287, .bipush 8, 2), (289, .newarray .int, 2), (291, .putfield 122, 3), (294, .aload_n 0, 1), (295, .bipush 8, 2), (297, .newarray .boolean, 2), (299, .putfield 125, 3), (302, .aload_n 0, 1), (303, .bipush 8, 2), (305, .newarray .int, 2), (307, .putfield 128, 3), (310, .aload_n 0, 1), (311, .sipush 256, 3), (314, .newarray .int, 2), (316, .putfield 131, 3), (319, .aload_n 0, 1), (320, .iconst (-1), 1), (321, .putfield 134, 3), (324, .aload_n 0, 1), (325, .sipush 10809, 3), (328, .newarray .int, 2), (330, .putfield 137, 3), (333, .aload_n 0, 1), (334, .sipush 151, 3), (337, .newarray .int, 2), (339, .putfield 140, 3), (342, .aload_n 0, 1), (343, .bipush 8, 2), (345, .newarray .int, 2), (347, .putfield 143, 3), (350, .aload_n 0, 1), (351, .bipush 8, 2), (353, .newarray .int, 2), (355, .putfield 146, 3), (358, .aload_n 0, 1), (359, .bipush 30, 2), (361, .newarray .int, 2), (363, .putfield 149, 3), (366, .aload_n 0, 1), (367, .bipush 30, 2), (369, .newarray .int, 2), (371, .putfield 152, 3), (374, .aload_n 0, 1), (375, .bipush 30, 2), (377, .newarray .int, 2), (379, .putfield 155, 3), (382, .aload_n 0, 1), (383, .bipush 30, 2), (385, .newarray .int, 2), (387, .putfield 158, 3), (390, .aload_n 0, 1), (391, .bipush 8, 2), (393, .newarray .int, 2), (395, .putfield 161, 3), (398, .aload_n 0, 1), (399, .bipush 8, 2), (401, .newarray .int, 2), (403, .putfield 164, 3), (406, .aload_n 0, 1), (407, .bipush 8, 2), (409, .newarray .int, 2), (411, .putfield 167, 3), (414, .aload_n 0, 1), (415, .sipush 513, 3), (418, .newarray .int, 2), (420, .putfield 170, 3), (423, .aload_n 0, 1), (424, .iconst 3, 1), (425, .newarray .boolean, 2), (427, .putfield 173, 3), (430, .aload_n 0, 1), (431, .invokevirtual 176, 3), (434, .aload_n 0, 1), (435, .invokevirtual 179, 3), (438, .return_, 1)]
def D_M_init_0 : List (Nat × Instr × Nat) := [(0, .aload_n 0, 1), (1, .invokespecial 1, 3), (4, .aload_n 0, 1), (5, .sipush 1620, 3), (8, .newarray .byte, 2), (10, .putfield 7, 3), (13, .aload_n 0, 1), (14, .sipush 1600, 3), (17, .newarray .byte, 2), (19, .putfield 13, 3), (22, .aload_n 0, 1), (23, .iconst (-1), 1), (24, .putfield 16, 3), (27, .aload_n 0, 1), (28, .iconst 2, 1), (29, .newarray .int, 2), (31, .putfield 20, 3), (34, .aload_n 0, 1), (35, .iconst 2, 1), (36, .newarray .int, 2), (38, .putfield 24, 3), (41, .aload_n 0, 1), (42, .iconst 2, 1), (43, .newarray .int, 2), (45, .putfield 27, 3), (48, .aload_n 0, 1), (49, .iconst 2, 1), (50, .newarray .int, 2), (52, .putfield 30, 3), (55, .aload_n 0, 1)]
theorem dt_M_init_0 : ∀ q ∈ D_M_init_0, decode prog_14_method_1_code q.1 = .ok (q.2.1, q.2.2) := by decide +kernel
def D_M_init_1 : List (Nat × Instr × Nat) := [(56, .iconst 2, 1), (57, .newarray .int, 2), (59, .putfield 33, 3), (62, .aload_n 0, 1), (63, .iconst 2, 1), (64, .newarray .int, 2), (66, .putfield 36, 3), (69, .aload_n 0, 1), (70, .iconst 2, 1), (71, .newarray .int, 2), (73, .putfield 39, 3), (76, .aload_n 0, 1), (77, .iconst 2, 1), (78, .newarray .int, 2), (80, .putfield 42, 3), (83, .aload_n 0, 1), (84, .bipush 16, 2), (86, .newarray .int, 2), (88, .putfield 45, 3), (91, .aload_n 0, 1), (92, .bipush 16, 2), (94, .newarray .int, 2), (96, .putfield 48, 3), (99, .aload_n 0, 1), (100, .bipush 16, 2), (102, .newarray .int, 2), (104, .putfield 51, 3), (107, .aload_n 0, 1), (108, .bipush 16, 2), (110, .newarray .int, 2)]
theorem dt_M_init_1 : ∀ q ∈ D_M_init_1, decode prog_14_method_1_code q.1 = .ok (q.2.1, q.2.2) := by decide +kernel
def D_M_init_2 : List (Nat × Instr × Nat) := [(112, .putfield 54, 3), (115, .aload_n 0, 1), (116, .bipush 40, 2), (118, .newarray .int, 2), (120, .putfield 57, 3), (123, .aload_n 0, 1), (124, .bipush 40, 2), (126, .newarray .int, 2), (128, .putfield 60, 3), (131, .aload_n 0, 1), (132, .bipush 40, 2), (134, .newarray .int, 2), (136, .putfield 63, 3), (139, .aload_n 0, 1), (140, .bipush 14, 2), (142, .newarray .int, 2), (144, .putfield 66, 3), (147, .aload_n 0, 1), (148, .bipush 14, 2), (150, .newarray .int, 2), (152, .putfield 69, 3), (155, .aload_n 0, 1), (156, .iconst 2, 1), (157, .newarray .boolean, 2), (159, .putfield 72, 3), (162, .aload_n 0, 1), (163, .bipush 14, 2), (165, .newarray .boolean, 2), (167, .putfield 76, 3), (170, .aload_n 0, 1)]
theorem dt_M_init_2 : ∀ q ∈ D_M_init_2, decode prog_14_method_1_code q.1 = .ok (q.2.1, q.2.2) := by decide +kernel
def D_M_init_3 : List (Nat × Instr × Nat) := [(171, .bipush 16, 2), (173, .newarray .long, 2), (175, .putfield 79, 3), (178, .aload_n 0, 1), (179, .bipush 12, 2), (181, .newarray .long, 2), (183, .putfield 83, 3), (186, .aload_n 0, 1), (187, .sipush 1120, 3), (190, .newarray .int, 2), (192, .putfield 86, 3), (195, .aload_n 0, 1), (196, .sipush 1120, 3), (199, .newarray .int, 2), (201, .putfield 89, 3), (204, .aload_n 0, 1), (205, .bipush 90, 2), (207, .newarray .int, 2), (209, .putfield 92, 3), (212, .aload_n 0, 1), (213, .bipush 90, 2), (215, .newarray .int, 2), (217, .putfield 95, 3), (220, .aload_n 0, 1), (221, .bipush 60, 2), (223, .newarray .int, 2), (225, .putfield 98, 3), (228, .aload_n 0, 1), (229, .sipush 171, 3), (232, .newarray .int, 2)]
theorem dt_M_init_3 : ∀ q ∈ D_M_init_3, decode prog_14_method_1_code q.1 = .ok (q.2.1, q.2.2) := by decide +kernel
def D_M_init_4 : List (Nat × Instr × Nat) := [(234, .putfield 101, 3), (237, .aload_n 0, 1), (238, .sipush 7011, 3), (241, .newarray .int, 2), (243, .putfield 104, 3), (246, .aload_n 0, 1), (247, .bipush 64, 2), (249, .newarray .int, 2), (251, .putfield 107, 3), (254, .aload_n 0, 1), (255, .bipush 8, 2), (257, .newarray .int, 2), (259, .putfield 110, 3), (262, .aload_n 0, 1), (263, .bipush 8, 2), (265, .newarray .int, 2), (267, .putfield 113, 3), (270, .aload_n 0, 1), (271, .bipush 64, 2), (273, .newarray .int, 2), (275, .putfield 116, 3), (278, .aload_n 0, 1), (279, .bipush 8, 2), (281, .newarray .int, 2), (283, .putfield 119, 3), (286, .aload_n 0, 1), (287, .bipush 8, 2), (289, .newarray .int, 2), (291, .putfield 122, 3), (294, .aload_n 0, 1)]
theorem dt_M_init_4 : ∀ q ∈ D_M_init_4, decode prog_14_method_1_code q.1 = .ok (q.2.1, q.2.2) := by decide +kernel
def D_M_init_5 : List (Nat × Instr × Nat) := [(295, .bipush 8, 2), (297, .newarray .boolean, 2), (299, .putfield 125, 3), (302, .aload_n 0, 1), (303, .bipush 8, 2), (305, .newarray .int, 2), (307, .putfield 128, 3), (310, .aload_n 0, 1), (311, .sipush 256, 3), (314, .newarray .int, 2), (316, .putfield 131, 3), (319, .aload_n 0, 1), (320, .iconst (-1), 1), (321, .putfield 134, 3), (324, .aload_n 0, 1), (325, .sipush 10809, 3), (328, .newarray .int, 2), (330, .putfield 137, 3), (333, .aload_n 0, 1), (334, .sipush 151, 3), (337, .newarray .int, 2), (339, .putfield 140, 3), (342, .aload_n 0, 1), (343, .bipush 8, 2), (345, .newarray .int, 2), (347, .putfield 143, 3), (350, .aload_n 0, 1), (351, .bipush 8, 2), (353, .newarray .int, 2), (355, .putfield 146, 3)]
theorem dt_M_init_5 : ∀ q ∈ D_M_init_5, decode prog_14_method_1_code q.1 = .ok (q.2.1, q.2.2) := by decide +kernel
def D_M_init_6 : List (Nat × Instr × Nat) := [(358, .aload_n 0, 1), (359, .bipush 30, 2), (361, .newarray .int, 2), (363, .putfield 149, 3), (366, .aload_n 0, 1), (367, .bipush 30, 2), (369, .newarray .int, 2), (371, .putfield 152, 3), (374, .aload_n 0, 1), (375, .bipush 30, 2), (377, .newarray .int, 2), (379, .putfield 155, 3), (382, .aload_n 0, 1), (383, .bipush 30, 2), (385, .newarray .int, 2), (387, .putfield 158, 3), (390, .aload_n 0, 1), (391, .bipush 8, 2), (393, .newarray .int, 2), (395, .putfield 161, 3), (398, .aload_n 0, 1), (399, .bipush 8, 2), (401, .newarray .int, 2), (403, .putfield 164, 3), (406, .aload_n 0, 1), (407, .bipush 8, 2), (409, .newarray .int, 2), (411, .putfield 167, 3), (414, .aload_n 0, 1), (415, .sipush 513, 3)]
theorem dt_M_init_6 : ∀ q ∈ D_M_init_6, decode prog_14_method_1_code q.1 = .ok (q.2.1, q.2.2) := by decide +kernel
def D_M_init_7 : List (Nat × Instr × Nat) := [(418, .newarray .int, 2), (420, .putfield 170, 3), (423, .aload_n 0, 1), (424, .iconst 3, 1), (425, .newarray .boolean, 2), (427, .putfield 173, 3), (430, .aload_n 0, 1), (431, .invokevirtual 176, 3), (434, .aload_n 0, 1), (435, .invokevirtual 179, 3), (438, .return_, 1)]
theorem dt_M_init_7 : ∀ q ∈ D_M_init_7, decode prog_14_method_1_code q.1 = .ok (q.2.1, q.2.2) := by decide +kernel
set_option maxRecDepth 100000 in
theorem dt_M_init_cat : D_M_init = [D_M_init_0, D_M_init_1, D_M_init_2, D_M_init_3, D_M_init_4, D_M_init_5, D_M_init_6, D_M_init_7].flatten := rfl
theorem dt_M_init : kDec prog_14_method_1_code D_M_init := kDec_of (fun q hq => by
  rw [dt_M_init_cat, List.mem_flatten] at hq
  obtain ⟨l, hl, hq⟩ := hq
  simp only [List.mem_cons, List.not_mem_nil, or_false] at hl
  rcases hl with rfl | rfl | rfl | rfl | rfl | rfl | rfl | rfl
  · exact dt_M_init_0 q hq
  · exact dt_M_init_1 q hq
  · exact dt_M_init_2 q hq
  · exact dt_M_init_3 q hq
  · exact dt_M_init_4 q hq
  · exact dt_M_init_5 q hq
  · exact dt_M_init_6 q hq
  · exact dt_M_init_7 q hq)
theorem md_M_init : KMd y_M_init Y_M_init 0 := ⟨⟨tb_at 1447 (by decide +kernel), tb_at 153 (by decide +kernel)⟩, rfl, ⟨by decide, by decide, by decide⟩, by decide +kernel, by decide⟩
theorem kin_M_init : Cond.instanceMethod y_M_init ∈ tbg := tb_at 1446 (by decide +kernel)
theorem ko_M_1 : Cond.methodLink "YearHandsModel" 1 Lib.objectInit ∈ tbg := tb_at 1448 (by decide +kernel)
theorem kaB : Cond.arrayClass .byte ∈ tbg := tb_at 198 (by decide +kernel)
theorem kv_M_7 : (1 < 13 ∧ 0 < kN 1) ∧ Cond.fieldLink "YearHandsModel" 7 (kT 1 0).1 (kT 1 0).2.1 (kT 1 0).2.2.1 ∈ tbg := ⟨⟨by decide, by decide⟩, tb_at 1461 (by decide +kernel)⟩
theorem kv_M_13 : (1 < 13 ∧ 1 < kN 1) ∧ Cond.fieldLink "YearHandsModel" 13 (kT 1 1).1 (kT 1 1).2.1 (kT 1 1).2.2.1 ∈ tbg := ⟨⟨by decide, by decide⟩, tb_at 1462 (by decide +kernel)⟩
theorem kv_M_16 : (1 < 13 ∧ 5 < kN 1) ∧ Cond.fieldLink "YearHandsModel" 16 (kT 1 5).1 (kT 1 5).2.1 (kT 1 5).2.2.1 ∈ tbg := ⟨⟨by decide, by decide⟩, tb_at 1466 (by decide +kernel)⟩
theorem kv_M_20 : (1 < 13 ∧ 11 < kN 1) ∧ Cond.fieldLink "YearHandsModel" 20 (kT 1 11).1 (kT 1 11).2.1 (kT 1 11).2.2.1 ∈ tbg := ⟨⟨by decide, by decide⟩, tb_at 1472 (by decide +kernel)⟩
theorem kv_M_24 : (1 < 13 ∧ 12 < kN 1) ∧ Cond.fieldLink "YearHandsModel" 24 (kT 1 12).1 (kT 1 12).2.1 (kT 1 12).2.2.1 ∈ tbg := ⟨⟨by decide, by decide⟩, tb_at 1473 (by decide +kernel)⟩
theorem kv_M_27 : (1 < 13 ∧ 13 < kN 1) ∧ Cond.fieldLink "YearHandsModel" 27 (kT 1 13).1 (kT 1 13).2.1 (kT 1 13).2.2.1 ∈ tbg := ⟨⟨by decide, by decide⟩, tb_at 1474 (by decide +kernel)⟩
theorem kv_M_30 : (1 < 13 ∧ 14 < kN 1) ∧ Cond.fieldLink "YearHandsModel" 30 (kT 1 14).1 (kT 1 14).2.1 (kT 1 14).2.2.1 ∈ tbg := ⟨⟨by decide, by decide⟩, tb_at 1475 (by decide +kernel)⟩
theorem kv_M_33 : (1 < 13 ∧ 15 < kN 1) ∧ Cond.fieldLink "YearHandsModel" 33 (kT 1 15).1 (kT 1 15).2.1 (kT 1 15).2.2.1 ∈ tbg := ⟨⟨by decide, by decide⟩, tb_at 1476 (by decide +kernel)⟩
theorem kv_M_36 : (1 < 13 ∧ 16 < kN 1) ∧ Cond.fieldLink "YearHandsModel" 36 (kT 1 16).1 (kT 1 16).2.1 (kT 1 16).2.2.1 ∈ tbg := ⟨⟨by decide, by decide⟩, tb_at 1477 (by decide +kernel)⟩
theorem kv_M_39 : (1 < 13 ∧ 17 < kN 1) ∧ Cond.fieldLink "YearHandsModel" 39 (kT 1 17).1 (kT 1 17).2.1 (kT 1 17).2.2.1 ∈ tbg := ⟨⟨by decide, by decide⟩, tb_at 1478 (by decide +kernel)⟩
theorem kv_M_42 : (1 < 13 ∧ 18 < kN 1) ∧ Cond.fieldLink "YearHandsModel" 42 (kT 1 18).1 (kT 1 18).2.1 (kT 1 18).2.2.1 ∈ tbg := ⟨⟨by decide, by decide⟩, tb_at 1479 (by decide +kernel)⟩
theorem kv_M_45 : (1 < 13 ∧ 19 < kN 1) ∧ Cond.fieldLink "YearHandsModel" 45 (kT 1 19).1 (kT 1 19).2.1 (kT 1 19).2.2.1 ∈ tbg := ⟨⟨by decide, by decide⟩, tb_at 1480 (by decide +kernel)⟩
theorem kv_M_48 : (1 < 13 ∧ 20 < kN 1) ∧ Cond.fieldLink "YearHandsModel" 48 (kT 1 20).1 (kT 1 20).2.1 (kT 1 20).2.2.1 ∈ tbg := ⟨⟨by decide, by decide⟩, tb_at 1481 (by decide +kernel)⟩
theorem kv_M_51 : (1 < 13 ∧ 21 < kN 1) ∧ Cond.fieldLink "YearHandsModel" 51 (kT 1 21).1 (kT 1 21).2.1 (kT 1 21).2.2.1 ∈ tbg := ⟨⟨by decide, by decide⟩, tb_at 1482 (by decide +kernel)⟩
theorem kv_M_54 : (1 < 13 ∧ 22 < kN 1) ∧ Cond.fieldLink "YearHandsModel" 54 (kT 1 22).1 (kT 1 22).2.1 (kT 1 22).2.2.1 ∈ tbg := ⟨⟨by decide, by decide⟩, tb_at 1483 (by decide +kernel)⟩
theorem kv_M_57 : (1 < 13 ∧ 23 < kN 1) ∧ Cond.fieldLink "YearHandsModel" 57 (kT 1 23).1 (kT 1 23).2.1 (kT 1 23).2.2.1 ∈ tbg := ⟨⟨by decide, by decide⟩, tb_at 1484 (by decide +kernel)⟩
theorem kv_M_60 : (1 < 13 ∧ 24 < kN 1) ∧ Cond.fieldLink "YearHandsModel" 60 (kT 1 24).1 (kT 1 24).2.1 (kT 1 24).2.2.1 ∈ tbg := ⟨⟨by decide, by decide⟩, tb_at 1485 (by decide +kernel)⟩
theorem kv_M_63 : (1 < 13 ∧ 25 < kN 1) ∧ Cond.fieldLink "YearHandsModel" 63 (kT 1 25).1 (kT 1 25).2.1 (kT 1 25).2.2.1 ∈ tbg := ⟨⟨by decide, by decide⟩, tb_at 1486 (by decide +kernel)⟩
theorem kv_M_66 : (1 < 13 ∧ 26 < kN 1) ∧ Cond.fieldLink "YearHandsModel" 66 (kT 1 26).1 (kT 1 26).2.1 (kT 1 26).2.2.1 ∈ tbg := ⟨⟨by decide, by decide⟩, tb_at 1487 (by decide +kernel)⟩
theorem kv_M_69 : (1 < 13 ∧ 27 < kN 1) ∧ Cond.fieldLink "YearHandsModel" 69 (kT 1 27).1 (kT 1 27).2.1 (kT 1 27).2.2.1 ∈ tbg := ⟨⟨by decide, by decide⟩, tb_at 1488 (by decide +kernel)⟩
theorem kaZ : Cond.arrayClass .boolean ∈ tbg := tb_at 1696 (by decide +kernel)
theorem kv_M_72 : (1 < 13 ∧ 28 < kN 1) ∧ Cond.fieldLink "YearHandsModel" 72 (kT 1 28).1 (kT 1 28).2.1 (kT 1 28).2.2.1 ∈ tbg := ⟨⟨by decide, by decide⟩, tb_at 1489 (by decide +kernel)⟩
theorem kv_M_76 : (1 < 13 ∧ 29 < kN 1) ∧ Cond.fieldLink "YearHandsModel" 76 (kT 1 29).1 (kT 1 29).2.1 (kT 1 29).2.2.1 ∈ tbg := ⟨⟨by decide, by decide⟩, tb_at 1490 (by decide +kernel)⟩
theorem kv_M_79 : (1 < 13 ∧ 30 < kN 1) ∧ Cond.fieldLink "YearHandsModel" 79 (kT 1 30).1 (kT 1 30).2.1 (kT 1 30).2.2.1 ∈ tbg := ⟨⟨by decide, by decide⟩, tb_at 1491 (by decide +kernel)⟩
theorem kv_M_83 : (1 < 13 ∧ 31 < kN 1) ∧ Cond.fieldLink "YearHandsModel" 83 (kT 1 31).1 (kT 1 31).2.1 (kT 1 31).2.2.1 ∈ tbg := ⟨⟨by decide, by decide⟩, tb_at 1492 (by decide +kernel)⟩
theorem kv_M_86 : (1 < 13 ∧ 32 < kN 1) ∧ Cond.fieldLink "YearHandsModel" 86 (kT 1 32).1 (kT 1 32).2.1 (kT 1 32).2.2.1 ∈ tbg := ⟨⟨by decide, by decide⟩, tb_at 1493 (by decide +kernel)⟩
theorem kv_M_89 : (1 < 13 ∧ 33 < kN 1) ∧ Cond.fieldLink "YearHandsModel" 89 (kT 1 33).1 (kT 1 33).2.1 (kT 1 33).2.2.1 ∈ tbg := ⟨⟨by decide, by decide⟩, tb_at 1494 (by decide +kernel)⟩
theorem kv_M_92 : (1 < 13 ∧ 34 < kN 1) ∧ Cond.fieldLink "YearHandsModel" 92 (kT 1 34).1 (kT 1 34).2.1 (kT 1 34).2.2.1 ∈ tbg := ⟨⟨by decide, by decide⟩, tb_at 1495 (by decide +kernel)⟩
theorem kv_M_95 : (1 < 13 ∧ 35 < kN 1) ∧ Cond.fieldLink "YearHandsModel" 95 (kT 1 35).1 (kT 1 35).2.1 (kT 1 35).2.2.1 ∈ tbg := ⟨⟨by decide, by decide⟩, tb_at 1496 (by decide +kernel)⟩
theorem kv_M_98 : (1 < 13 ∧ 36 < kN 1) ∧ Cond.fieldLink "YearHandsModel" 98 (kT 1 36).1 (kT 1 36).2.1 (kT 1 36).2.2.1 ∈ tbg := ⟨⟨by decide, by decide⟩, tb_at 1497 (by decide +kernel)⟩
theorem kv_M_101 : (1 < 13 ∧ 46 < kN 1) ∧ Cond.fieldLink "YearHandsModel" 101 (kT 1 46).1 (kT 1 46).2.1 (kT 1 46).2.2.1 ∈ tbg := ⟨⟨by decide, by decide⟩, tb_at 1507 (by decide +kernel)⟩
theorem kv_M_104 : (1 < 13 ∧ 47 < kN 1) ∧ Cond.fieldLink "YearHandsModel" 104 (kT 1 47).1 (kT 1 47).2.1 (kT 1 47).2.2.1 ∈ tbg := ⟨⟨by decide, by decide⟩, tb_at 1508 (by decide +kernel)⟩
theorem kv_M_107 : (1 < 13 ∧ 50 < kN 1) ∧ Cond.fieldLink "YearHandsModel" 107 (kT 1 50).1 (kT 1 50).2.1 (kT 1 50).2.2.1 ∈ tbg := ⟨⟨by decide, by decide⟩, tb_at 1511 (by decide +kernel)⟩
theorem kv_M_110 : (1 < 13 ∧ 51 < kN 1) ∧ Cond.fieldLink "YearHandsModel" 110 (kT 1 51).1 (kT 1 51).2.1 (kT 1 51).2.2.1 ∈ tbg := ⟨⟨by decide, by decide⟩, tb_at 1512 (by decide +kernel)⟩
theorem kv_M_113 : (1 < 13 ∧ 52 < kN 1) ∧ Cond.fieldLink "YearHandsModel" 113 (kT 1 52).1 (kT 1 52).2.1 (kT 1 52).2.2.1 ∈ tbg := ⟨⟨by decide, by decide⟩, tb_at 1513 (by decide +kernel)⟩
theorem kv_M_116 : (1 < 13 ∧ 53 < kN 1) ∧ Cond.fieldLink "YearHandsModel" 116 (kT 1 53).1 (kT 1 53).2.1 (kT 1 53).2.2.1 ∈ tbg := ⟨⟨by decide, by decide⟩, tb_at 1514 (by decide +kernel)⟩
theorem kv_M_119 : (1 < 13 ∧ 54 < kN 1) ∧ Cond.fieldLink "YearHandsModel" 119 (kT 1 54).1 (kT 1 54).2.1 (kT 1 54).2.2.1 ∈ tbg := ⟨⟨by decide, by decide⟩, tb_at 1515 (by decide +kernel)⟩
theorem kv_M_122 : (1 < 13 ∧ 55 < kN 1) ∧ Cond.fieldLink "YearHandsModel" 122 (kT 1 55).1 (kT 1 55).2.1 (kT 1 55).2.2.1 ∈ tbg := ⟨⟨by decide, by decide⟩, tb_at 1516 (by decide +kernel)⟩
theorem kv_M_125 : (1 < 13 ∧ 56 < kN 1) ∧ Cond.fieldLink "YearHandsModel" 125 (kT 1 56).1 (kT 1 56).2.1 (kT 1 56).2.2.1 ∈ tbg := ⟨⟨by decide, by decide⟩, tb_at 1517 (by decide +kernel)⟩
theorem kv_M_128 : (1 < 13 ∧ 57 < kN 1) ∧ Cond.fieldLink "YearHandsModel" 128 (kT 1 57).1 (kT 1 57).2.1 (kT 1 57).2.2.1 ∈ tbg := ⟨⟨by decide, by decide⟩, tb_at 1518 (by decide +kernel)⟩
theorem kv_M_131 : (1 < 13 ∧ 58 < kN 1) ∧ Cond.fieldLink "YearHandsModel" 131 (kT 1 58).1 (kT 1 58).2.1 (kT 1 58).2.2.1 ∈ tbg := ⟨⟨by decide, by decide⟩, tb_at 1519 (by decide +kernel)⟩
theorem kv_M_134 : (1 < 13 ∧ 59 < kN 1) ∧ Cond.fieldLink "YearHandsModel" 134 (kT 1 59).1 (kT 1 59).2.1 (kT 1 59).2.2.1 ∈ tbg := ⟨⟨by decide, by decide⟩, tb_at 1520 (by decide +kernel)⟩
theorem kv_M_137 : (1 < 13 ∧ 60 < kN 1) ∧ Cond.fieldLink "YearHandsModel" 137 (kT 1 60).1 (kT 1 60).2.1 (kT 1 60).2.2.1 ∈ tbg := ⟨⟨by decide, by decide⟩, tb_at 1521 (by decide +kernel)⟩
theorem kv_M_140 : (1 < 13 ∧ 61 < kN 1) ∧ Cond.fieldLink "YearHandsModel" 140 (kT 1 61).1 (kT 1 61).2.1 (kT 1 61).2.2.1 ∈ tbg := ⟨⟨by decide, by decide⟩, tb_at 1522 (by decide +kernel)⟩
theorem kv_M_143 : (1 < 13 ∧ 62 < kN 1) ∧ Cond.fieldLink "YearHandsModel" 143 (kT 1 62).1 (kT 1 62).2.1 (kT 1 62).2.2.1 ∈ tbg := ⟨⟨by decide, by decide⟩, tb_at 1523 (by decide +kernel)⟩
theorem kv_M_146 : (1 < 13 ∧ 64 < kN 1) ∧ Cond.fieldLink "YearHandsModel" 146 (kT 1 64).1 (kT 1 64).2.1 (kT 1 64).2.2.1 ∈ tbg := ⟨⟨by decide, by decide⟩, tb_at 1525 (by decide +kernel)⟩
theorem kv_M_149 : (1 < 13 ∧ 65 < kN 1) ∧ Cond.fieldLink "YearHandsModel" 149 (kT 1 65).1 (kT 1 65).2.1 (kT 1 65).2.2.1 ∈ tbg := ⟨⟨by decide, by decide⟩, tb_at 1526 (by decide +kernel)⟩
theorem kv_M_152 : (1 < 13 ∧ 66 < kN 1) ∧ Cond.fieldLink "YearHandsModel" 152 (kT 1 66).1 (kT 1 66).2.1 (kT 1 66).2.2.1 ∈ tbg := ⟨⟨by decide, by decide⟩, tb_at 1527 (by decide +kernel)⟩
theorem kv_M_155 : (1 < 13 ∧ 67 < kN 1) ∧ Cond.fieldLink "YearHandsModel" 155 (kT 1 67).1 (kT 1 67).2.1 (kT 1 67).2.2.1 ∈ tbg := ⟨⟨by decide, by decide⟩, tb_at 1528 (by decide +kernel)⟩
theorem kv_M_158 : (1 < 13 ∧ 68 < kN 1) ∧ Cond.fieldLink "YearHandsModel" 158 (kT 1 68).1 (kT 1 68).2.1 (kT 1 68).2.2.1 ∈ tbg := ⟨⟨by decide, by decide⟩, tb_at 1529 (by decide +kernel)⟩
theorem kv_M_161 : (1 < 13 ∧ 69 < kN 1) ∧ Cond.fieldLink "YearHandsModel" 161 (kT 1 69).1 (kT 1 69).2.1 (kT 1 69).2.2.1 ∈ tbg := ⟨⟨by decide, by decide⟩, tb_at 1530 (by decide +kernel)⟩
theorem kv_M_164 : (1 < 13 ∧ 70 < kN 1) ∧ Cond.fieldLink "YearHandsModel" 164 (kT 1 70).1 (kT 1 70).2.1 (kT 1 70).2.2.1 ∈ tbg := ⟨⟨by decide, by decide⟩, tb_at 1531 (by decide +kernel)⟩
theorem kv_M_167 : (1 < 13 ∧ 75 < kN 1) ∧ Cond.fieldLink "YearHandsModel" 167 (kT 1 75).1 (kT 1 75).2.1 (kT 1 75).2.2.1 ∈ tbg := ⟨⟨by decide, by decide⟩, tb_at 1536 (by decide +kernel)⟩
theorem kv_M_170 : (1 < 13 ∧ 76 < kN 1) ∧ Cond.fieldLink "YearHandsModel" 170 (kT 1 76).1 (kT 1 76).2.1 (kT 1 76).2.2.1 ∈ tbg := ⟨⟨by decide, by decide⟩, tb_at 1537 (by decide +kernel)⟩
theorem kv_M_173 : (1 < 13 ∧ 77 < kN 1) ∧ Cond.fieldLink "YearHandsModel" 173 (kT 1 77).1 (kT 1 77).2.1 (kT 1 77).2.2.1 ∈ tbg := ⟨⟨by decide, by decide⟩, tb_at 1538 (by decide +kernel)⟩
theorem i_putRl {α : Type} {G : Gam} {Y : KY} {e : Option α} {κ : α → KCf} {pc : Nat} {ls : List (Option KV)} {st : List KV} {S1 R : KS} {M : KM} {idx c i r w : Nat} {rs : List (Option Nat)} (hini : kIni G) (hd : decode Y.2.1 pc = .ok (.putfield idx, 3)) (hF : (c < 13 ∧ i < kN c) ∧ Cond.fieldLink Y.1 idx (kT c i).1 (kT c i).2.1 (kT c i).2.2.1 ∈ tbg) (hown0 : Y.1 = kCn c) (ht : (kT c i).2.2.2 = true ∧ kir (kTy c i) = true) (hl : rs.length = w) (hw : Nat.ble (i + 1) w = true) (k : (rs.set i (some r)).length = w → Sim G Y e (kC (pc + 3) ls st (S1 ++ (((c, kN c), rs.set i (some r)) :: R)) M) κ) : Sim G Y e (kC pc ls (VR (some r) :: VR (some S1.length) :: st) (S1 ++ (((c, kN c), rs) :: R)) M) κ :=
  i_putR hini hd hF hown0 ht (by rw [hl]; exact hw) (k (by rw [List.length_set]; exact hl))
def mrs_0 (n : Nat) : List (Option Nat) := [none, none, none, none, none, none, none, none, none, none, none, none, none, none, none, none, none, none, none, none, none, none, none, none, none, none, none, none, none, none, none, none, none, none, none, none, none, none, none, none, none, none, none, none, none, none, none, none, none, none, none, none, none, none, none, none, none, none, none, none, none, none, none, none, none, none, none, none, none, none, none, none, none, none, none, none, none, none]
theorem mrl_0 (n : Nat) : (mrs_0 n).length = 78 := rfl
def mR_0 : KS := []
theorem mRl_0 : mR_0.length = 0 ∧ ksz mR_0 = 0 := by decide +kernel
def mrs_1 (n : Nat) : List (Option Nat) := [some (n + (1 + 0)), some (n + (1 + 1)), none, none, none, none, none, none, none, none, none, some (n + (1 + 2)), some (n + (1 + 3)), some (n + (1 + 4)), none, none, none, none, none, none, none, none, none, none, none, none, none, none, none, none, none, none, none, none, none, none, none, none, none, none, none, none, none, none, none, none, none, none, none, none, none, none, none, none, none, none, none, none, none, none, none, none, none, none, none, none, none, none, none, none, none, none, none, none, none, none, none, none]
theorem mrl_1 (n : Nat) : (mrs_1 n).length = 78 := rfl
def mR_1 : KS := [((22, 1620), []), ((22, 1600), []), ((20, 2), []), ((20, 2), []), ((20, 2), [])]
theorem mRl_1 : mR_1.length = 5 ∧ ksz mR_1 = 3226 := by decide +kernel
def mrs_2 (n : Nat) : List (Option Nat) := [some (n + (1 + 0)), some (n + (1 + 1)), none, none, none, none, none, none, none, none, none, some (n + (1 + 2)), some (n + (1 + 3)), some (n + (1 + 4)), some (n + (1 + 5)), some (n + (1 + 6)), some (n + (1 + 7)), some (n + (1 + 8)), some (n + (1 + 9)), none, none, none, none, none, none, none, none, none, none, none, none, none, none, none, none, none, none, none, none, none, none, none, none, none, none, none, none, none, none, none, none, none, none, none, none, none, none, none, none, none, none, none, none, none, none, none, none, none, none, none, none, none, none, none, none, none, none, none]
theorem mrl_2 (n : Nat) : (mrs_2 n).length = 78 := rfl
def mR_2 : KS := [((22, 1620), []), ((22, 1600), []), ((20, 2), []), ((20, 2), []), ((20, 2), []), ((20, 2), []), ((20, 2), []), ((20, 2), []), ((20, 2), []), ((20, 2), [])]
theorem mRl_2 : mR_2.length = 10 ∧ ksz mR_2 = 3236 := by decide +kernel
def mrs_3 (n : Nat) : List (Option Nat) := [some (n + (1 + 0)), some (n + (1 + 1)), none, none, none, none, none, none, none, none, none, some (n + (1 + 2)), some (n + (1 + 3)), some (n + (1 + 4)), some (n + (1 + 5)), some (n + (1 + 6)), some (n + (1 + 7)), some (n + (1 + 8)), some (n + (1 + 9)), some (n + (1 + 10)), some (n + (1 + 11)), some (n + (1 + 12)), some (n + (1 + 13)), some (n + (1 + 14)), none, none, none, none, none, none, none, none, none, none, none, none, none, none, none, none, none, none, none, none, none, none, none, none, none, none, none, none, none, none, none, none, none, none, none, none, none, none, none, none, none, none, none, none, none, none, none, none, none, none, none, none, none, none]
theorem mrl_3 (n : Nat) : (mrs_3 n).length = 78 := rfl
def mR_3 : KS := [((22, 1620), []), ((22, 1600), []), ((20, 2), []), ((20, 2), []), ((20, 2), []), ((20, 2), []), ((20, 2), []), ((20, 2), []), ((20, 2), []), ((20, 2), []), ((20, 16), []), ((20, 16), []), ((20, 16), []), ((20, 16), []), ((20, 40), [])]
theorem mRl_3 : mR_3.length = 15 ∧ ksz mR_3 = 3340 := by decide +kernel
def mrs_4 (n : Nat) : List (Option Nat) := [some (n + (1 + 0)), some (n + (1 + 1)), none, none, none, none, none, none, none, none, none, some (n + (1 + 2)), some (n + (1 + 3)), some (n + (1 + 4)), some (n + (1 + 5)), some (n + (1 + 6)), some (n + (1 + 7)), some (n + (1 + 8)), some (n + (1 + 9)), some (n + (1 + 10)), some (n + (1 + 11)), some (n + (1 + 12)), some (n + (1 + 13)), some (n + (1 + 14)), some (n + (1 + 15)), some (n + (1 + 16)), some (n + (1 + 17)), some (n + (1 + 18)), some (n + (1 + 19)), none, none, none, none, none, none, none, none, none, none, none, none, none, none, none, none, none, none, none, none, none, none, none, none, none, none, none, none, none, none, none, none, none, none, none, none, none, none, none, none, none, none, none, none, none, none, none, none, none]
theorem mrl_4 (n : Nat) : (mrs_4 n).length = 78 := rfl
def mR_4 : KS := [((22, 1620), []), ((22, 1600), []), ((20, 2), []), ((20, 2), []), ((20, 2), []), ((20, 2), []), ((20, 2), []), ((20, 2), []), ((20, 2), []), ((20, 2), []), ((20, 16), []), ((20, 16), []), ((20, 16), []), ((20, 16), []), ((20, 40), []), ((20, 40), []), ((20, 40), []), ((20, 14), []), ((20, 14), []), ((23, 2), [])]
theorem mRl_4 : mR_4.length = 20 ∧ ksz mR_4 = 3450 := by decide +kernel
def mrs_5 (n : Nat) : List (Option Nat) := [some (n + (1 + 0)), some (n + (1 + 1)), none, none, none, none, none, none, none, none, none, some (n + (1 + 2)), some (n + (1 + 3)), some (n + (1 + 4)), some (n + (1 + 5)), some (n + (1 + 6)), some (n + (1 + 7)), some (n + (1 + 8)), some (n + (1 + 9)), some (n + (1 + 10)), some (n + (1 + 11)), some (n + (1 + 12)), some (n + (1 + 13)), some (n + (1 + 14)), some (n + (1 + 15)), some (n + (1 + 16)), some (n + (1 + 17)), some (n + (1 + 18)), some (n + (1 + 19)), some (n + (1 + 20)), some (n + (1 + 21)), some (n + (1 + 22)), some (n + (1 + 23)), some (n + (1 + 24)), none, none, none, none, none, none, none, none, none, none, none, none, none, none, none, none, none, none, none, none, none, none, none, none, none, none, none, none, none, none, none, none, none, none, none, none, none, none, none, none, none, none, none, none]
theorem mrl_5 (n : Nat) : (mrs_5 n).length = 78 := rfl
def mR_5 : KS := [((22, 1620), []), ((22, 1600), []), ((20, 2), []), ((20, 2), []), ((20, 2), []), ((20, 2), []), ((20, 2), []), ((20, 2), []), ((20, 2), []), ((20, 2), []), ((20, 16), []), ((20, 16), []), ((20, 16), []), ((20, 16), []), ((20, 40), []), ((20, 40), []), ((20, 40), []), ((20, 14), []), ((20, 14), []), ((23, 2), []), ((23, 14), []), ((21, 16), []), ((21, 12), []), ((20, 1120), []), ((20, 1120), [])]
theorem mRl_5 : mR_5.length = 25 ∧ ksz mR_5 = 5732 := by decide +kernel
def mrs_6 (n : Nat) : List (Option Nat) := [some (n + (1 + 0)), some (n + (1 + 1)), none, none, none, none, none, none, none, none, none, some (n + (1 + 2)), some (n + (1 + 3)), some (n + (1 + 4)), some (n + (1 + 5)), some (n + (1 + 6)), some (n + (1 + 7)), some (n + (1 + 8)), some (n + (1 + 9)), some (n + (1 + 10)), some (n + (1 + 11)), some (n + (1 + 12)), some (n + (1 + 13)), some (n + (1 + 14)), some (n + (1 + 15)), some (n + (1 + 16)), some (n + (1 + 17)), some (n + (1 + 18)), some (n + (1 + 19)), some (n + (1 + 20)), some (n + (1 + 21)), some (n + (1 + 22)), some (n + (1 + 23)), some (n + (1 + 24)), some (n + (1 + 25)), some (n + (1 + 26)), some (n + (1 + 27)), none, none, none, none, none, none, none, none, none, some (n + (1 + 28)), some (n + (1 + 29)), none, none, none, none, none, none, none, none, none, none, none, none, none, none, none, none, none, none, none, none, none, none, none, none, none, none, none, none, none, none]
theorem mrl_6 (n : Nat) : (mrs_6 n).length = 78 := rfl
def mR_6 : KS := [((22, 1620), []), ((22, 1600), []), ((20, 2), []), ((20, 2), []), ((20, 2), []), ((20, 2), []), ((20, 2), []), ((20, 2), []), ((20, 2), []), ((20, 2), []), ((20, 16), []), ((20, 16), []), ((20, 16), []), ((20, 16), []), ((20, 40), []), ((20, 40), []), ((20, 40), []), ((20, 14), []), ((20, 14), []), ((23, 2), []), ((23, 14), []), ((21, 16), []), ((21, 12), []), ((20, 1120), []), ((20, 1120), []), ((20, 90), []), ((20, 90), []), ((20, 60), []), ((20, 171), []), ((20, 7011), [])]
theorem mRl_6 : mR_6.length = 30 ∧ ksz mR_6 = 13154 := by decide +kernel
def mrs_7 (n : Nat) : List (Option Nat) := [some (n + (1 + 0)), some (n + (1 + 1)), none, none, none, none, none, none, none, none, none, some (n + (1 + 2)), some (n + (1 + 3)), some (n + (1 + 4)), some (n + (1 + 5)), some (n + (1 + 6)), some (n + (1 + 7)), some (n + (1 + 8)), some (n + (1 + 9)), some (n + (1 + 10)), some (n + (1 + 11)), some (n + (1 + 12)), some (n + (1 + 13)), some (n + (1 + 14)), some (n + (1 + 15)), some (n + (1 + 16)), some (n + (1 + 17)), some (n + (1 + 18)), some (n + (1 + 19)), some (n + (1 + 20)), some (n + (1 + 21)), some (n + (1 + 22)), some (n + (1 + 23)), some (n + (1 + 24)), some (n + (1 + 25)), some (n + (1 + 26)), some (n + (1 + 27)), none, none, none, none, none, none, none, none, none, some (n + (1 + 28)), some (n + (1 + 29)), none, none, some (n + (1 + 30)), some (n + (1 + 31)), some (n + (1 + 32)), some (n + (1 + 33)), some (n + (1 + 34)), none, none, none, none, none, none, none, none, none, none, none, none, none, none, none, none, none, none, none, none, none, none, none]
theorem mrl_7 (n : Nat) : (mrs_7 n).length = 78 := rfl
def mR_7 : KS := [((22, 1620), []), ((22, 1600), []), ((20, 2), []), ((20, 2), []), ((20, 2), []), ((20, 2), []), ((20, 2), []), ((20, 2), []), ((20, 2), []), ((20, 2), []), ((20, 16), []), ((20, 16), []), ((20, 16), []), ((20, 16), []), ((20, 40), []), ((20, 40), []), ((20, 40), []), ((20, 14), []), ((20, 14), []), ((23, 2), []), ((23, 14), []), ((21, 16), []), ((21, 12), []), ((20, 1120), []), ((20, 1120), []), ((20, 90), []), ((20, 90), []), ((20, 60), []), ((20, 171), []), ((20, 7011), []), ((20, 64), []), ((20, 8), []), ((20, 8), []), ((20, 64), []), ((20, 8), [])]
theorem mRl_7 : mR_7.length = 35 ∧ ksz mR_7 = 13306 := by decide +kernel
def mrs_8 (n : Nat) : List (Option Nat) := [some (n + (1 + 0)), some (n + (1 + 1)), none, none, none, none, none, none, none, none, none, some (n + (1 + 2)), some (n + (1 + 3)), some (n + (1 + 4)), some (n + (1 + 5)), some (n + (1 + 6)), some (n + (1 + 7)), some (n + (1 + 8)), some (n + (1 + 9)), some (n + (1 + 10)), some (n + (1 + 11)), some (n + (1 + 12)), some (n + (1 + 13)), some (n + (1 + 14)), some (n + (1 + 15)), some (n + (1 + 16)), some (n + (1 + 17)), some (n + (1 + 18)), some (n + (1 + 19)), some (n + (1 + 20)), some (n + (1 + 21)), some (n + (1 + 22)), some (n + (1 + 23)), some (n + (1 + 24)), some (n + (1 + 25)), some (n + (1 + 26)), some (n + (1 + 27)), none, none, none, none, none, none, none, none, none, some (n + (1 + 28)), some (n + (1 + 29)), none, none, some (n + (1 + 30)), some (n + (1 + 31)), some (n + (1 + 32)), some (n + (1 + 33)), some (n + (1 + 34)), some (n + (1 + 35)), some (n + (1 + 36)), some (n + (1 + 37)), some (n + (1 + 38)), none, some (n + (1 + 39)), none, none, none, none, none, none, none, none, none, none, none, none, none, none, none, none, none]
theorem mrl_8 (n : Nat) : (mrs_8 n).length = 78 := rfl
def mR_8 : KS := [((22, 1620), []), ((22, 1600), []), ((20, 2), []), ((20, 2), []), ((20, 2), []), ((20, 2), []), ((20, 2), []), ((20, 2), []), ((20, 2), []), ((20, 2), []), ((20, 16), []), ((20, 16), []), ((20, 16), []), ((20, 16), []), ((20, 40), []), ((20, 40), []), ((20, 40), []), ((20, 14), []), ((20, 14), []), ((23, 2), []), ((23, 14), []), ((21, 16), []), ((21, 12), []), ((20, 1120), []), ((20, 1120), []), ((20, 90), []), ((20, 90), []), ((20, 60), []), ((20, 171), []), ((20, 7011), []), ((20, 64), []), ((20, 8), []), ((20, 8), []), ((20, 64), []), ((20, 8), []), ((20, 8), []), ((23, 8), []), ((20, 8), []), ((20, 256), []), ((20, 10809), [])]
theorem mRl_8 : mR_8.length = 40 ∧ ksz mR_8 = 24395 := by decide +kernel
def mrs_9 (n : Nat) : List (Option Nat) := [some (n + (1 + 0)), some (n + (1 + 1)), none, none, none, none, none, none, none, none, none, some (n + (1 + 2)), some (n + (1 + 3)), some (n + (1 + 4)), some (n + (1 + 5)), some (n + (1 + 6)), some (n + (1 + 7)), some (n + (1 + 8)), some (n + (1 + 9)), some (n + (1 + 10)), some (n + (1 + 11)), some (n + (1 + 12)), some (n + (1 + 13)), some (n + (1 + 14)), some (n + (1 + 15)), some (n + (1 + 16)), some (n + (1 + 17)), some (n + (1 + 18)), some (n + (1 + 19)), some (n + (1 + 20)), some (n + (1 + 21)), some (n + (1 + 22)), some (n + (1 + 23)), some (n + (1 + 24)), some (n + (1 + 25)), some (n + (1 + 26)), some (n + (1 + 27)), none, none, none, none, none, none, none, none, none, some (n + (1 + 28)), some (n + (1 + 29)), none, none, some (n + (1 + 30)), some (n + (1 + 31)), some (n + (1 + 32)), some (n + (1 + 33)), some (n + (1 + 34)), some (n + (1 + 35)), some (n + (1 + 36)), some (n + (1 + 37)), some (n + (1 + 38)), none, some (n + (1 + 39)), some (n + (1 + 40)), some (n + (1 + 41)), none, some (n + (1 + 42)), some (n + (1 + 43)), some (n + (1 + 44)), none, none, none, none, none, none, none, none, none, none, none]
theorem mrl_9 (n : Nat) : (mrs_9 n).length = 78 := rfl
def mR_9 : KS := [((22, 1620), []), ((22, 1600), []), ((20, 2), []), ((20, 2), []), ((20, 2), []), ((20, 2), []), ((20, 2), []), ((20, 2), []), ((20, 2), []), ((20, 2), []), ((20, 16), []), ((20, 16), []), ((20, 16), []), ((20, 16), []), ((20, 40), []), ((20, 40), []), ((20, 40), []), ((20, 14), []), ((20, 14), []), ((23, 2), []), ((23, 14), []), ((21, 16), []), ((21, 12), []), ((20, 1120), []), ((20, 1120), []), ((20, 90), []), ((20, 90), []), ((20, 60), []), ((20, 171), []), ((20, 7011), []), ((20, 64), []), ((20, 8), []), ((20, 8), []), ((20, 64), []), ((20, 8), []), ((20, 8), []), ((23, 8), []), ((20, 8), []), ((20, 256), []), ((20, 10809), []), ((20, 151), []), ((20, 8), []), ((20, 8), []), ((20, 30), []), ((20, 30), [])]
theorem mRl_9 : mR_9.length = 45 ∧ ksz mR_9 = 24622 := by decide +kernel
def mrs_10 (n : Nat) : List (Option Nat) := [some (n + (1 + 0)), some (n + (1 + 1)), none, none, none, none, none, none, none, none, none, some (n + (1 + 2)), some (n + (1 + 3)), some (n + (1 + 4)), some (n + (1 + 5)), some (n + (1 + 6)), some (n + (1 + 7)), some (n + (1 + 8)), some (n + (1 + 9)), some (n + (1 + 10)), some (n + (1 + 11)), some (n + (1 + 12)), some (n + (1 + 13)), some (n + (1 + 14)), some (n + (1 + 15)), some (n + (1 + 16)), some (n + (1 + 17)), some (n + (1 + 18)), some (n + (1 + 19)), some (n + (1 + 20)), some (n + (1 + 21)), some (n + (1 + 22)), some (n + (1 + 23)), some (n + (1 + 24)), some (n + (1 + 25)), some (n + (1 + 26)), some (n + (1 + 27)), none, none, none, none, none, none, none, none, none, some (n + (1 + 28)), some (n + (1 + 29)), none, none, some (n + (1 + 30)), some (n + (1 + 31)), some (n + (1 + 32)), some (n + (1 + 33)), some (n + (1 + 34)), some (n + (1 + 35)), some (n + (1 + 36)), some (n + (1 + 37)), some (n + (1 + 38)), none, some (n + (1 + 39)), some (n + (1 + 40)), some (n + (1 + 41)), none, some (n + (1 + 42)), some (n + (1 + 43)), some (n + (1 + 44)), some (n + (1 + 45)), some (n + (1 + 46)), some (n + (1 + 47)), some (n + (1 + 48)), none, none, none, none, some (n + (1 + 49)), none, none]
theorem mrl_10 (n : Nat) : (mrs_10 n).length = 78 := rfl
def mR_10 : KS := [((22, 1620), []), ((22, 1600), []), ((20, 2), []), ((20, 2), []), ((20, 2), []), ((20, 2), []), ((20, 2), []), ((20, 2), []), ((20, 2), []), ((20, 2), []), ((20, 16), []), ((20, 16), []), ((20, 16), []), ((20, 16), []), ((20, 40), []), ((20, 40), []), ((20, 40), []), ((20, 14), []), ((20, 14), []), ((23, 2), []), ((23, 14), []), ((21, 16), []), ((21, 12), []), ((20, 1120), []), ((20, 1120), []), ((20, 90), []), ((20, 90), []), ((20, 60), []), ((20, 171), []), ((20, 7011), []), ((20, 64), []), ((20, 8), []), ((20, 8), []), ((20, 64), []), ((20, 8), []), ((20, 8), []), ((23, 8), []), ((20, 8), []), ((20, 256), []), ((20, 10809), []), ((20, 151), []), ((20, 8), []), ((20, 8), []), ((20, 30), []), ((20, 30), []), ((20, 30), []), ((20, 30), []), ((20, 8), []), ((20, 8), []), ((20, 8), [])]
theorem mRl_10 : mR_10.length = 50 ∧ ksz mR_10 = 24706 := by decide +kernel
def mrs_11 (n : Nat) : List (Option Nat) := [some (n + (1 + 0)), some (n + (1 + 1)), none, none, none, none, none, none, none, none, none, some (n + (1 + 2)), some (n + (1 + 3)), some (n + (1 + 4)), some (n + (1 + 5)), some (n + (1 + 6)), some (n + (1 + 7)), some (n + (1 + 8)), some (n + (1 + 9)), some (n + (1 + 10)), some (n + (1 + 11)), some (n + (1 + 12)), some (n + (1 + 13)), some (n + (1 + 14)), some (n + (1 + 15)), some (n + (1 + 16)), some (n + (1 + 17)), some (n + (1 + 18)), some (n + (1 + 19)), some (n + (1 + 20)), some (n + (1 + 21)), some (n + (1 + 22)), some (n + (1 + 23)), some (n + (1 + 24)), some (n + (1 + 25)), some (n + (1 + 26)), some (n + (1 + 27)), none, none, none, none, none, none, none, none, none, some (n + (1 + 28)), some (n + (1 + 29)), none, none, some (n + (1 + 30)), some (n + (1 + 31)), some (n + (1 + 32)), some (n + (1 + 33)), some (n + (1 + 34)), some (n + (1 + 35)), some (n + (1 + 36)), some (n + (1 + 37)), some (n + (1 + 38)), none, some (n + (1 + 39)), some (n + (1 + 40)), some (n + (1 + 41)), none, some (n + (1 + 42)), some (n + (1 + 43)), some (n + (1 + 44)), some (n + (1 + 45)), some (n + (1 + 46)), some (n + (1 + 47)), some (n + (1 + 48)), none, none, none, none, some (n + (1 + 49)), some (n + (1 + 50)), some (n + (1 + 51))]
theorem mrl_11 (n : Nat) : (mrs_11 n).length = 78 := rfl
def mR_11 : KS := [((22, 1620), []), ((22, 1600), []), ((20, 2), []), ((20, 2), []), ((20, 2), []), ((20, 2), []), ((20, 2), []), ((20, 2), []), ((20, 2), []), ((20, 2), []), ((20, 16), []), ((20, 16), []), ((20, 16), []), ((20, 16), []), ((20, 40), []), ((20, 40), []), ((20, 40), []), ((20, 14), []), ((20, 14), []), ((23, 2), []), ((23, 14), []), ((21, 16), []), ((21, 12), []), ((20, 1120), []), ((20, 1120), []), ((20, 90), []), ((20, 90), []), ((20, 60), []), ((20, 171), []), ((20, 7011), []), ((20, 64), []), ((20, 8), []), ((20, 8), []), ((20, 64), []), ((20, 8), []), ((20, 8), []), ((23, 8), []), ((20, 8), []), ((20, 256), []), ((20, 10809), []), ((20, 151), []), ((20, 8), []), ((20, 8), []), ((20, 30), []), ((20, 30), []), ((20, 30), []), ((20, 30), []), ((20, 8), []), ((20, 8), []), ((20, 8), []), ((20, 513), []), ((23, 3), [])]
theorem mRl_11 : mR_11.length = 52 ∧ ksz mR_11 = 25222 := by decide +kernel
set_option maxRecDepth 100000 in
theorem ck_M_0 {α : Type} {G : Gam} {e : Option α} {κ : α → KCf} {S1 : KS} {M : KM} (hi : kIni G) (hz : kblk M (S1.length + 1)) (g1 : G.2.2.1.2.2.1 = S1.length + 53) (g2 : G.2.2.1.2.2.2 = ksz S1 + 25300)
    (k : Sim G Y_M_init e (kC 48 [some (VR (some S1.length))] [] (S1 ++ (((1, kN 1), mrs_1 S1.length) :: mR_1)) (mupd M S1.length 5 (-1))) κ) : Sim G Y_M_init e (kC 0 [some (VR (some S1.length))] [] (S1 ++ (((1, kN 1), mrs_0 S1.length) :: mR_0)) M) κ := by
  have hr := mRl_0
  have hl := mrl_0 S1.length
  refine s_aload_n (dt_M_init 0 _ _ _ rfl) rfl ?_
  refine s_objInit (dt_M_init 1 _ _ _ rfl) ko_M_1 ⟨kw_objI, kw_objC⟩ rfl ?_
  refine s_aload_n (dt_M_init 2 _ _ _ rfl) rfl ?_
  refine s_sipush (dt_M_init 3 _ _ _ rfl) rfl ?_
  refine i_newB (j := 0) (z := 0) (w := 78) (n := 1620) (dt_M_init 4 _ _ _ rfl) rfl (by decide) kaB ⟨hr.1, hr.2, rfl⟩ (hz.up (by omega)) ⟨by omega, by omega⟩ ?_
  replace hr := ap1 (q := ((22, 1620), [])) (j' := 1) (z' := 1620) hr rfl rfl
  refine i_putRl hi (dt_M_init 5 _ _ _ rfl) kv_M_7 rfl ⟨rfl, rfl⟩ hl rfl (fun hl => ?_)
  refine s_aload_n (dt_M_init 6 _ _ _ rfl) rfl ?_
  refine s_sipush (dt_M_init 7 _ _ _ rfl) rfl ?_
  refine i_newB (j := 1) (z := 1620) (w := 78) (n := 1600) (dt_M_init 8 _ _ _ rfl) rfl (by decide) kaB ⟨hr.1, hr.2, rfl⟩ (hz.up (by omega)) ⟨by omega, by omega⟩ ?_
  replace hr := ap1 (q := ((22, 1600), [])) (j' := 2) (z' := 3220) hr rfl rfl
  refine i_putRl hi (dt_M_init 9 _ _ _ rfl) kv_M_13 rfl ⟨rfl, rfl⟩ hl rfl (fun hl => ?_)
  refine s_aload_n (dt_M_init 10 _ _ _ rfl) rfl ?_
  refine s_iconst (dt_M_init 11 _ _ _ rfl) rfl ?_
  refine i_putI (dt_M_init 12 _ _ _ rfl) kv_M_16 ⟨rfl, rfl⟩ ?_
  replace hz := hz.upd (k := S1.length) (i := 5) (x := -1) (by omega)
  refine s_aload_n (dt_M_init 13 _ _ _ rfl) rfl ?_
  refine s_iconst (dt_M_init 14 _ _ _ rfl) rfl ?_
  refine i_newI (j := 2) (z := 3220) (w := 78) (n := 2) (dt_M_init 15 _ _ _ rfl) rfl (by decide) kaI ⟨hr.1, hr.2, rfl⟩ (hz.up (by omega)) ⟨by omega, by omega⟩ ?_
  replace hr := ap1 (q := ((20, 2), [])) (j' := 3) (z' := 3222) hr rfl rfl
  refine i_putRl hi (dt_M_init 16 _ _ _ rfl) kv_M_20 rfl ⟨rfl, rfl⟩ hl rfl (fun hl => ?_)
  refine s_aload_n (dt_M_init 17 _ _ _ rfl) rfl ?_
  refine s_iconst (dt_M_init 18 _ _ _ rfl) rfl ?_
  refine i_newI (j := 3) (z := 3222) (w := 78) (n := 2) (dt_M_init 19 _ _ _ rfl) rfl (by decide) kaI ⟨hr.1, hr.2, rfl⟩ (hz.up (by omega)) ⟨by omega, by omega⟩ ?_
  replace hr := ap1 (q := ((20, 2), [])) (j' := 4) (z' := 3224) hr rfl rfl
  refine i_putRl hi (dt_M_init 20 _ _ _ rfl) kv_M_24 rfl ⟨rfl, rfl⟩ hl rfl (fun hl => ?_)
  refine s_aload_n (dt_M_init 21 _ _ _ rfl) rfl ?_
  refine s_iconst (dt_M_init 22 _ _ _ rfl) rfl ?_
  refine i_newI (j := 4) (z := 3224) (w := 78) (n := 2) (dt_M_init 23 _ _ _ rfl) rfl (by decide) kaI ⟨hr.1, hr.2, rfl⟩ (hz.up (by omega)) ⟨by omega, by omega⟩ ?_
  replace hr := ap1 (q := ((20, 2), [])) (j' := 5) (z' := 3226) hr rfl rfl
  refine i_putRl hi (dt_M_init 24 _ _ _ rfl) kv_M_27 rfl ⟨rfl, rfl⟩ hl rfl (fun hl => ?_)
  exact k
set_option maxRecDepth 100000 in
theorem ck_M_1 {α : Type} {G : Gam} {e : Option α} {κ : α → KCf} {S1 : KS} {M : KM} (hi : kIni G) (hz : kblk M (S1.length + 1)) (g1 : G.2.2.1.2.2.1 = S1.length + 53) (g2 : G.2.2.1.2.2.2 = ksz S1 + 25300)
    (k : Sim G Y_M_init e (kC 83 [some (VR (some S1.length))] [] (S1 ++ (((1, kN 1), mrs_2 S1.length) :: mR_2)) M) κ) : Sim G Y_M_init e (kC 48 [some (VR (some S1.length))] [] (S1 ++ (((1, kN 1), mrs_1 S1.length) :: mR_1)) M) κ := by
  have hr := mRl_1
  have hl := mrl_1 S1.length
  refine s_aload_n (dt_M_init 25 _ _ _ rfl) rfl ?_
  refine s_iconst (dt_M_init 26 _ _ _ rfl) rfl ?_
  refine i_newI (j := 5) (z := 3226) (w := 78) (n := 2) (dt_M_init 27 _ _ _ rfl) rfl (by decide) kaI ⟨hr.1, hr.2, rfl⟩ (hz.up (by omega)) ⟨by omega, by omega⟩ ?_
  replace hr := ap1 (q := ((20, 2), [])) (j' := 6) (z' := 3228) hr rfl rfl
  refine i_putRl hi (dt_M_init 28 _ _ _ rfl) kv_M_30 rfl ⟨rfl, rfl⟩ hl rfl (fun hl => ?_)
  refine s_aload_n (dt_M_init 29 _ _ _ rfl) rfl ?_
  refine s_iconst (dt_M_init 30 _ _ _ rfl) rfl ?_
  refine i_newI (j := 6) (z := 3228) (w := 78) (n := 2) (dt_M_init 31 _ _ _ rfl) rfl (by decide) kaI ⟨hr.1, hr.2, rfl⟩ (hz.up (by omega)) ⟨by omega, by omega⟩ ?_
  replace hr := ap1 (q := ((20, 2), [])) (j' := 7) (z' := 3230) hr rfl rfl
  refine i_putRl hi (dt_M_init 32 _ _ _ rfl) kv_M_33 rfl ⟨rfl, rfl⟩ hl rfl (fun hl => ?_)
  refine s_aload_n (dt_M_init 33 _ _ _ rfl) rfl ?_
  refine s_iconst (dt_M_init 34 _ _ _ rfl) rfl ?_
  refine i_newI (j := 7) (z := 3230) (w := 78) (n := 2) (dt_M_init 35 _ _ _ rfl) rfl (by decide) kaI ⟨hr.1, hr.2, rfl⟩ (hz.up (by omega)) ⟨by omega, by omega⟩ ?_
  replace hr := ap1 (q := ((20, 2), [])) (j' := 8) (z' := 3232) hr rfl rfl
  refine i_putRl hi (dt_M_init 36 _ _ _ rfl) kv_M_36 rfl ⟨rfl, rfl⟩ hl rfl (fun hl => ?_)
  refine s_aload_n (dt_M_init 37 _ _ _ rfl) rfl ?_
  refine s_iconst (dt_M_init 38 _ _ _ rfl) rfl ?_
  refine i_newI (j := 8) (z := 3232) (w := 78) (n := 2) (dt_M_init 39 _ _ _ rfl) rfl (by decide) kaI ⟨hr.1, hr.2, rfl⟩ (hz.up (by omega)) ⟨by omega, by omega⟩ ?_
  replace hr := ap1 (q := ((20, 2), [])) (j' := 9) (z' := 3234) hr rfl rfl
  refine i_putRl hi (dt_M_init 40 _ _ _ rfl) kv_M_39 rfl ⟨rfl, rfl⟩ hl rfl (fun hl => ?_)
  refine s_aload_n (dt_M_init 41 _ _ _ rfl) rfl ?_
  refine s_iconst (dt_M_init 42 _ _ _ rfl) rfl ?_
  refine i_newI (j := 9) (z := 3234) (w := 78) (n := 2) (dt_M_init 43 _ _ _ rfl) rfl (by decide) kaI ⟨hr.1, hr.2, rfl⟩ (hz.up (by omega)) ⟨by omega, by omega⟩ ?_
  replace hr := ap1 (q := ((20, 2), [])) (j' := 10) (z' := 3236) hr rfl rfl
  refine i_putRl hi (dt_M_init 44 _ _ _ rfl) kv_M_42 rfl ⟨rfl, rfl⟩ hl rfl (fun hl => ?_)
  exact k
set_option maxRecDepth 100000 in
theorem ck_M_2 {α : Type} {G : Gam} {e : Option α} {κ : α → KCf} {S1 : KS} {M : KM} (hi : kIni G) (hz : kblk M (S1.length + 1)) (g1 : G.2.2.1.2.2.1 = S1.length + 53) (g2 : G.2.2.1.2.2.2 = ksz S1 + 25300)
    (k : Sim G Y_M_init e (kC 123 [some (VR (some S1.length))] [] (S1 ++ (((1, kN 1), mrs_3 S1.length) :: mR_3)) M) κ) : Sim G Y_M_init e (kC 83 [some (VR (some S1.length))] [] (S1 ++ (((1, kN 1), mrs_2 S1.length) :: mR_2)) M) κ := by
  have hr := mRl_2
  have hl := mrl_2 S1.length
  refine s_aload_n (dt_M_init 45 _ _ _ rfl) rfl ?_
  refine s_bipush (dt_M_init 46 _ _ _ rfl) rfl ?_
  refine i_newI (j := 10) (z := 3236) (w := 78) (n := 16) (dt_M_init 47 _ _ _ rfl) rfl (by decide) kaI ⟨hr.1, hr.2, rfl⟩ (hz.up (by omega)) ⟨by omega, by omega⟩ ?_
  replace hr := ap1 (q := ((20, 16), [])) (j' := 11) (z' := 3252) hr rfl rfl
  refine i_putRl hi (dt_M_init 48 _ _ _ rfl) kv_M_45 rfl ⟨rfl, rfl⟩ hl rfl (fun hl => ?_)
  refine s_aload_n (dt_M_init 49 _ _ _ rfl) rfl ?_
  refine s_bipush (dt_M_init 50 _ _ _ rfl) rfl ?_
  refine i_newI (j := 11) (z := 3252) (w := 78) (n := 16) (dt_M_init 51 _ _ _ rfl) rfl (by decide) kaI ⟨hr.1, hr.2, rfl⟩ (hz.up (by omega)) ⟨by omega, by omega⟩ ?_
  replace hr := ap1 (q := ((20, 16), [])) (j' := 12) (z' := 3268) hr rfl rfl
  refine i_putRl hi (dt_M_init 52 _ _ _ rfl) kv_M_48 rfl ⟨rfl, rfl⟩ hl rfl (fun hl => ?_)
  refine s_aload_n (dt_M_init 53 _ _ _ rfl) rfl ?_
  refine s_bipush (dt_M_init 54 _ _ _ rfl) rfl ?_
  refine i_newI (j := 12) (z := 3268) (w := 78) (n := 16) (dt_M_init 55 _ _ _ rfl) rfl (by decide) kaI ⟨hr.1, hr.2, rfl⟩ (hz.up (by omega)) ⟨by omega, by omega⟩ ?_
  replace hr := ap1 (q := ((20, 16), [])) (j' := 13) (z' := 3284) hr rfl rfl
  refine i_putRl hi (dt_M_init 56 _ _ _ rfl) kv_M_51 rfl ⟨rfl, rfl⟩ hl rfl (fun hl => ?_)
  refine s_aload_n (dt_M_init 57 _ _ _ rfl) rfl ?_
  refine s_bipush (dt_M_init 58 _ _ _ rfl) rfl ?_
  refine i_newI (j := 13) (z := 3284) (w := 78) (n := 16) (dt_M_init 59 _ _ _ rfl) rfl (by decide) kaI ⟨hr.1, hr.2, rfl⟩ (hz.up (by omega)) ⟨by omega, by omega⟩ ?_
  replace hr := ap1 (q := ((20, 16), [])) (j' := 14) (z' := 3300) hr rfl rfl
  refine i_putRl hi (dt_M_init 60 _ _ _ rfl) kv_M_54 rfl ⟨rfl, rfl⟩ hl rfl (fun hl => ?_)
  refine s_aload_n (dt_M_init 61 _ _ _ rfl) rfl ?_
  refine s_bipush (dt_M_init 62 _ _ _ rfl) rfl ?_
  refine i_newI (j := 14) (z := 3300) (w := 78) (n := 40) (dt_M_init 63 _ _ _ rfl) rfl (by decide) kaI ⟨hr.1, hr.2, rfl⟩ (hz.up (by omega)) ⟨by omega, by omega⟩ ?_
  replace hr := ap1 (q := ((20, 40), [])) (j' := 15) (z' := 3340) hr rfl rfl
  refine i_putRl hi (dt_M_init 64 _ _ _ rfl) kv_M_57 rfl ⟨rfl, rfl⟩ hl rfl (fun hl => ?_)
  exact k
set_option maxRecDepth 100000 in
theorem ck_M_3 {α : Type} {G : Gam} {e : Option α} {κ : α → KCf} {S1 : KS} {M : KM} (hi : kIni G) (hz : kblk M (S1.length + 1)) (g1 : G.2.2.1.2.2.1 = S1.length + 53) (g2 : G.2.2.1.2.2.2 = ksz S1 + 25300)
    (k : Sim G Y_M_init e (kC 162 [some (VR (some S1.length))] [] (S1 ++ (((1, kN 1), mrs_4 S1.length) :: mR_4)) M) κ) : Sim G Y_M_init e (kC 123 [some (VR (some S1.length))] [] (S1 ++ (((1, kN 1), mrs_3 S1.length) :: mR_3)) M) κ := by
  have hr := mRl_3
  have hl := mrl_3 S1.length
  refine s_aload_n (dt_M_init 65 _ _ _ rfl) rfl ?_
  refine s_bipush (dt_M_init 66 _ _ _ rfl) rfl ?_
  refine i_newI (j := 15) (z := 3340) (w := 78) (n := 40) (dt_M_init 67 _ _ _ rfl) rfl (by decide) kaI ⟨hr.1, hr.2, rfl⟩ (hz.up (by omega)) ⟨by omega, by omega⟩ ?_
  replace hr := ap1 (q := ((20, 40), [])) (j' := 16) (z' := 3380) hr rfl rfl
  refine i_putRl hi (dt_M_init 68 _ _ _ rfl) kv_M_60 rfl ⟨rfl, rfl⟩ hl rfl (fun hl => ?_)
  refine s_aload_n (dt_M_init 69 _ _ _ rfl) rfl ?_
  refine s_bipush (dt_M_init 70 _ _ _ rfl) rfl ?_
  refine i_newI (j := 16) (z := 3380) (w := 78) (n := 40) (dt_M_init 71 _ _ _ rfl) rfl (by decide) kaI ⟨hr.1, hr.2, rfl⟩ (hz.up (by omega)) ⟨by omega, by omega⟩ ?_
  replace hr := ap1 (q := ((20, 40), [])) (j' := 17) (z' := 3420) hr rfl rfl
  refine i_putRl hi (dt_M_init 72 _ _ _ rfl) kv_M_63 rfl ⟨rfl, rfl⟩ hl rfl (fun hl => ?_)
  refine s_aload_n (dt_M_init 73 _ _ _ rfl) rfl ?_
  refine s_bipush (dt_M_init 74 _ _ _ rfl) rfl ?_
  refine i_newI (j := 17) (z := 3420) (w := 78) (n := 14) (dt_M_init 75 _ _ _ rfl) rfl (by decide) kaI ⟨hr.1, hr.2, rfl⟩ (hz.up (by omega)) ⟨by omega, by omega⟩ ?_
  replace hr := ap1 (q := ((20, 14), [])) (j' := 18) (z' := 3434) hr rfl rfl
  refine i_putRl hi (dt_M_init 76 _ _ _ rfl) kv_M_66 rfl ⟨rfl, rfl⟩ hl rfl (fun hl => ?_)
  refine s_aload_n (dt_M_init 77 _ _ _ rfl) rfl ?_
  refine s_bipush (dt_M_init 78 _ _ _ rfl) rfl ?_
  refine i_newI (j := 18) (z := 3434) (w := 78) (n := 14) (dt_M_init 79 _ _ _ rfl) rfl (by decide) kaI ⟨hr.1, hr.2, rfl⟩ (hz.up (by omega)) ⟨by omega, by omega⟩ ?_
  replace hr := ap1 (q := ((20, 14), [])) (j' := 19) (z' := 3448) hr rfl rfl
  refine i_putRl hi (dt_M_init 80 _ _ _ rfl) kv_M_69 rfl ⟨rfl, rfl⟩ hl rfl (fun hl => ?_)
  refine s_aload_n (dt_M_init 81 _ _ _ rfl) rfl ?_
  refine s_iconst (dt_M_init 82 _ _ _ rfl) rfl ?_
  refine i_newZ (j := 19) (z := 3448) (w := 78) (n := 2) (dt_M_init 83 _ _ _ rfl) rfl (by decide) kaZ ⟨hr.1, hr.2, rfl⟩ (hz.up (by omega)) ⟨by omega, by omega⟩ ?_
  replace hr := ap1 (q := ((23, 2), [])) (j' := 20) (z' := 3450) hr rfl rfl
  refine i_putRl hi (dt_M_init 84 _ _ _ rfl) kv_M_72 rfl ⟨rfl, rfl⟩ hl rfl (fun hl => ?_)
  exact k
set_option maxRecDepth 100000 in
theorem ck_M_4 {α : Type} {G : Gam} {e : Option α} {κ : α → KCf} {S1 : KS} {M : KM} (hi : kIni G) (hz : kblk M (S1.length + 1)) (g1 : G.2.2.1.2.2.1 = S1.length + 53) (g2 : G.2.2.1.2.2.2 = ksz S1 + 25300)
    (k : Sim G Y_M_init e (kC 204 [some (VR (some S1.length))] [] (S1 ++ (((1, kN 1), mrs_5 S1.length) :: mR_5)) M) κ) : Sim G Y_M_init e (kC 162 [some (VR (some S1.length))] [] (S1 ++ (((1, kN 1), mrs_4 S1.length) :: mR_4)) M) κ := by
  have hr := mRl_4
  have hl := mrl_4 S1.length
  refine s_aload_n (dt_M_init 85 _ _ _ rfl) rfl ?_
  refine s_bipush (dt_M_init 86 _ _ _ rfl) rfl ?_
  refine i_newZ (j := 20) (z := 3450) (w := 78) (n := 14) (dt_M_init 87 _ _ _ rfl) rfl (by decide) kaZ ⟨hr.1, hr.2, rfl⟩ (hz.up (by omega)) ⟨by omega, by omega⟩ ?_
  replace hr := ap1 (q := ((23, 14), [])) (j' := 21) (z' := 3464) hr rfl rfl
  refine i_putRl hi (dt_M_init 88 _ _ _ rfl) kv_M_76 rfl ⟨rfl, rfl⟩ hl rfl (fun hl => ?_)
  refine s_aload_n (dt_M_init 89 _ _ _ rfl) rfl ?_
  refine s_bipush (dt_M_init 90 _ _ _ rfl) rfl ?_
  refine i_newJ (j := 21) (z := 3464) (w := 78) (n := 16) (dt_M_init 91 _ _ _ rfl) rfl (by decide) kaJ ⟨hr.1, hr.2, rfl⟩ (hz.up (by omega)) ⟨by omega, by omega⟩ ?_
  replace hr := ap1 (q := ((21, 16), [])) (j' := 22) (z' := 3480) hr rfl rfl
  refine i_putRl hi (dt_M_init 92 _ _ _ rfl) kv_M_79 rfl ⟨rfl, rfl⟩ hl rfl (fun hl => ?_)
  refine s_aload_n (dt_M_init 93 _ _ _ rfl) rfl ?_
  refine s_bipush (dt_M_init 94 _ _ _ rfl) rfl ?_
  refine i_newJ (j := 22) (z := 3480) (w := 78) (n := 12) (dt_M_init 95 _ _ _ rfl) rfl (by decide) kaJ ⟨hr.1, hr.2, rfl⟩ (hz.up (by omega)) ⟨by omega, by omega⟩ ?_
  replace hr := ap1 (q := ((21, 12), [])) (j' := 23) (z' := 3492) hr rfl rfl
  refine i_putRl hi (dt_M_init 96 _ _ _ rfl) kv_M_83 rfl ⟨rfl, rfl⟩ hl rfl (fun hl => ?_)
  refine s_aload_n (dt_M_init 97 _ _ _ rfl) rfl ?_
  refine s_sipush (dt_M_init 98 _ _ _ rfl) rfl ?_
  refine i_newI (j := 23) (z := 3492) (w := 78) (n := 1120) (dt_M_init 99 _ _ _ rfl) rfl (by decide) kaI ⟨hr.1, hr.2, rfl⟩ (hz.up (by omega)) ⟨by omega, by omega⟩ ?_
  replace hr := ap1 (q := ((20, 1120), [])) (j' := 24) (z' := 4612) hr rfl rfl
  refine i_putRl hi (dt_M_init 100 _ _ _ rfl) kv_M_86 rfl ⟨rfl, rfl⟩ hl rfl (fun hl => ?_)
  refine s_aload_n (dt_M_init 101 _ _ _ rfl) rfl ?_
  refine s_sipush (dt_M_init 102 _ _ _ rfl) rfl ?_
  refine i_newI (j := 24) (z := 4612) (w := 78) (n := 1120) (dt_M_init 103 _ _ _ rfl) rfl (by decide) kaI ⟨hr.1, hr.2, rfl⟩ (hz.up (by omega)) ⟨by omega, by omega⟩ ?_
  replace hr := ap1 (q := ((20, 1120), [])) (j' := 25) (z' := 5732) hr rfl rfl
  refine i_putRl hi (dt_M_init 104 _ _ _ rfl) kv_M_89 rfl ⟨rfl, rfl⟩ hl rfl (fun hl => ?_)
  exact k
set_option maxRecDepth 100000 in
theorem ck_M_5 {α : Type} {G : Gam} {e : Option α} {κ : α → KCf} {S1 : KS} {M : KM} (hi : kIni G) (hz : kblk M (S1.length + 1)) (g1 : G.2.2.1.2.2.1 = S1.length + 53) (g2 : G.2.2.1.2.2.2 = ksz S1 + 25300)
    (k : Sim G Y_M_init e (kC 246 [some (VR (some S1.length))] [] (S1 ++ (((1, kN 1), mrs_6 S1.length) :: mR_6)) M) κ) : Sim G Y_M_init e (kC 204 [some (VR (some S1.length))] [] (S1 ++ (((1, kN 1), mrs_5 S1.length) :: mR_5)) M) κ := by
  have hr := mRl_5
  have hl := mrl_5 S1.length
  refine s_aload_n (dt_M_init 105 _ _ _ rfl) rfl ?_
  refine s_bipush (dt_M_init 106 _ _ _ rfl) rfl ?_
  refine i_newI (j := 25) (z := 5732) (w := 78) (n := 90) (dt_M_init 107 _ _ _ rfl) rfl (by decide) kaI ⟨hr.1, hr.2, rfl⟩ (hz.up (by omega)) ⟨by omega, by omega⟩ ?_
  replace hr := ap1 (q := ((20, 90), [])) (j' := 26) (z' := 5822) hr rfl rfl
  refine i_putRl hi (dt_M_init 108 _ _ _ rfl) kv_M_92 rfl ⟨rfl, rfl⟩ hl rfl (fun hl => ?_)
  refine s_aload_n (dt_M_init 109 _ _ _ rfl) rfl ?_
  refine s_bipush (dt_M_init 110 _ _ _ rfl) rfl ?_
  refine i_newI (j := 26) (z := 5822) (w := 78) (n := 90) (dt_M_init 111 _ _ _ rfl) rfl (by decide) kaI ⟨hr.1, hr.2, rfl⟩ (hz.up (by omega)) ⟨by omega, by omega⟩ ?_
  replace hr := ap1 (q := ((20, 90), [])) (j' := 27) (z' := 5912) hr rfl rfl
  refine i_putRl hi (dt_M_init 112 _ _ _ rfl) kv_M_95 rfl ⟨rfl, rfl⟩ hl rfl (fun hl => ?_)
  refine s_aload_n (dt_M_init 113 _ _ _ rfl) rfl ?_
  refine s_bipush (dt_M_init 114 _ _ _ rfl) rfl ?_
  refine i_newI (j := 27) (z := 5912) (w := 78) (n := 60) (dt_M_init 115 _ _ _ rfl) rfl (by decide) kaI ⟨hr.1, hr.2, rfl⟩ (hz.up (by omega)) ⟨by omega, by omega⟩ ?_
  replace hr := ap1 (q := ((20, 60), [])) (j' := 28) (z' := 5972) hr rfl rfl
  refine i_putRl hi (dt_M_init 116 _ _ _ rfl) kv_M_98 rfl ⟨rfl, rfl⟩ hl rfl (fun hl => ?_)
  refine s_aload_n (dt_M_init 117 _ _ _ rfl) rfl ?_
  refine s_sipush (dt_M_init 118 _ _ _ rfl) rfl ?_
  refine i_newI (j := 28) (z := 5972) (w := 78) (n := 171) (dt_M_init 119 _ _ _ rfl) rfl (by decide) kaI ⟨hr.1, hr.2, rfl⟩ (hz.up (by omega)) ⟨by omega, by omega⟩ ?_
  replace hr := ap1 (q := ((20, 171), [])) (j' := 29) (z' := 6143) hr rfl rfl
  refine i_putRl hi (dt_M_init 120 _ _ _ rfl) kv_M_101 rfl ⟨rfl, rfl⟩ hl rfl (fun hl => ?_)
  refine s_aload_n (dt_M_init 121 _ _ _ rfl) rfl ?_
  refine s_sipush (dt_M_init 122 _ _ _ rfl) rfl ?_
  refine i_newI (j := 29) (z := 6143) (w := 78) (n := 7011) (dt_M_init 123 _ _ _ rfl) rfl (by decide) kaI ⟨hr.1, hr.2, rfl⟩ (hz.up (by omega)) ⟨by omega, by omega⟩ ?_
  replace hr := ap1 (q := ((20, 7011), [])) (j' := 30) (z' := 13154) hr rfl rfl
  refine i_putRl hi (dt_M_init 124 _ _ _ rfl) kv_M_104 rfl ⟨rfl, rfl⟩ hl rfl (fun hl => ?_)
  exact k
set_option maxRecDepth 100000 in
theorem ck_M_6 {α : Type} {G : Gam} {e : Option α} {κ : α → KCf} {S1 : KS} {M : KM} (hi : kIni G) (hz : kblk M (S1.length + 1)) (g1 : G.2.2.1.2.2.1 = S1.length + 53) (g2 : G.2.2.1.2.2.2 = ksz S1 + 25300)
    (k : Sim G Y_M_init e (kC 286 [some (VR (some S1.length))] [] (S1 ++ (((1, kN 1), mrs_7 S1.length) :: mR_7)) M) κ) : Sim G Y_M_init e (kC 246 [some (VR (some S1.length))] [] (S1 ++ (((1, kN 1), mrs_6 S1.length) :: mR_6)) M) κ := by
  have hr := mRl_6
  have hl := mrl_6 S1.length
  refine s_aload_n (dt_M_init 125 _ _ _ rfl) rfl ?_
  refine s_bipush (dt_M_init 126 _ _ _ rfl) rfl ?_
  refine i_newI (j := 30) (z := 13154) (w := 78) (n := 64) (dt_M_init 127 _ _ _ rfl) rfl (by decide) kaI ⟨hr.1, hr.2, rfl⟩ (hz.up (by omega)) ⟨by omega, by omega⟩ ?_
  replace hr := ap1 (q := ((20, 64), [])) (j' := 31) (z' := 13218) hr rfl rfl
  refine i_putRl hi (dt_M_init 128 _ _ _ rfl) kv_M_107 rfl ⟨rfl, rfl⟩ hl rfl (fun hl => ?_)
  refine s_aload_n (dt_M_init 129 _ _ _ rfl) rfl ?_
  refine s_bipush (dt_M_init 130 _ _ _ rfl) rfl ?_
  refine i_newI (j := 31) (z := 13218) (w := 78) (n := 8) (dt_M_init 131 _ _ _ rfl) rfl (by decide) kaI ⟨hr.1, hr.2, rfl⟩ (hz.up (by omega)) ⟨by omega, by omega⟩ ?_
  replace hr := ap1 (q := ((20, 8), [])) (j' := 32) (z' := 13226) hr rfl rfl
  refine i_putRl hi (dt_M_init 132 _ _ _ rfl) kv_M_110 rfl ⟨rfl, rfl⟩ hl rfl (fun hl => ?_)
  refine s_aload_n (dt_M_init 133 _ _ _ rfl) rfl ?_
  refine s_bipush (dt_M_init 134 _ _ _ rfl) rfl ?_
  refine i_newI (j := 32) (z := 13226) (w := 78) (n := 8) (dt_M_init 135 _ _ _ rfl) rfl (by decide) kaI ⟨hr.1, hr.2, rfl⟩ (hz.up (by omega)) ⟨by omega, by omega⟩ ?_
  replace hr := ap1 (q := ((20, 8), [])) (j' := 33) (z' := 13234) hr rfl rfl
  refine i_putRl hi (dt_M_init 136 _ _ _ rfl) kv_M_113 rfl ⟨rfl, rfl⟩ hl rfl (fun hl => ?_)
  refine s_aload_n (dt_M_init 137 _ _ _ rfl) rfl ?_
  refine s_bipush (dt_M_init 138 _ _ _ rfl) rfl ?_
  refine i_newI (j := 33) (z := 13234) (w := 78) (n := 64) (dt_M_init 139 _ _ _ rfl) rfl (by decide) kaI ⟨hr.1, hr.2, rfl⟩ (hz.up (by omega)) ⟨by omega, by omega⟩ ?_
  replace hr := ap1 (q := ((20, 64), [])) (j' := 34) (z' := 13298) hr rfl rfl
  refine i_putRl hi (dt_M_init 140 _ _ _ rfl) kv_M_116 rfl ⟨rfl, rfl⟩ hl rfl (fun hl => ?_)
  refine s_aload_n (dt_M_init 141 _ _ _ rfl) rfl ?_
  refine s_bipush (dt_M_init 142 _ _ _ rfl) rfl ?_
  refine i_newI (j := 34) (z := 13298) (w := 78) (n := 8) (dt_M_init 143 _ _ _ rfl) rfl (by decide) kaI ⟨hr.1, hr.2, rfl⟩ (hz.up (by omega)) ⟨by omega, by omega⟩ ?_
  replace hr := ap1 (q := ((20, 8), [])) (j' := 35) (z' := 13306) hr rfl rfl
  refine i_putRl hi (dt_M_init 144 _ _ _ rfl) kv_M_119 rfl ⟨rfl, rfl⟩ hl rfl (fun hl => ?_)
  exact k
set_option maxRecDepth 100000 in
theorem ck_M_7 {α : Type} {G : Gam} {e : Option α} {κ : α → KCf} {S1 : KS} {M : KM} (hi : kIni G) (hz : kblk M (S1.length + 1)) (g1 : G.2.2.1.2.2.1 = S1.length + 53) (g2 : G.2.2.1.2.2.2 = ksz S1 + 25300)
    (k : Sim G Y_M_init e (kC 333 [some (VR (some S1.length))] [] (S1 ++ (((1, kN 1), mrs_8 S1.length) :: mR_8)) (mupd M S1.length 59 (-1))) κ) : Sim G Y_M_init e (kC 286 [some (VR (some S1.length))] [] (S1 ++ (((1, kN 1), mrs_7 S1.length) :: mR_7)) M) κ := by
  have hr := mRl_7
  have hl := mrl_7 S1.length
  refine s_aload_n (dt_M_init 145 _ _ _ rfl) rfl ?_
  refine s_bipush (dt_M_init 146 _ _ _ rfl) rfl ?_
  refine i_newI (j := 35) (z := 13306) (w := 78) (n := 8) (dt_M_init 147 _ _ _ rfl) rfl (by decide) kaI ⟨hr.1, hr.2, rfl⟩ (hz.up (by omega)) ⟨by omega, by omega⟩ ?_
  replace hr := ap1 (q := ((20, 8), [])) (j' := 36) (z' := 13314) hr rfl rfl
  refine i_putRl hi (dt_M_init 148 _ _ _ rfl) kv_M_122 rfl ⟨rfl, rfl⟩ hl rfl (fun hl => ?_)
  refine s_aload_n (dt_M_init 149 _ _ _ rfl) rfl ?_
  refine s_bipush (dt_M_init 150 _ _ _ rfl) rfl ?_
  refine i_newZ (j := 36) (z := 13314) (w := 78) (n := 8) (dt_M_init 151 _ _ _ rfl) rfl (by decide) kaZ ⟨hr.1, hr.2, rfl⟩ (hz.up (by omega)) ⟨by omega, by omega⟩ ?_
  replace hr := ap1 (q := ((23, 8), [])) (j' := 37) (z' := 13322) hr rfl rfl
  refine i_putRl hi (dt_M_init 152 _ _ _ rfl) kv_M_125 rfl ⟨rfl, rfl⟩ hl rfl (fun hl => ?_)
  refine s_aload_n (dt_M_init 153 _ _ _ rfl) rfl ?_
  refine s_bipush (dt_M_init 154 _ _ _ rfl) rfl ?_
  refine i_newI (j := 37) (z := 13322) (w := 78) (n := 8) (dt_M_init 155 _ _ _ rfl) rfl (by decide) kaI ⟨hr.1, hr.2, rfl⟩ (hz.up (by omega)) ⟨by omega, by omega⟩ ?_
  replace hr := ap1 (q := ((20, 8), [])) (j' := 38) (z' := 13330) hr rfl rfl
  refine i_putRl hi (dt_M_init 156 _ _ _ rfl) kv_M_128 rfl ⟨rfl, rfl⟩ hl rfl (fun hl => ?_)
  refine s_aload_n (dt_M_init 157 _ _ _ rfl) rfl ?_
  refine s_sipush (dt_M_init 158 _ _ _ rfl) rfl ?_
  refine i_newI (j := 38) (z := 13330) (w := 78) (n := 256) (dt_M_init 159 _ _ _ rfl) rfl (by decide) kaI ⟨hr.1, hr.2, rfl⟩ (hz.up (by omega)) ⟨by omega, by omega⟩ ?_
  replace hr := ap1 (q := ((20, 256), [])) (j' := 39) (z' := 13586) hr rfl rfl
  refine i_putRl hi (dt_M_init 160 _ _ _ rfl) kv_M_131 rfl ⟨rfl, rfl⟩ hl rfl (fun hl => ?_)
  refine s_aload_n (dt_M_init 161 _ _ _ rfl) rfl ?_
  refine s_iconst (dt_M_init 162 _ _ _ rfl) rfl ?_
  refine i_putI (dt_M_init 163 _ _ _ rfl) kv_M_134 ⟨rfl, rfl⟩ ?_
  replace hz := hz.upd (k := S1.length) (i := 59) (x := -1) (by omega)
  refine s_aload_n (dt_M_init 164 _ _ _ rfl) rfl ?_
  refine s_sipush (dt_M_init 165 _ _ _ rfl) rfl ?_
  refine i_newI (j := 39) (z := 13586) (w := 78) (n := 10809) (dt_M_init 166 _ _ _ rfl) rfl (by decide) kaI ⟨hr.1, hr.2, rfl⟩ (hz.up (by omega)) ⟨by omega, by omega⟩ ?_
  replace hr := ap1 (q := ((20, 10809), [])) (j' := 40) (z' := 24395) hr rfl rfl
  refine i_putRl hi (dt_M_init 167 _ _ _ rfl) kv_M_137 rfl ⟨rfl, rfl⟩ hl rfl (fun hl => ?_)
  exact k
set_option maxRecDepth 100000 in
theorem ck_M_8 {α : Type} {G : Gam} {e : Option α} {κ : α → KCf} {S1 : KS} {M : KM} (hi : kIni G) (hz : kblk M (S1.length + 1)) (g1 : G.2.2.1.2.2.1 = S1.length + 53) (g2 : G.2.2.1.2.2.2 = ksz S1 + 25300)
    (k : Sim G Y_M_init e (kC 374 [some (VR (some S1.length))] [] (S1 ++ (((1, kN 1), mrs_9 S1.length) :: mR_9)) M) κ) : Sim G Y_M_init e (kC 333 [some (VR (some S1.length))] [] (S1 ++ (((1, kN 1), mrs_8 S1.length) :: mR_8)) M) κ := by
  have hr := mRl_8
  have hl := mrl_8 S1.length
  refine s_aload_n (dt_M_init 168 _ _ _ rfl) rfl ?_
  refine s_sipush (dt_M_init 169 _ _ _ rfl) rfl ?_
  refine i_newI (j := 40) (z := 24395) (w := 78) (n := 151) (dt_M_init 170 _ _ _ rfl) rfl (by decide) kaI ⟨hr.1, hr.2, rfl⟩ (hz.up (by omega)) ⟨by omega, by omega⟩ ?_
  replace hr := ap1 (q := ((20, 151), [])) (j' := 41) (z' := 24546) hr rfl rfl
  refine i_putRl hi (dt_M_init 171 _ _ _ rfl) kv_M_140 rfl ⟨rfl, rfl⟩ hl rfl (fun hl => ?_)
  refine s_aload_n (dt_M_init 172 _ _ _ rfl) rfl ?_
  refine s_bipush (dt_M_init 173 _ _ _ rfl) rfl ?_
  refine i_newI (j := 41) (z := 24546) (w := 78) (n := 8) (dt_M_init 174 _ _ _ rfl) rfl (by decide) kaI ⟨hr.1, hr.2, rfl⟩ (hz.up (by omega)) ⟨by omega, by omega⟩ ?_
  replace hr := ap1 (q := ((20, 8), [])) (j' := 42) (z' := 24554) hr rfl rfl
  refine i_putRl hi (dt_M_init 175 _ _ _ rfl) kv_M_143 rfl ⟨rfl, rfl⟩ hl rfl (fun hl => ?_)
  refine s_aload_n (dt_M_init 176 _ _ _ rfl) rfl ?_
  refine s_bipush (dt_M_init 177 _ _ _ rfl) rfl ?_
  refine i_newI (j := 42) (z := 24554) (w := 78) (n := 8) (dt_M_init 178 _ _ _ rfl) rfl (by decide) kaI ⟨hr.1, hr.2, rfl⟩ (hz.up (by omega)) ⟨by omega, by omega⟩ ?_
  replace hr := ap1 (q := ((20, 8), [])) (j' := 43) (z' := 24562) hr rfl rfl
  refine i_putRl hi (dt_M_init 179 _ _ _ rfl) kv_M_146 rfl ⟨rfl, rfl⟩ hl rfl (fun hl => ?_)
  refine s_aload_n (dt_M_init 180 _ _ _ rfl) rfl ?_
  refine s_bipush (dt_M_init 181 _ _ _ rfl) rfl ?_
  refine i_newI (j := 43) (z := 24562) (w := 78) (n := 30) (dt_M_init 182 _ _ _ rfl) rfl (by decide) kaI ⟨hr.1, hr.2, rfl⟩ (hz.up (by omega)) ⟨by omega, by omega⟩ ?_
  replace hr := ap1 (q := ((20, 30), [])) (j' := 44) (z' := 24592) hr rfl rfl
  refine i_putRl hi (dt_M_init 183 _ _ _ rfl) kv_M_149 rfl ⟨rfl, rfl⟩ hl rfl (fun hl => ?_)
  refine s_aload_n (dt_M_init 184 _ _ _ rfl) rfl ?_
  refine s_bipush (dt_M_init 185 _ _ _ rfl) rfl ?_
  refine i_newI (j := 44) (z := 24592) (w := 78) (n := 30) (dt_M_init 186 _ _ _ rfl) rfl (by decide) kaI ⟨hr.1, hr.2, rfl⟩ (hz.up (by omega)) ⟨by omega, by omega⟩ ?_
  replace hr := ap1 (q := ((20, 30), [])) (j' := 45) (z' := 24622) hr rfl rfl
  refine i_putRl hi (dt_M_init 187 _ _ _ rfl) kv_M_152 rfl ⟨rfl, rfl⟩ hl rfl (fun hl => ?_)
  exact k
set_option maxRecDepth 100000 in
theorem ck_M_9 {α : Type} {G : Gam} {e : Option α} {κ : α → KCf} {S1 : KS} {M : KM} (hi : kIni G) (hz : kblk M (S1.length + 1)) (g1 : G.2.2.1.2.2.1 = S1.length + 53) (g2 : G.2.2.1.2.2.2 = ksz S1 + 25300)
    (k : Sim G Y_M_init e (kC 414 [some (VR (some S1.length))] [] (S1 ++ (((1, kN 1), mrs_10 S1.length) :: mR_10)) M) κ) : Sim G Y_M_init e (kC 374 [some (VR (some S1.length))] [] (S1 ++ (((1, kN 1), mrs_9 S1.length) :: mR_9)) M) κ := by
  have hr := mRl_9
  have hl := mrl_9 S1.length
  refine s_aload_n (dt_M_init 188 _ _ _ rfl) rfl ?_
  refine s_bipush (dt_M_init 189 _ _ _ rfl) rfl ?_
  refine i_newI (j := 45) (z := 24622) (w := 78) (n := 30) (dt_M_init 190 _ _ _ rfl) rfl (by decide) kaI ⟨hr.1, hr.2, rfl⟩ (hz.up (by omega)) ⟨by omega, by omega⟩ ?_
  replace hr := ap1 (q := ((20, 30), [])) (j' := 46) (z' := 24652) hr rfl rfl
  refine i_putRl hi (dt_M_init 191 _ _ _ rfl) kv_M_155 rfl ⟨rfl, rfl⟩ hl rfl (fun hl => ?_)
  refine s_aload_n (dt_M_init 192 _ _ _ rfl) rfl ?_
  refine s_bipush (dt_M_init 193 _ _ _ rfl) rfl ?_
  refine i_newI (j := 46) (z := 24652) (w := 78) (n := 30) (dt_M_init 194 _ _ _ rfl) rfl (by decide) kaI ⟨hr.1, hr.2, rfl⟩ (hz.up (by omega)) ⟨by omega, by omega⟩ ?_
  replace hr := ap1 (q := ((20, 30), [])) (j' := 47) (z' := 24682) hr rfl rfl
  refine i_putRl hi (dt_M_init 195 _ _ _ rfl) kv_M_158 rfl ⟨rfl, rfl⟩ hl rfl (fun hl => ?_)
  refine s_aload_n (dt_M_init 196 _ _ _ rfl) rfl ?_
  refine s_bipush (dt_M_init 197 _ _ _ rfl) rfl ?_
  refine i_newI (j := 47) (z := 24682) (w := 78) (n := 8) (dt_M_init 198 _ _ _ rfl) rfl (by decide) kaI ⟨hr.1, hr.2, rfl⟩ (hz.up (by omega)) ⟨by omega, by omega⟩ ?_
  replace hr := ap1 (q := ((20, 8), [])) (j' := 48) (z' := 24690) hr rfl rfl
  refine i_putRl hi (dt_M_init 199 _ _ _ rfl) kv_M_161 rfl ⟨rfl, rfl⟩ hl rfl (fun hl => ?_)
  refine s_aload_n (dt_M_init 200 _ _ _ rfl) rfl ?_
  refine s_bipush (dt_M_init 201 _ _ _ rfl) rfl ?_
  refine i_newI (j := 48) (z := 24690) (w := 78) (n := 8) (dt_M_init 202 _ _ _ rfl) rfl (by decide) kaI ⟨hr.1, hr.2, rfl⟩ (hz.up (by omega)) ⟨by omega, by omega⟩ ?_
  replace hr := ap1 (q := ((20, 8), [])) (j' := 49) (z' := 24698) hr rfl rfl
  refine i_putRl hi (dt_M_init 203 _ _ _ rfl) kv_M_164 rfl ⟨rfl, rfl⟩ hl rfl (fun hl => ?_)
  refine s_aload_n (dt_M_init 204 _ _ _ rfl) rfl ?_
  refine s_bipush (dt_M_init 205 _ _ _ rfl) rfl ?_
  refine i_newI (j := 49) (z := 24698) (w := 78) (n := 8) (dt_M_init 206 _ _ _ rfl) rfl (by decide) kaI ⟨hr.1, hr.2, rfl⟩ (hz.up (by omega)) ⟨by omega, by omega⟩ ?_
  replace hr := ap1 (q := ((20, 8), [])) (j' := 50) (z' := 24706) hr rfl rfl
  refine i_putRl hi (dt_M_init 207 _ _ _ rfl) kv_M_167 rfl ⟨rfl, rfl⟩ hl rfl (fun hl => ?_)
  exact k
set_option maxRecDepth 100000 in
theorem ck_M_10 {α : Type} {G : Gam} {e : Option α} {κ : α → KCf} {S1 : KS} {M : KM} (hi : kIni G) (hz : kblk M (S1.length + 1)) (g1 : G.2.2.1.2.2.1 = S1.length + 53) (g2 : G.2.2.1.2.2.2 = ksz S1 + 25300)
    (k : Sim G Y_M_init e (kC 430 [some (VR (some S1.length))] [] (S1 ++ (((1, kN 1), mrs_11 S1.length) :: mR_11)) M) κ) : Sim G Y_M_init e (kC 414 [some (VR (some S1.length))] [] (S1 ++ (((1, kN 1), mrs_10 S1.length) :: mR_10)) M) κ := by
  have hr := mRl_10
  have hl := mrl_10 S1.length
  refine s_aload_n (dt_M_init 208 _ _ _ rfl) rfl ?_
  refine s_sipush (dt_M_init 209 _ _ _ rfl) rfl ?_
  refine i_newI (j := 50) (z := 24706) (w := 78) (n := 513) (dt_M_init 210 _ _ _ rfl) rfl (by decide) kaI ⟨hr.1, hr.2, rfl⟩ (hz.up (by omega)) ⟨by omega, by omega⟩ ?_
  replace hr := ap1 (q := ((20, 513), [])) (j' := 51) (z' := 25219) hr rfl rfl
  refine i_putRl hi (dt_M_init 211 _ _ _ rfl) kv_M_170 rfl ⟨rfl, rfl⟩ hl rfl (fun hl => ?_)
  refine s_aload_n (dt_M_init 212 _ _ _ rfl) rfl ?_
  refine s_iconst (dt_M_init 213 _ _ _ rfl) rfl ?_
  refine i_newZ (j := 51) (z := 25219) (w := 78) (n := 3) (dt_M_init 214 _ _ _ rfl) rfl (by decide) kaZ ⟨hr.1, hr.2, rfl⟩ (hz.up (by omega)) ⟨by omega, by omega⟩ ?_
  replace hr := ap1 (q := ((23, 3), [])) (j' := 52) (z' := 25222) hr rfl rfl
  refine i_putRl hi (dt_M_init 215 _ _ _ rfl) kv_M_173 rfl ⟨rfl, rfl⟩ hl rfl (fun hl => ?_)
  exact k
def blk_M (n : Nat) : KS := ((1, 78), mrs_11 n) :: mR_11
theorem bl_M (n : Nat) : (blk_M n).length = 53 ∧ ksz (blk_M n) = 25300 := ap0 (w := 78) rfl mRl_11 rfl rfl
theorem wk_M {α : Type} {G : Gam} {e : Option α} {κ : α → KCf} {S1 : KS} {M : KM} (hi : kIni G) (hz : kblk M S1.length) (g1 : G.2.2.1.2.2.1 = S1.length + 53) (g2 : G.2.2.1.2.2.2 = ksz S1 + 25300)
    (k : Sim G Y_M_init e (kC 430 [some (VR (some S1.length))] [] (S1 ++ blk_M S1.length) (mupd (mupd M S1.length 5 (-1)) S1.length 59 (-1))) κ) : Sim G Y_M_init e (kC 0 [some (VR (some S1.length))] [] (S1 ++ (((1, kN 1), List.replicate (kN 1) none) :: [])) M) κ := by
  have hz := hz.up (m := S1.length + 1) (by omega)
  refine ck_M_0 hi hz g1 g2 ?_
  replace hz := hz.upd (k := S1.length) (i := 5) (x := -1) (by omega)
  refine ck_M_1 hi hz g1 g2 ?_
  refine ck_M_2 hi hz g1 g2 ?_
  refine ck_M_3 hi hz g1 g2 ?_
  refine ck_M_4 hi hz g1 g2 ?_
  refine ck_M_5 hi hz g1 g2 ?_
  refine ck_M_6 hi hz g1 g2 ?_
  refine ck_M_7 hi hz g1 g2 ?_
  replace hz := hz.upd (k := S1.length) (i := 59) (x := -1) (by omega)
  refine ck_M_8 hi hz g1 g2 ?_
  refine ck_M_9 hi hz g1 g2 ?_
  refine ck_M_10 hi hz g1 g2 ?_
  exact k
