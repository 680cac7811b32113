/-! THE TWO TEXTS, AND THE JDK'S OWN METHODS ON THEM -/
def yj_coder : MethodName := ⟨"java/lang/String", "coder", "()B"⟩
abbrev Yj_coder : KY := ("java/lang/String", prog_18_method_152_code, 1, (some .byte), 1)
theorem mj_coder : KMd yj_coder Yj_coder 0 := ⟨⟨tb_at 734 (by decide +kernel), tb_at 154 (by decide +kernel)⟩, rfl, ⟨by decide, by decide, by decide⟩, by decide +kernel, by decide⟩
theorem ij_coder : Cond.instanceMethod yj_coder ∈ tbg ∧ Cond.selects "java/lang/String" yj_coder yj_coder ∈ tbg := ⟨tb_at 732 (by decide +kernel), tb_at 733 (by decide +kernel)⟩
theorem dj_coder_0 : decode prog_18_method_152_code 0 = .ok (.getstatic 38, 3) := by decide +kernel
theorem dj_coder_3 : decode prog_18_method_152_code 3 = .ok (.ifCond .eq 10, 3) := by decide +kernel
theorem dj_coder_6 : decode prog_18_method_152_code 6 = .ok (.aload_n 0, 1) := by decide +kernel
theorem dj_coder_7 : decode prog_18_method_152_code 7 = .ok (.getfield 15, 3) := by decide +kernel
theorem dj_coder_10 : decode prog_18_method_152_code 10 = .ok (.goto 4, 3) := by decide +kernel
theorem dj_coder_13 : decode prog_18_method_152_code 13 = .ok (.iconst 1, 1) := by decide +kernel
theorem dj_coder_14 : decode prog_18_method_152_code 14 = .ok (.ireturn, 1) := by decide +kernel
def yj_isLatin1 : MethodName := ⟨"java/lang/String", "isLatin1", "()Z"⟩
abbrev Yj_isLatin1 : KY := ("java/lang/String", prog_18_method_154_code, 1, (some .boolean), 1)
theorem mj_isLatin1 : KMd yj_isLatin1 Yj_isLatin1 0 := ⟨⟨tb_at 744 (by decide +kernel), tb_at 154 (by decide +kernel)⟩, rfl, ⟨by decide, by decide, by decide⟩, by decide +kernel, by decide⟩
theorem ij_isLatin1 : Cond.instanceMethod yj_isLatin1 ∈ tbg ∧ Cond.selects "java/lang/String" yj_isLatin1 yj_isLatin1 ∈ tbg := ⟨tb_at 742 (by decide +kernel), tb_at 743 (by decide +kernel)⟩
theorem dj_isLatin1_0 : decode prog_18_method_154_code 0 = .ok (.getstatic 38, 3) := by decide +kernel
theorem dj_isLatin1_3 : decode prog_18_method_154_code 3 = .ok (.ifCond .eq 14, 3) := by decide +kernel
theorem dj_isLatin1_6 : decode prog_18_method_154_code 6 = .ok (.aload_n 0, 1) := by decide +kernel
theorem dj_isLatin1_7 : decode prog_18_method_154_code 7 = .ok (.getfield 15, 3) := by decide +kernel
theorem dj_isLatin1_10 : decode prog_18_method_154_code 10 = .ok (.ifCond .ne 7, 3) := by decide +kernel
theorem dj_isLatin1_13 : decode prog_18_method_154_code 13 = .ok (.iconst 1, 1) := by decide +kernel
theorem dj_isLatin1_14 : decode prog_18_method_154_code 14 = .ok (.goto 4, 3) := by decide +kernel
theorem dj_isLatin1_17 : decode prog_18_method_154_code 17 = .ok (.iconst 0, 1) := by decide +kernel
theorem dj_isLatin1_18 : decode prog_18_method_154_code 18 = .ok (.ireturn, 1) := by decide +kernel
def yj_length : MethodName := ⟨"java/lang/String", "length", "()I"⟩
abbrev Yj_length : KY := ("java/lang/String", prog_18_method_54_code, 1, (some .int), 2)
theorem mj_length : KMd yj_length Yj_length 0 := ⟨⟨tb_at 730 (by decide +kernel), tb_at 154 (by decide +kernel)⟩, rfl, ⟨by decide, by decide, by decide⟩, by decide +kernel, by decide⟩
theorem ij_length : Cond.instanceMethod yj_length ∈ tbg ∧ Cond.selects "java/lang/String" yj_length yj_length ∈ tbg := ⟨tb_at 728 (by decide +kernel), tb_at 729 (by decide +kernel)⟩
theorem dj_length_0 : decode prog_18_method_54_code 0 = .ok (.aload_n 0, 1) := by decide +kernel
theorem dj_length_1 : decode prog_18_method_54_code 1 = .ok (.getfield 9, 3) := by decide +kernel
theorem dj_length_4 : decode prog_18_method_54_code 4 = .ok (.arraylength, 1) := by decide +kernel
theorem dj_length_5 : decode prog_18_method_54_code 5 = .ok (.aload_n 0, 1) := by decide +kernel
theorem dj_length_6 : decode prog_18_method_54_code 6 = .ok (.invokevirtual 335, 3) := by decide +kernel
theorem dj_length_9 : decode prog_18_method_54_code 9 = .ok (.ishr, 1) := by decide +kernel
theorem dj_length_10 : decode prog_18_method_54_code 10 = .ok (.ireturn, 1) := by decide +kernel
def yj_charAt : MethodName := ⟨"java/lang/String", "charAt", "(I)C"⟩
abbrev Yj_charAt : KY := ("java/lang/String", prog_18_method_56_code, 2, (some .char), 4)
theorem mj_charAt : KMd yj_charAt Yj_charAt 1 := ⟨⟨tb_at 740 (by decide +kernel), tb_at 154 (by decide +kernel)⟩, rfl, ⟨by decide, by decide, by decide⟩, by decide +kernel, by decide⟩
theorem ij_charAt : Cond.instanceMethod yj_charAt ∈ tbg ∧ Cond.selects "java/lang/String" yj_charAt yj_charAt ∈ tbg := ⟨tb_at 738 (by decide +kernel), tb_at 739 (by decide +kernel)⟩
theorem dj_charAt_0 : decode prog_18_method_56_code 0 = .ok (.aload_n 0, 1) := by decide +kernel
theorem dj_charAt_1 : decode prog_18_method_56_code 1 = .ok (.invokevirtual 492, 3) := by decide +kernel
theorem dj_charAt_4 : decode prog_18_method_56_code 4 = .ok (.ifCond .eq 12, 3) := by decide +kernel
theorem dj_charAt_7 : decode prog_18_method_56_code 7 = .ok (.aload_n 0, 1) := by decide +kernel
theorem dj_charAt_8 : decode prog_18_method_56_code 8 = .ok (.getfield 9, 3) := by decide +kernel
theorem dj_charAt_11 : decode prog_18_method_56_code 11 = .ok (.iload_n 1, 1) := by decide +kernel
theorem dj_charAt_12 : decode prog_18_method_56_code 12 = .ok (.invokestatic 495, 3) := by decide +kernel
theorem dj_charAt_15 : decode prog_18_method_56_code 15 = .ok (.ireturn, 1) := by decide +kernel
theorem dj_charAt_16 : decode prog_18_method_56_code 16 = .ok (.aload_n 0, 1) := by decide +kernel
theorem dj_charAt_17 : decode prog_18_method_56_code 17 = .ok (.getfield 9, 3) := by decide +kernel
theorem dj_charAt_20 : decode prog_18_method_56_code 20 = .ok (.iload_n 1, 1) := by decide +kernel
theorem dj_charAt_21 : decode prog_18_method_56_code 21 = .ok (.invokestatic 498, 3) := by decide +kernel
theorem dj_charAt_24 : decode prog_18_method_56_code 24 = .ok (.ireturn, 1) := by decide +kernel
def yj_indexOf : MethodName := ⟨"java/lang/String", "indexOf", "(I)I"⟩
abbrev Yj_indexOf : KY := ("java/lang/String", prog_18_method_79_code, 2, (some .int), 4)
theorem mj_indexOf : KMd yj_indexOf Yj_indexOf 1 := ⟨⟨tb_at 786 (by decide +kernel), tb_at 154 (by decide +kernel)⟩, rfl, ⟨by decide, by decide, by decide⟩, by decide +kernel, by decide⟩
theorem ij_indexOf : Cond.instanceMethod yj_indexOf ∈ tbg ∧ Cond.selects "java/lang/String" yj_indexOf yj_indexOf ∈ tbg := ⟨tb_at 784 (by decide +kernel), tb_at 785 (by decide +kernel)⟩
theorem dj_indexOf_0 : decode prog_18_method_79_code 0 = .ok (.aload_n 0, 1) := by decide +kernel
theorem dj_indexOf_1 : decode prog_18_method_79_code 1 = .ok (.iload_n 1, 1) := by decide +kernel
theorem dj_indexOf_2 : decode prog_18_method_79_code 2 = .ok (.iconst 0, 1) := by decide +kernel
theorem dj_indexOf_3 : decode prog_18_method_79_code 3 = .ok (.invokevirtual 633, 3) := by decide +kernel
theorem dj_indexOf_6 : decode prog_18_method_79_code 6 = .ok (.ireturn, 1) := by decide +kernel
def yj_indexOf2 : MethodName := ⟨"java/lang/String", "indexOf", "(II)I"⟩
abbrev Yj_indexOf2 : KY := ("java/lang/String", prog_18_method_80_code, 3, (some .int), 3)
theorem mj_indexOf2 : KMd yj_indexOf2 Yj_indexOf2 2 := ⟨⟨tb_at 790 (by decide +kernel), tb_at 154 (by decide +kernel)⟩, rfl, ⟨by decide, by decide, by decide⟩, by decide +kernel, by decide⟩
theorem ij_indexOf2 : Cond.instanceMethod yj_indexOf2 ∈ tbg ∧ Cond.selects "java/lang/String" yj_indexOf2 yj_indexOf2 ∈ tbg := ⟨tb_at 788 (by decide +kernel), tb_at 789 (by decide +kernel)⟩
theorem dj_indexOf2_0 : decode prog_18_method_80_code 0 = .ok (.aload_n 0, 1) := by decide +kernel
theorem dj_indexOf2_1 : decode prog_18_method_80_code 1 = .ok (.invokevirtual 492, 3) := by decide +kernel
theorem dj_indexOf2_4 : decode prog_18_method_80_code 4 = .ok (.ifCond .eq 19, 3) := by decide +kernel
theorem dj_indexOf2_7 : decode prog_18_method_80_code 7 = .ok (.aload_n 0, 1) := by decide +kernel
theorem dj_indexOf2_8 : decode prog_18_method_80_code 8 = .ok (.getfield 9, 3) := by decide +kernel
theorem dj_indexOf2_11 : decode prog_18_method_80_code 11 = .ok (.iload_n 1, 1) := by decide +kernel
theorem dj_indexOf2_12 : decode prog_18_method_80_code 12 = .ok (.iload_n 2, 1) := by decide +kernel
theorem dj_indexOf2_13 : decode prog_18_method_80_code 13 = .ok (.aload_n 0, 1) := by decide +kernel
theorem dj_indexOf2_14 : decode prog_18_method_80_code 14 = .ok (.invokevirtual 505, 3) := by decide +kernel
theorem dj_indexOf2_17 : decode prog_18_method_80_code 17 = .ok (.invokestatic 637, 3) := by decide +kernel
theorem dj_indexOf2_20 : decode prog_18_method_80_code 20 = .ok (.goto 16, 3) := by decide +kernel
theorem dj_indexOf2_23 : decode prog_18_method_80_code 23 = .ok (.aload_n 0, 1) := by decide +kernel
theorem dj_indexOf2_24 : decode prog_18_method_80_code 24 = .ok (.getfield 9, 3) := by decide +kernel
theorem dj_indexOf2_27 : decode prog_18_method_80_code 27 = .ok (.iload_n 1, 1) := by decide +kernel
theorem dj_indexOf2_28 : decode prog_18_method_80_code 28 = .ok (.iload_n 2, 1) := by decide +kernel
theorem dj_indexOf2_29 : decode prog_18_method_80_code 29 = .ok (.aload_n 0, 1) := by decide +kernel
theorem dj_indexOf2_30 : decode prog_18_method_80_code 30 = .ok (.invokevirtual 505, 3) := by decide +kernel
theorem dj_indexOf2_33 : decode prog_18_method_80_code 33 = .ok (.invokestatic 640, 3) := by decide +kernel
theorem dj_indexOf2_36 : decode prog_18_method_80_code 36 = .ok (.ireturn, 1) := by decide +kernel
def yj_checkIndex : MethodName := ⟨"java/lang/String", "checkIndex", "(II)V"⟩
abbrev Yj_checkIndex : KY := ("java/lang/String", prog_18_method_155_code, 2, none, 2)
theorem mj_checkIndex : KMd yj_checkIndex Yj_checkIndex 2 := ⟨⟨tb_at 750 (by decide +kernel), tb_at 154 (by decide +kernel)⟩, rfl, ⟨by decide, by decide, by decide⟩, by decide +kernel, by decide⟩
theorem ij_checkIndex : Cond.static yj_checkIndex ∈ tbg := tb_at 749 (by decide +kernel)
theorem dj_checkIndex_0 : decode prog_18_method_155_code 0 = .ok (.iload_n 0, 1) := by decide +kernel
theorem dj_checkIndex_1 : decode prog_18_method_155_code 1 = .ok (.iload_n 1, 1) := by decide +kernel
theorem dj_checkIndex_2 : decode prog_18_method_155_code 2 = .ok (.getstatic 1053, 3) := by decide +kernel
theorem dj_checkIndex_5 : decode prog_18_method_155_code 5 = .ok (.invokestatic 1059, 3) := by decide +kernel
theorem dj_checkIndex_8 : decode prog_18_method_155_code 8 = .ok (.pop, 1) := by decide +kernel
theorem dj_checkIndex_9 : decode prog_18_method_155_code 9 = .ok (.return_, 1) := by decide +kernel
def yj_pcheck : MethodName := ⟨"jdk/internal/util/Preconditions", "checkIndex", "(IILjava/util/function/BiFunction;)I"⟩
abbrev Yj_pcheck : KY := ("jdk/internal/util/Preconditions", prog_22_method_11_code, 3, (some .int), 1)
theorem mj_pcheck : KMd yj_pcheck Yj_pcheck 3 := ⟨⟨tb_at 755 (by decide +kernel), tb_at 156 (by decide +kernel)⟩, rfl, ⟨by decide, by decide, by decide⟩, by decide +kernel, by decide⟩
theorem ij_pcheck : Cond.static yj_pcheck ∈ tbg := tb_at 754 (by decide +kernel)
theorem dj_pcheck_0 : decode prog_22_method_11_code 0 = .ok (.iload_n 0, 1) := by decide +kernel
theorem dj_pcheck_1 : decode prog_22_method_11_code 1 = .ok (.ifCond .lt 8, 3) := by decide +kernel
theorem dj_pcheck_4 : decode prog_22_method_11_code 4 = .ok (.iload_n 0, 1) := by decide +kernel
theorem dj_pcheck_5 : decode prog_22_method_11_code 5 = .ok (.iload_n 1, 1) := by decide +kernel
theorem dj_pcheck_6 : decode prog_22_method_11_code 6 = .ok (.if_icmp .lt 10, 3) := by decide +kernel
theorem dj_pcheck_9 : decode prog_22_method_11_code 9 = .ok (.aload_n 2, 1) := by decide +kernel
theorem dj_pcheck_10 : decode prog_22_method_11_code 10 = .ok (.iload_n 0, 1) := by decide +kernel
theorem dj_pcheck_11 : decode prog_22_method_11_code 11 = .ok (.iload_n 1, 1) := by decide +kernel
theorem dj_pcheck_12 : decode prog_22_method_11_code 12 = .ok (.invokestatic 95, 3) := by decide +kernel
theorem dj_pcheck_15 : decode prog_22_method_11_code 15 = .ok (.athrow, 1) := by decide +kernel
theorem dj_pcheck_16 : decode prog_22_method_11_code 16 = .ok (.iload_n 0, 1) := by decide +kernel
theorem dj_pcheck_17 : decode prog_22_method_11_code 17 = .ok (.ireturn, 1) := by decide +kernel
def yj_lcharAt : MethodName := ⟨"java/lang/StringLatin1", "charAt", "([BI)C"⟩
abbrev Yj_lcharAt : KY := ("java/lang/StringLatin1", prog_19_method_2_code, 2, (some .char), 3)
theorem mj_lcharAt : KMd yj_lcharAt Yj_lcharAt 2 := ⟨⟨tb_at 747 (by decide +kernel), tb_at 155 (by decide +kernel)⟩, rfl, ⟨by decide, by decide, by decide⟩, by decide +kernel, by decide⟩
theorem ij_lcharAt : Cond.static yj_lcharAt ∈ tbg := tb_at 746 (by decide +kernel)
theorem dj_lcharAt_0 : decode prog_19_method_2_code 0 = .ok (.iload_n 1, 1) := by decide +kernel
theorem dj_lcharAt_1 : decode prog_19_method_2_code 1 = .ok (.aload_n 0, 1) := by decide +kernel
theorem dj_lcharAt_2 : decode prog_19_method_2_code 2 = .ok (.arraylength, 1) := by decide +kernel
theorem dj_lcharAt_3 : decode prog_19_method_2_code 3 = .ok (.invokestatic 9, 3) := by decide +kernel
theorem dj_lcharAt_6 : decode prog_19_method_2_code 6 = .ok (.aload_n 0, 1) := by decide +kernel
theorem dj_lcharAt_7 : decode prog_19_method_2_code 7 = .ok (.iload_n 1, 1) := by decide +kernel
theorem dj_lcharAt_8 : decode prog_19_method_2_code 8 = .ok (.baload, 1) := by decide +kernel
theorem dj_lcharAt_9 : decode prog_19_method_2_code 9 = .ok (.sipush 255, 3) := by decide +kernel
theorem dj_lcharAt_12 : decode prog_19_method_2_code 12 = .ok (.iand, 1) := by decide +kernel
theorem dj_lcharAt_13 : decode prog_19_method_2_code 13 = .ok (.i2c, 1) := by decide +kernel
theorem dj_lcharAt_14 : decode prog_19_method_2_code 14 = .ok (.ireturn, 1) := by decide +kernel
def yj_lindexOf : MethodName := ⟨"java/lang/StringLatin1", "indexOf", "([BIII)I"⟩
abbrev Yj_lindexOf : KY := ("java/lang/StringLatin1", prog_19_method_22_code, 4, (some .int), 2)
theorem mj_lindexOf : KMd yj_lindexOf Yj_lindexOf 4 := ⟨⟨tb_at 794 (by decide +kernel), tb_at 155 (by decide +kernel)⟩, rfl, ⟨by decide, by decide, by decide⟩, by decide +kernel, by decide⟩
theorem ij_lindexOf : Cond.static yj_lindexOf ∈ tbg := tb_at 793 (by decide +kernel)
theorem dj_lindexOf_0 : decode prog_19_method_22_code 0 = .ok (.iload_n 1, 1) := by decide +kernel
theorem dj_lindexOf_1 : decode prog_19_method_22_code 1 = .ok (.invokestatic 88, 3) := by decide +kernel
theorem dj_lindexOf_4 : decode prog_19_method_22_code 4 = .ok (.ifCond .ne 5, 3) := by decide +kernel
theorem dj_lindexOf_7 : decode prog_19_method_22_code 7 = .ok (.iconst (-1), 1) := by decide +kernel
theorem dj_lindexOf_8 : decode prog_19_method_22_code 8 = .ok (.ireturn, 1) := by decide +kernel
theorem dj_lindexOf_9 : decode prog_19_method_22_code 9 = .ok (.iload_n 2, 1) := by decide +kernel
theorem dj_lindexOf_10 : decode prog_19_method_22_code 10 = .ok (.iconst 0, 1) := by decide +kernel
theorem dj_lindexOf_11 : decode prog_19_method_22_code 11 = .ok (.invokestatic 92, 3) := by decide +kernel
theorem dj_lindexOf_14 : decode prog_19_method_22_code 14 = .ok (.istore_n 2, 1) := by decide +kernel
theorem dj_lindexOf_15 : decode prog_19_method_22_code 15 = .ok (.iload_n 3, 1) := by decide +kernel
theorem dj_lindexOf_16 : decode prog_19_method_22_code 16 = .ok (.aload_n 0, 1) := by decide +kernel
theorem dj_lindexOf_17 : decode prog_19_method_22_code 17 = .ok (.arraylength, 1) := by decide +kernel
theorem dj_lindexOf_18 : decode prog_19_method_22_code 18 = .ok (.invokestatic 38, 3) := by decide +kernel
theorem dj_lindexOf_21 : decode prog_19_method_22_code 21 = .ok (.istore_n 3, 1) := by decide +kernel
theorem dj_lindexOf_22 : decode prog_19_method_22_code 22 = .ok (.iload_n 2, 1) := by decide +kernel
theorem dj_lindexOf_23 : decode prog_19_method_22_code 23 = .ok (.iload_n 3, 1) := by decide +kernel
theorem dj_lindexOf_24 : decode prog_19_method_22_code 24 = .ok (.if_icmp .lt 5, 3) := by decide +kernel
theorem dj_lindexOf_27 : decode prog_19_method_22_code 27 = .ok (.iconst (-1), 1) := by decide +kernel
theorem dj_lindexOf_28 : decode prog_19_method_22_code 28 = .ok (.ireturn, 1) := by decide +kernel
theorem dj_lindexOf_29 : decode prog_19_method_22_code 29 = .ok (.aload_n 0, 1) := by decide +kernel
theorem dj_lindexOf_30 : decode prog_19_method_22_code 30 = .ok (.iload_n 1, 1) := by decide +kernel
theorem dj_lindexOf_31 : decode prog_19_method_22_code 31 = .ok (.iload_n 2, 1) := by decide +kernel
theorem dj_lindexOf_32 : decode prog_19_method_22_code 32 = .ok (.iload_n 3, 1) := by decide +kernel
theorem dj_lindexOf_33 : decode prog_19_method_22_code 33 = .ok (.invokestatic 95, 3) := by decide +kernel
theorem dj_lindexOf_36 : decode prog_19_method_22_code 36 = .ok (.ireturn, 1) := by decide +kernel
def yj_lcan : MethodName := ⟨"java/lang/StringLatin1", "canEncode", "(I)Z"⟩
abbrev Yj_lcan : KY := ("java/lang/StringLatin1", prog_19_method_4_code, 1, (some .boolean), 1)
theorem mj_lcan : KMd yj_lcan Yj_lcan 1 := ⟨⟨tb_at 797 (by decide +kernel), tb_at 155 (by decide +kernel)⟩, rfl, ⟨by decide, by decide, by decide⟩, by decide +kernel, by decide⟩
theorem ij_lcan : Cond.static yj_lcan ∈ tbg := tb_at 796 (by decide +kernel)
theorem dj_lcan_0 : decode prog_19_method_4_code 0 = .ok (.iload_n 0, 1) := by decide +kernel
theorem dj_lcan_1 : decode prog_19_method_4_code 1 = .ok (.ifCond .lt 14, 3) := by decide +kernel
theorem dj_lcan_4 : decode prog_19_method_4_code 4 = .ok (.iload_n 0, 1) := by decide +kernel
theorem dj_lcan_5 : decode prog_19_method_4_code 5 = .ok (.sipush 255, 3) := by decide +kernel
theorem dj_lcan_8 : decode prog_19_method_4_code 8 = .ok (.if_icmp .gt 7, 3) := by decide +kernel
theorem dj_lcan_11 : decode prog_19_method_4_code 11 = .ok (.iconst 1, 1) := by decide +kernel
theorem dj_lcan_12 : decode prog_19_method_4_code 12 = .ok (.goto 4, 3) := by decide +kernel
theorem dj_lcan_15 : decode prog_19_method_4_code 15 = .ok (.iconst 0, 1) := by decide +kernel
theorem dj_lcan_16 : decode prog_19_method_4_code 16 = .ok (.ireturn, 1) := by decide +kernel
def yj_lchar : MethodName := ⟨"java/lang/StringLatin1", "indexOfChar", "([BIII)I"⟩
abbrev Yj_lchar : KY := ("java/lang/StringLatin1", prog_19_method_23_code, 6, (some .int), 1)
theorem mj_lchar : KMd yj_lchar Yj_lchar 4 := ⟨⟨tb_at 806 (by decide +kernel), tb_at 155 (by decide +kernel)⟩, rfl, ⟨by decide, by decide, by decide⟩, by decide +kernel, by decide⟩
theorem ij_lchar : Cond.static yj_lchar ∈ tbg := tb_at 805 (by decide +kernel)
theorem dj_lchar_0 : decode prog_19_method_23_code 0 = .ok (.iload_n 1, 1) := by decide +kernel
theorem dj_lchar_1 : decode prog_19_method_23_code 1 = .ok (.i2b, 1) := by decide +kernel
theorem dj_lchar_2 : decode prog_19_method_23_code 2 = .ok (.istore 4, 2) := by decide +kernel
theorem dj_lchar_4 : decode prog_19_method_23_code 4 = .ok (.iload_n 2, 1) := by decide +kernel
theorem dj_lchar_5 : decode prog_19_method_23_code 5 = .ok (.istore 5, 2) := by decide +kernel
theorem dj_lchar_7 : decode prog_19_method_23_code 7 = .ok (.iload 5, 2) := by decide +kernel
theorem dj_lchar_9 : decode prog_19_method_23_code 9 = .ok (.iload_n 3, 1) := by decide +kernel
theorem dj_lchar_10 : decode prog_19_method_23_code 10 = .ok (.if_icmp .ge 21, 3) := by decide +kernel
theorem dj_lchar_13 : decode prog_19_method_23_code 13 = .ok (.aload_n 0, 1) := by decide +kernel
theorem dj_lchar_14 : decode prog_19_method_23_code 14 = .ok (.iload 5, 2) := by decide +kernel
theorem dj_lchar_16 : decode prog_19_method_23_code 16 = .ok (.baload, 1) := by decide +kernel
theorem dj_lchar_17 : decode prog_19_method_23_code 17 = .ok (.iload 4, 2) := by decide +kernel
theorem dj_lchar_19 : decode prog_19_method_23_code 19 = .ok (.if_icmp .ne 6, 3) := by decide +kernel
theorem dj_lchar_22 : decode prog_19_method_23_code 22 = .ok (.iload 5, 2) := by decide +kernel
theorem dj_lchar_24 : decode prog_19_method_23_code 24 = .ok (.ireturn, 1) := by decide +kernel
theorem dj_lchar_25 : decode prog_19_method_23_code 25 = .ok (.iinc 5 1, 3) := by decide +kernel
theorem dj_lchar_28 : decode prog_19_method_23_code 28 = .ok (.goto (-21), 3) := by decide +kernel
theorem dj_lchar_31 : decode prog_19_method_23_code 31 = .ok (.iconst (-1), 1) := by decide +kernel
theorem dj_lchar_32 : decode prog_19_method_23_code 32 = .ok (.ireturn, 1) := by decide +kernel
theorem lj_S_coder : Cond.methodLink "java/lang/String" 335 yj_coder ∈ tbg := tb_at 731 (by decide +kernel)
theorem lj_S_isLatin1 : Cond.methodLink "java/lang/String" 492 yj_isLatin1 ∈ tbg := tb_at 741 (by decide +kernel)
theorem lj_S_lcharAt : Cond.methodLink "java/lang/String" 495 yj_lcharAt ∈ tbg := tb_at 745 (by decide +kernel)
theorem lj_L_checkIndex : Cond.methodLink "java/lang/StringLatin1" 9 yj_checkIndex ∈ tbg := tb_at 748 (by decide +kernel)
theorem lj_S_pcheck : Cond.methodLink "java/lang/String" 1059 yj_pcheck ∈ tbg := tb_at 753 (by decide +kernel)
theorem lj_S_indexOf2 : Cond.methodLink "java/lang/String" 633 yj_indexOf2 ∈ tbg := tb_at 787 (by decide +kernel)
theorem lj_S_length : Cond.methodLink "java/lang/String" 505 yj_length ∈ tbg := tb_at 791 (by decide +kernel)
theorem lj_S_lindexOf : Cond.methodLink "java/lang/String" 637 yj_lindexOf ∈ tbg := tb_at 792 (by decide +kernel)
theorem lj_L_lcan : Cond.methodLink "java/lang/StringLatin1" 88 yj_lcan ∈ tbg := tb_at 795 (by decide +kernel)
theorem lj_L_lchar : Cond.methodLink "java/lang/StringLatin1" 95 yj_lchar ∈ tbg := tb_at 804 (by decide +kernel)
theorem lj_T_length : Cond.methodLink "YearHands$Tokens" 71 yj_length ∈ tbg := tb_at 727 (by decide +kernel)
theorem lj_T_charAt : Cond.methodLink "YearHands$Tokens" 75 yj_charAt ∈ tbg := tb_at 737 (by decide +kernel)
theorem lj_T_indexOf : Cond.methodLink "YearHands$Tokens" 58 yj_indexOf ∈ tbg := tb_at 783 (by decide +kernel)
theorem fj_value : Cond.fieldLink "java/lang/String" 9 "java/lang/String" "value" "[B" ∈ tbg := tb_at 2179 (by decide +kernel)
theorem fj_coder : Cond.fieldLink "java/lang/String" 15 "java/lang/String" "coder" "B" ∈ tbg := tb_at 2180 (by decide +kernel)
theorem fj_compact : Cond.fieldLink "java/lang/String" 38 "java/lang/String" "COMPACT_STRINGS" "Z" ∈ tbg := tb_at 735 (by decide +kernel)
theorem fj_former : Cond.fieldLink "java/lang/String" 1053 "jdk/internal/util/Preconditions" "SIOOBE_FORMATTER" "Ljava/util/function/BiFunction;" ∈ tbg := tb_at 751 (by decide +kernel)
theorem lj_L_max : Cond.methodLink "java/lang/StringLatin1" 92 Lib.Math.max.name ∈ tbg := tb_at 798 (by decide +kernel)
theorem lj_L_min : Cond.methodLink "java/lang/StringLatin1" 38 Lib.Math.min.name ∈ tbg := tb_at 801 (by decide +kernel)
def ktX (i : Nat) : List Nat := if i = 0 then kswords else kssigns
theorem ktX_B : ∀ i, i < 2 → ktB.getD i [] = (ktX i).map Int32.ofNat ∧ ktL.getD i 0 = (ktX i).length := by
  intro i hi
  match i, hi with
  | 0, _ => exact ⟨rfl, rfl⟩
  | 1, _ => exact ⟨rfl, rfl⟩
theorem ktX_lt : ∀ i, i < 2 → (∀ x ∈ ktX i, x < 128) ∧ (ktX i).length < 128 := by
  intro i hi
  match i, hi with
  | 0, _ => exact ⟨by decide +kernel, by decide +kernel⟩
  | 1, _ => exact ⟨by decide +kernel, by decide +kernel⟩
theorem ktX_at {i : Nat} (hi : i < 2) (j : Nat) : (ktX i).getD j 0 < 128 := by
  rw [List.getD_eq_getElem?_getD]
  cases h : (ktX i)[j]? with
  | none => exact Nat.le_of_ble_eq_true rfl
  | some x => exact (ktX_lt i hi).1 x (List.mem_of_getElem? h)
theorem ktX_shr {i : Nat} (hi : i < 2) : kishr ((ktX i).length : Int) 0 = ((ktX i).length : Int) := by
  match i, hi with
  | 0, _ => decide +kernel
  | 1, _ => decide +kernel
theorem kc_and : ∀ x : Nat, x < 128 → kc16 (kiand (x : Int) 255) = (x : Int) := by decide +kernel
theorem kc_nar : ∀ x : Nat, x < 128 → (Int32.ofInt (x : Int)).toUInt32.toUInt16.toUInt32.toInt32 = Int32.ofInt (x : Int) := by decide +kernel
theorem ks_in : ∀ c : Nat, c < 256 → ksixF (kw8 (c : Int)) kssigns 0 = ksidx1 (c : Int) := by decide +kernel
theorem ks_out {c : Int} : ∀ {l : List Nat} {k : Nat}, (∀ x ∈ l, ¬ (x : Int) = c) → ksixF c l k = -1 := by
  intro l
  induction l with
  | nil => intro k _; rfl
  | cons x r ih =>
    intro k h
    unfold ksixF
    rw [if_neg (h x List.mem_cons_self)]
    exact ih fun y hy => h y (List.mem_cons_of_mem _ hy)
theorem ks_far {c : Int} (h : ¬ (0 ≤ c ∧ c ≤ 255)) : ksidx1 c = -1 := ks_out fun x hx he => by
  have h1 : x < 128 := (ktX_lt 1 (by decide)).1 x hx
  omega
section KSTR
variable {α : Type} {G : Gam} {Y Y' : KY} {e e1 e2 : Option α} {κ : α → KCf} {pc : Nat} {ls : List (Option KV)} {st : List KV} {S : KS} {M : KM}
/-- a contract under one launch's numbers, of a method that changes nothing -/
def CtrB (B : GB) (y : MethodName) (Y : KY) (as : List KV) (S : KS) (M : KM) (r : Option KV) : Prop :=
  ∀ l : Launch, Met l y (.code y Y.2.1 Y.2.2.1 Y.2.2.2.1 :: tbg) (krm Y.2.2.2.2 (S.length - S.length) (ksz S - ksz S)) (va_Pc (as.map (kconv B.2.2.1)) (kPre B as S M)) (kQ B (r, S, M)) (S.length - S.length) (ksz S - ksz S) (fun q => B.2.2.1 ≤ q)
theorem ctrB_of {B : GB} {y : MethodName} {np : Nat} {as : List KV} {r : Option KV} {a : α} (hm : KMd y Y np) (hlen : (lg_sl (as.map (kconv 0))).length ≤ Y.2.2.1) (pad : Nat) (he : e = some a) (hκ : κ a = .inr (r, S, M))
    (h : kst as → ∀ G : Gam, G.2.1 = B → Sim G Y e (kC 0 (kent0 as ++ List.replicate pad none) [] S M) κ) : CtrB B y Y as S M r := by
  intro l
  obtain ⟨D, dA, b, aK, aV⟩ := B
  obtain ⟨⟨hcode, hini⟩, hcls, ⟨hp1, hp2, hp⟩, hnp, hnL⟩ := hm
  refine Met.ofW (cc := Y.2.1) (maxL := Y.2.2.1) (ret := Y.2.2.2.1) hp rfl ?_
  intro p e' s m args below meth c s₁ B hml hv
  obtain ⟨rfl, hM, hc, hs, hK, hlow⟩ := hv
  have hts := atoms_spec (ws := .code y Y.2.1 Y.2.2.1 Y.2.2.2.1 :: tbg) B.pre
  have hown : s.vm.findClass Y.1 = some m.cls := by rw [← hcls]; exact findClass_of_methodNamed B.named
  have key := h hs ((p, l, e', krm Y.2.2.2.2 (S.length - S.length) (ksz S - ksz S), s, m, (as.map (kconv b)).toArray, below, meth, c), (D, dA, b, aK, aV), (S.length, ksz S, S.length, ksz S), (r, S, M)) rfl
    ⟨B.exec, B.bytes, hml, hown, fun w hw => hts w (List.mem_cons_of_mem _ hw), B.returns, B.notSynchronized, hK, ⟨Nat.le_refl _, Nat.le_refl _, Nat.le_refl _, Nat.le_refl _⟩, hlow⟩ a he (by rw [hκ]; exact rfl)
  have hsl : ∀ b', (lg_sl (as.map (kconv b'))).length = (lg_sl (as.map (kconv 0))).length := by
    intro b'
    unfold lg_sl
    rw [List.length_flatMap, List.length_flatMap, List.map_map, List.map_map]
    congr 1
    apply List.map_congr_left
    intro v _
    simp only [Function.comp, kconv_cat]
    split <;> rfl
  have hl := lv_entry (as.map (kconv b)) (n := Y.2.2.1) (by rw [hsl]; exact hlen)
  rw [lg_entry_eq]
  have hpad : ∀ (i : Nat) (v : KV), (kent0 as ++ List.replicate pad none)[i]? = some (some v) → (kent0 as)[i]? = some (some v) := by
    intro i v h
    rw [List.getElem?_append] at h
    split at h
    · exact h
    · rw [List.getElem?_replicate] at h
      split at h <;> cases h
  have k1 := key s.heap [] _ hM hc (fun i v h => klok_ent0 hs i v (hpad i v h)) kst_nil ⟨Nat.le_refl _, Nat.le_refl _, Nat.le_refl _, Nat.le_refl _⟩ va_S.rf ⟨by rw [hml]; exact hl.1, hl.2.1, fun i v hiv => hl.2.2 _ (by have := kent0_args b as 0 i v (hpad i v hiv); rwa [Nat.zero_add] at this)⟩
  rw [Nat.sub_self, Nat.sub_self] at k1
  simp only [Nat.sub_self] at k1 ⊢
  exact k1
/-- a call of one of these methods: a static one, or by one of the two texts -/
theorem s_invB {y : MethodName} {np idx : Nat} {as st0 : List KV} {r : Option KV} (hi : (decode Y.2.1 pc = .ok (.invokestatic idx, 3) ∧ Cond.static y ∈ tbg ∧ as.length = np) ∨ (decode Y.2.1 pc = .ok (.invokevirtual idx, 3) ∧ Cond.instanceMethod y ∈ tbg ∧ Cond.selects "java/lang/String" y y ∈ tbg ∧ ∃ (i : Nat) (as' : List KV), i < 2 ∧ as = VA (G.2.1.2.2.2.1 i) :: as' ∧ as'.length = np)) (hl : Cond.methodLink Y.1 idx y ∈ tbg) (hm : KMd y Y' np) (hst : st0 = as.reverse ++ st) (hh : Y'.2.2.2.2 + 1 ≤ Y.2.2.2.2) (hw : kwords st ≤ 8) (hC : CtrB G.2.1 y Y' as S M r)
    (k : Sim G Y e (kC (pc + 3) ls (r.toList ++ st) S M) κ) : Sim G Y e (kC pc ls st0 S M) κ := by
  intro hG a ha hk
  have k1 := k hG a ha hk
  obtain ⟨⟨p, l, e', R, s, m, args, below, meth, c⟩, ⟨D, dA, b, aK, aV⟩, ⟨n0, z0, nc, nz⟩, tg⟩ := G
  obtain ⟨hx, hb, hml, hown, hts, hr, hlk, hK, hR, hlow⟩ := hG
  obtain ⟨⟨hcode, hini⟩, hcls, ⟨hp1, hp2, hp⟩, hnp, hnL⟩ := hm
  intro H locs la hM hc hls hs hn0 hSS hlo
  have hst1 : kst as := fun v hv => hs v (by rw [hst]; exact List.mem_append_left _ (List.mem_reverse.mpr hv))
  have hst2 : kst st := fun v hv => hs v (by rw [hst]; exact List.mem_append_right _ hv)
  have hMet := hC l
  have hgood : ∀ w ∈ (Cond.code y Y'.2.1 Y'.2.2.1 Y'.2.2.2.1 :: tbg), ∀ (a' : Array Value) (U : State), s.WarmedH U.vm → w.before a' U = true := by
    intro w hw a' U hW
    rcases List.mem_cons.mp hw with rfl | hw
    · exact tb_warm hcode hW (hts _ hcode)
    · exact tb_warm hw hW (hts _ hw)
  have hpre : ∀ U : State, U.heap = H → s.WarmedH U.vm → va_Pc (as.map (kconv b)) (kPre (D, dA, b, aK, aV) as S M) (as.map (kconv b)).toArray U := by
    intro U hU hW
    refine ⟨rfl, ?_, hc, hst1, hK.moved (kwarm hW), ?_⟩
    · rw [hU]; exact hM
    · exact kLow.keep hlow hW hU hSS
  have hblind : FrameBlind (va_Pc (as.map (kconv b)) (kPre (D, dA, b, aK, aV) as S M)) := fun a U g mk q => by
    obtain ⟨q0, q1, q2, q3, q4, q5⟩ := q
    exact ⟨q0, q1, q2, q3, va_K.moved (u := U) (U := U.calling g mk a) (Vm.Alike.refl U.vm) q4, q5⟩
  have hnpar : ∀ sig, parseMethodDescriptor y.desc = some sig → np = sig.parameters.length := by
    intro sig h
    rw [h] at hnp
    exact (Option.some.inj hnp).symm
  have hbase : (krm Y'.2.2.2.2 (S.length - S.length) (ksz S - ksz S)).cells = S.length - S.length ∧ (krm Y'.2.2.2.2 (S.length - S.length) (ksz S - ksz S)).slots = ksz S - ksz S ∧ (krm Y'.2.2.2.2 (S.length - S.length) (ksz S - ksz S)).frames + 1 ≤ R.frames ∧ 8 + (Y'.2.2.1 + 11) + (krm Y'.2.2.2.2 (S.length - S.length) (ksz S - ksz S)).locals ≤ R.locals ∧ (∀ w ∈ (Cond.code y Y'.2.1 Y'.2.2.1 Y'.2.2.2.1 :: tbg), ∀ (a' : Array Value) (U : State), s.WarmedH U.vm → w.before a' U = true) ∧ Cond.code y Y'.2.1 Y'.2.2.1 Y'.2.2.2.1 ∈ (Cond.code y Y'.2.1 Y'.2.2.1 Y'.2.2.2.1 :: tbg) :=
    ⟨rfl, rfl, Nat.le_trans hh hR.1, Nat.le_trans (kw_fit hh hnL) hR.2.1, hgood, List.mem_cons_self⟩
  have hroom : 2 * (F0 m pc la (st0.map (kconv b))).monitorRoom + ((st.map (kconv b)).map fun v => v.category).sum ≤ 8 := by
    rw [kwords_map]
    show 2 * 0 + _ ≤ 8
    omega
  have hcs : (S.length - n0) + (S.length - S.length) = S.length - n0 ∧ (ksz S - z0) + (ksz S - ksz S) = ksz S - z0 := by omega
  have hcap : (S.length - n0) + (S.length - S.length) ≤ R.cells ∧ (ksz S - z0) + (ksz S - ksz S) ≤ R.slots := by
    rw [hcs.1, hcs.2]; omega
  have hback : ∀ (H1 : Heap) (locs1 : List Loc), kMem D dA b S M H1 → kcan S M → kst r.toList → va_S (fun q => b ≤ q) s.heap H1 locs1 → W p l e' R s m args below meth c H1 locs1 ((S.length - n0) + (S.length - S.length)) ((ksz S - z0) + (ksz S - ksz S)) (MQ below (kQ (D, dA, b, aK, aV) tg) args s (nc - n0) (nz - z0) (fun q => b ≤ q)) (F0 m (pc + 3) la (r.toList.map (kconv b) ++ st.map (kconv b))) := by
    intro H1 locs1 h1 h2 h3 h4
    refine W.cs hcs.1 hcs.2 ?_
    have k2 := k1 H1 locs1 la h1 h2 hls (fun v hv => (List.mem_append.mp hv).elim (h3 v) (hst2 v)) (by omega) h4 hlo
    rwa [List.map_append] at k2
  have hstk : st0.map (kconv b) = (as.map (kconv b)).reverse ++ st.map (kconv b) := by
    rw [hst, List.map_append, List.map_reverse]
  have hfix : CallFix p m c Y.2.1 c.maxLocals s args tbg Y.1 := ⟨hx, hb, rfl, hown, hts⟩
  rcases hi with ⟨hd, hsta, hn⟩ | ⟨hd, hins, hsel, i, as', hi2, has, hn⟩
  · exact kw_back (va_runS (As := as.map (kconv b)) (rest := st.map (kconv b)) hfix hMet ⟨⟨hbase.1, hbase.2.1, hbase.2.2.1, hbase.2.2.2.1, hbase.2.2.2.2.1, hbase.2.2.2.2.2, hts _ hcode, hts _ hini, ⟨hp1, hp2⟩, hnpar, hts _ hl⟩, hts _ hsta⟩ ⟨hblind, hpre⟩ rfl (by rw [List.length_map]; exact hn) hlo.1 hstk hroom hd hcap) hSS hback
  · subst has
    have hrecv : ∃ cellB : Cell, H[aK i]? = some cellB ∧ cellB.vm.isStatics = false ∧ s.vm.findClass "java/lang/String" = some cellB.cls := vk_recv hlow.2.2.2.1 hi2 hSS
    have hlen : (as'.map (kconv b)).length = np := by rw [List.length_map]; exact hn
    have hstk' : st0.map (kconv b) = (as'.map (kconv b)).reverse ++ Value.ref (aK i) :: st.map (kconv b) := by
      rw [hstk, List.map_cons, List.reverse_cons, List.append_assoc]; rfl
    exact kw_back (va_runV (As := as'.map (kconv b)) (rest := st.map (kconv b)) hfix hMet ⟨⟨hbase.1, hbase.2.1, hbase.2.2.1, hbase.2.2.2.1, hbase.2.2.2.2.1, hbase.2.2.2.2.2, hts _ hcode, hts _ hini, ⟨hp1, hp2⟩, hnpar, hts _ hl⟩, hts _ hins, hts _ hsel⟩ ⟨hblind, hrecv, hpre⟩ rfl hlen hlo.1 hstk' hroom hd hcap) hSS hback
/-- rows that read what lies below the system's cells -/
theorem s_low {pc' : Nat} {st' : List KV} (h : ∀ (p : Program) (l : Launch) (e : Env) (R : Room) (s : State) (m : MethodId) (args : Array Value) (below : List Frame) (meth : Method) (c : Code) (H : Heap) (locs : List Loc) (cells slots : Nat) (Q : State → Prop) (la : Array Slot), p.tables.exec = Jvm.exec → c.code = Y.2.1 → s.vm.findClass Y.1 = some m.cls → (∀ w ∈ tbg, w.before args s = true) → kLow G.2.1 s → va_S (fun q => G.2.1.2.2.1 ≤ q) s.heap H locs → kst st → W p l e R s m args below meth c H locs cells slots Q (F0 m pc' la (st'.map (kconv G.2.1.2.2.1))) → W p l e R s m args below meth c H locs cells slots Q (F0 m pc la (st.map (kconv G.2.1.2.2.1))))
    (hok : kst st → kst st') (k : Sim G Y e (kC pc' ls st' S M) κ) : Sim G Y e (kC pc ls st S M) κ := by
  intro hG a ha hk
  have k1 := k hG a ha hk
  obtain ⟨⟨p, l, e', R, s, m, args, below, meth, c⟩, ⟨D, dA, b, aK, aV⟩, ⟨n0, z0, nc, nz⟩, tg⟩ := G
  obtain ⟨hx, hb, hml, hown, hts, hr, hlk, hK, hR, hlow⟩ := hG
  intro H locs la hM hc hl hs hn hS hlo
  exact h _ _ _ _ _ _ _ _ _ _ _ _ _ _ _ _ hx hb hown hts hlow hS hs (k1 H locs la hM hc hl (hok hs) hn hS hlo)
theorem s_ldcS0 (hd : decode Y.2.1 pc = .ok (.ldc 69, 2)) (k : Sim G Y e (kC (pc + 2) ls (VA (G.2.1.2.2.2.1 0) :: st) S M) κ) (hY : Y.1 = "YearHands$Tokens" := by rfl) : Sim G Y e (kC pc ls st S M) κ :=
  s_low (st' := VA (G.2.1.2.2.2.1 0) :: st) (fun _ _ _ _ _ _ _ _ _ _ _ _ _ _ _ _ hx hb hown hts hlow hS hs k => va_ldcS hx hb (own := "YearHands$Tokens") (by rw [← hY]; exact hown) hlow.2.2.1.1 hd k) (fun h => kst_A h) k
theorem s_ldcS1 (hd : decode Y.2.1 pc = .ok (.ldc 56, 2)) (k : Sim G Y e (kC (pc + 2) ls (VA (G.2.1.2.2.2.1 1) :: st) S M) κ) (hY : Y.1 = "YearHands$Tokens" := by rfl) : Sim G Y e (kC pc ls st S M) κ :=
  s_low (st' := VA (G.2.1.2.2.2.1 1) :: st) (fun _ _ _ _ _ _ _ _ _ _ _ _ _ _ _ _ hx hb hown hts hlow hS hs k => va_ldcS hx hb (own := "YearHands$Tokens") (by rw [← hY]; exact hown) hlow.2.2.1.2 hd k) (fun h => kst_A h) k
theorem s_gcoder {i idx : Nat} (hi : i < 2) (hF : Cond.fieldLink Y.1 idx "java/lang/String" "coder" "B" ∈ tbg) (hd : decode Y.2.1 pc = .ok (.getfield idx, 3)) (k : Sim G Y e (kC (pc + 3) ls (VI 0 :: st) S M) κ) : Sim G Y e (kC pc ls (VA (G.2.1.2.2.2.1 i) :: st) S M) κ :=
  s_low (st' := VI 0 :: st) (fun _ _ _ _ _ _ _ _ _ _ _ _ _ _ _ _ hx hb hown hts hlow hS hs k => vk_getf hx hb (hlow.2.2.2.1.1 i hi).2.1 hS hown (hts _ hF) (fun _ h => h) hd k) (fun h => kst_I ⟨by decide, by decide⟩ (kst_tl h)) k
theorem s_gvalue {i idx : Nat} (hi : i < 2) (hF : Cond.fieldLink Y.1 idx "java/lang/String" "value" "[B" ∈ tbg) (hd : decode Y.2.1 pc = .ok (.getfield idx, 3)) (k : Sim G Y e (kC (pc + 3) ls (VA (G.2.1.2.2.2.2 i) :: st) S M) κ) : Sim G Y e (kC pc ls (VA (G.2.1.2.2.2.1 i) :: st) S M) κ :=
  s_low (st' := VA (G.2.1.2.2.2.2 i) :: st) (fun _ _ _ _ _ _ _ _ _ _ _ _ _ _ _ _ hx hb hown hts hlow hS hs k => vk_getf hx hb (hlow.2.2.2.1.1 i hi).2.2.1 hS hown (hts _ hF) (fun _ h => h) hd k) (fun h => kst_A (kst_tl h)) k
theorem s_gcompact {idx : Nat} (hF : Cond.fieldLink Y.1 idx "java/lang/String" "COMPACT_STRINGS" "Z" ∈ tbg) (hd : decode Y.2.1 pc = .ok (.getstatic idx, 3)) (k : Sim G Y e (kC (pc + 3) ls (VI 1 :: st) S M) κ) : Sim G Y e (kC pc ls st S M) κ :=
  s_low (st' := VI 1 :: st) (fun _ _ _ _ _ _ _ _ _ _ _ _ _ _ _ _ hx hb hown hts hlow hS hs k => va_gets hx hb hlow.2.2.2.2.1 hS hown (hts _ hF) (fun _ h => h) hd k) (fun h => kst_I ⟨by decide, by decide⟩ h) k
theorem s_gformer {idx : Nat} (hF : Cond.fieldLink Y.1 idx "jdk/internal/util/Preconditions" "SIOOBE_FORMATTER" "Ljava/util/function/BiFunction;" ∈ tbg) (hd : decode Y.2.1 pc = .ok (.getstatic idx, 3)) (k : ∀ v : KV, (v = VR none ∨ ∃ t, v = VA t) → Sim G Y e (kC (pc + 3) ls (v :: st) S M) κ) : Sim G Y e (kC pc ls st S M) κ := by
  intro hG a ha hk
  have k1 := fun v hv => k v hv hG a ha hk
  obtain ⟨⟨p, l, e', R, s, m, args, below, meth, c⟩, ⟨D, dA, b, aK, aV⟩, ⟨n0, z0, nc, nz⟩, tg⟩ := G
  obtain ⟨hx, hb, hml, hown, hts, hr, hlk, hK, hR, hlow⟩ := hG
  intro H locs la hM hc hl hs hn hS hlo
  rcases hlow.2.2.2.2.2 with hz | ⟨t, hz⟩
  · exact va_gets hx hb hz hS hown (hts _ hF) (fun _ h => h) hd (k1 (VR none) (Or.inl rfl) H locs la hM hc hl (kst_R hs) hn hS hlo)
  · exact va_gets hx hb hz hS hown (hts _ hF) (fun _ h => h) hd (k1 (VA t) (Or.inr ⟨t, rfl⟩) H locs la hM hc hl (kst_A hs) hn hS hlo)
theorem s_tlen {i : Nat} (hi : i < 2) (hd : decode Y.2.1 pc = .ok (.arraylength, 1)) (k : Sim G Y e (kC (pc + 1) ls (VI ((ktX i).length : Int) :: st) S M) κ) : Sim G Y e (kC pc ls (VA (G.2.1.2.2.2.2 i) :: st) S M) κ :=
  s_low (st' := VI ((ktX i).length : Int) :: st) (fun _ _ _ _ _ _ _ _ _ _ _ _ _ _ _ _ hx hb hown hts hlow hS hs k => va_tlen hx hb (hlow.2.2.2.1.1 i hi).2.2.2 hS (by rw [(ktX_B i hi).2]; exact Int32.ofInt_eq_ofNat.symm) hd k) (fun h => kst_I (by have := (ktX_lt i hi).2; constructor <;> omega) (kst_tl h)) k
theorem s_tb {i : Nat} (hi : i < 2) {j : Int} (hj : 0 ≤ j ∧ j < ((ktX i).length : Int)) (hd : decode Y.2.1 pc = .ok (.baload, 1)) (k : Sim G Y e (kC (pc + 1) ls (VI (((ktX i).getD j.toNat 0 : Nat) : Int) :: st) S M) κ) : Sim G Y e (kC pc ls (VI j :: VA (G.2.1.2.2.2.2 i) :: st) S M) κ :=
  s_low (st' := VI (((ktX i).getD j.toNat 0 : Nat) : Int) :: st) (fun _ _ _ _ _ _ _ _ _ _ _ _ _ _ _ _ hx hb hown hts hlow hS hs k => by
    have hk := kin_of hj (kst_hI hs)
    refine va_tb hx hb (hlow.2.2.2.1.1 i hi).2.2.2 hS (i := Int32.ofInt j) (v := .int (Int32.ofInt (((ktX i).getD j.toNat 0 : Nat) : Int))) (by rw [(ktX_B i hi).2]; exact hk.1) ?_ hd k
    rw [hk.2, (ktX_B i hi).1]
    refine congrArg Value.int ?_
    have hlt : j.toNat < (ktX i).length := by omega
    rw [List.getD_eq_getElem?_getD, List.getD_eq_getElem?_getD, List.getElem?_map, List.getElem?_eq_getElem hlt]
    exact Int32.ofInt_eq_ofNat.symm) (fun h => kst_I (by have := ktX_at hi j.toNat; constructor <;> omega) (kst_tl (kst_tl h))) k
theorem s_nil {cf : KCf} : Sim G Y (none : Option α) cf κ := fun _ _ h => by cases h
theorem s_eqN {x off : Int} {tgt : Nat} (hd : decode Y.2.1 pc = .ok (.ifCond .eq off, 3)) (ht : (pc : Int) + off = (tgt : Int)) (hx : ¬ x = 0) (k : Sim G Y e (kC (pc + 3) ls st S M) κ) : Sim G Y e (kC pc ls (VI x :: st) S M) κ := by
  have h := s_if_eq (e1 := none) (x := x) hd ht s_nil k
  rwa [if_neg hx] at h
theorem s_neN {x off : Int} {tgt : Nat} (hd : decode Y.2.1 pc = .ok (.ifCond .ne off, 3)) (ht : (pc : Int) + off = (tgt : Int)) (hx : x = 0) (k : Sim G Y e (kC (pc + 3) ls st S M) κ) : Sim G Y e (kC pc ls (VI x :: st) S M) κ := by
  have h := s_if_ne (e2 := none) (x := x) hd ht k s_nil
  rwa [if_pos hx] at h
theorem s_neY {x off : Int} {tgt : Nat} (hd : decode Y.2.1 pc = .ok (.ifCond .ne off, 3)) (ht : (pc : Int) + off = (tgt : Int)) (hx : ¬ x = 0) (k : Sim G Y e (kC tgt ls st S M) κ) : Sim G Y e (kC pc ls (VI x :: st) S M) κ := by
  have h := s_if_ne (e1 := none) (x := x) hd ht s_nil k
  rwa [if_neg hx] at h
theorem s_ltN {x off : Int} {tgt : Nat} (hd : decode Y.2.1 pc = .ok (.ifCond .lt off, 3)) (ht : (pc : Int) + off = (tgt : Int)) (hx : ¬ x < 0) (k : Sim G Y e (kC (pc + 3) ls st S M) κ) : Sim G Y e (kC pc ls (VI x :: st) S M) κ := by
  have h := s_if_lt (e1 := none) (x := x) hd ht s_nil k
  rwa [if_neg hx] at h
theorem s_ltY {x off : Int} {tgt : Nat} (hd : decode Y.2.1 pc = .ok (.ifCond .lt off, 3)) (ht : (pc : Int) + off = (tgt : Int)) (hx : x < 0) (k : Sim G Y e (kC tgt ls st S M) κ) : Sim G Y e (kC pc ls (VI x :: st) S M) κ := by
  have h := s_if_lt (e2 := none) (x := x) hd ht k s_nil
  rwa [if_pos hx] at h
theorem s_cltY {x y off : Int} {tgt : Nat} (hd : decode Y.2.1 pc = .ok (.if_icmp .lt off, 3)) (ht : (pc : Int) + off = (tgt : Int)) (hx : x < y) (k : Sim G Y e (kC tgt ls st S M) κ) : Sim G Y e (kC pc ls (VI y :: VI x :: st) S M) κ := by
  have h := s_if_icmp_lt (e2 := none) (x := x) (y := y) hd ht k s_nil
  rwa [if_pos hx] at h
theorem s_cgeN {x y off : Int} {tgt : Nat} (hd : decode Y.2.1 pc = .ok (.if_icmp .ge off, 3)) (ht : (pc : Int) + off = (tgt : Int)) (hx : x < y) (k : Sim G Y e (kC (pc + 3) ls st S M) κ) : Sim G Y e (kC pc ls (VI y :: VI x :: st) S M) κ := by
  have h := s_if_icmp_ge (e2 := none) (x := x) (y := y) hd ht k s_nil
  rwa [if_pos hx] at h
theorem s_cgeY {x y off : Int} {tgt : Nat} (hd : decode Y.2.1 pc = .ok (.if_icmp .ge off, 3)) (ht : (pc : Int) + off = (tgt : Int)) (hx : ¬ x < y) (k : Sim G Y e (kC tgt ls st S M) κ) : Sim G Y e (kC pc ls (VI y :: VI x :: st) S M) κ := by
  have h := s_if_icmp_ge (e1 := none) (x := x) (y := y) hd ht s_nil k
  rwa [if_neg hx] at h
theorem s_cgtN {x y off : Int} {tgt : Nat} (hd : decode Y.2.1 pc = .ok (.if_icmp .gt off, 3)) (ht : (pc : Int) + off = (tgt : Int)) (hx : x ≤ y) (k : Sim G Y e (kC (pc + 3) ls st S M) κ) : Sim G Y e (kC pc ls (VI y :: VI x :: st) S M) κ := by
  have h := s_if_icmp_gt (e2 := none) (x := x) (y := y) hd ht k s_nil
  rwa [if_pos hx] at h
theorem s_cgtY {x y off : Int} {tgt : Nat} (hd : decode Y.2.1 pc = .ok (.if_icmp .gt off, 3)) (ht : (pc : Int) + off = (tgt : Int)) (hx : ¬ x ≤ y) (k : Sim G Y e (kC tgt ls st S M) κ) : Sim G Y e (kC pc ls (VI y :: VI x :: st) S M) κ := by
  have h := s_if_icmp_gt (e1 := none) (x := x) (y := y) hd ht s_nil k
  rwa [if_neg hx] at h
theorem s_pop {v : KV} (hd : decode Y.2.1 pc = .ok (.pop, 1)) (hv : kcat v = 1) (k : Sim G Y e (kC (pc + 1) ls st S M) κ) : Sim G Y e (kC pc ls (v :: st) S M) κ :=
  s_pure (st' := st) (fun _ _ _ _ _ _ _ _ _ _ _ _ _ _ _ _ b hx hb _ k => lv_pop hx hb hd (by rw [kconv_cat]; exact hv) k) (fun h => kst_tl h) k
/-- the end of a method whose answer is a small number of any kind -/
theorem s_nret {n : Int} {a : α} {ty : FieldType} (hd : decode Y.2.1 pc = .ok (.ireturn, 1)) (hr0 : Y.2.2.2.1 = some ty) (hn : narrow ty (.int (Int32.ofInt n)) = .int (Int32.ofInt n)) (hκ : κ a = .inr (some (VI n), S, M)) : Sim G Y (some a) (kC pc ls [VI n] S M) κ :=
  s_retG (t := (some (VI n), S, M)) (fun _ _ _ _ _ _ _ _ _ _ _ _ _ _ _ B t hx hb hr hlk hs hq hS ht => by
    obtain ⟨r, S', M'⟩ := t
    have ht : r = some (VI n) := ht
    subst ht
    exact W.zret (v := Int32.ofInt n) hx hb (by rw [hr, hr0]) hn (fun T hT hW => ⟨⟨_, (), rfl, rfl, hq T hT⟩, hS.F hT⟩) hS.2.2 hd hlk) hκ rfl rfl
end KSTR
section KJDK
variable {G : Gam} {S : KS} {M : KM} {B : GB}
abbrev kRI (S : KS) (M : KM) : Int → KCf := fun q => .inr (some (VI q), S, M)
abbrev kRV (S : KS) (M : KM) : Unit → KCf := fun _ => .inr (none, S, M)
theorem sj_coder {i : Nat} (hi : i < 2) : Sim G Yj_coder (some (0 : Int)) (kC 0 [some (VA (G.2.1.2.2.2.1 i))] [] S M) (kRI S M) := by
  refine s_gcompact fj_compact dj_coder_0 ?_
  refine s_eqN (tgt := 13) dj_coder_3 rfl (by decide) ?_
  refine s_aloadA_n dj_coder_6 rfl ?_
  refine s_gcoder hi fj_coder dj_coder_7 ?_
  refine s_goto (tgt := 14) dj_coder_10 rfl ?_
  exact s_nret dj_coder_14 rfl rfl rfl
theorem cj_coder {i : Nat} (hi : i < 2) : CtrB B yj_coder Yj_coder [VA (B.2.2.2.1 i)] S M (some (VI 0)) :=
  ctrB_of (e := some (0 : Int)) (κ := kRI S M) mj_coder (Nat.le_of_ble_eq_true rfl) 0 rfl rfl (fun _ G hG => by subst hG; exact sj_coder hi)
theorem sj_isLatin1 {i : Nat} (hi : i < 2) : Sim G Yj_isLatin1 (some (1 : Int)) (kC 0 [some (VA (G.2.1.2.2.2.1 i))] [] S M) (kRI S M) := by
  refine s_gcompact fj_compact dj_isLatin1_0 ?_
  refine s_eqN (tgt := 17) dj_isLatin1_3 rfl (by decide) ?_
  refine s_aloadA_n dj_isLatin1_6 rfl ?_
  refine s_gcoder hi fj_coder dj_isLatin1_7 ?_
  refine s_neN (tgt := 17) dj_isLatin1_10 rfl rfl ?_
  refine s_iconst dj_isLatin1_13 rfl ?_
  refine s_goto (tgt := 18) dj_isLatin1_14 rfl ?_
  exact s_nret dj_isLatin1_18 rfl rfl rfl
theorem cj_isLatin1 {i : Nat} (hi : i < 2) : CtrB B yj_isLatin1 Yj_isLatin1 [VA (B.2.2.2.1 i)] S M (some (VI 1)) :=
  ctrB_of (e := some (1 : Int)) (κ := kRI S M) mj_isLatin1 (Nat.le_of_ble_eq_true rfl) 0 rfl rfl (fun _ G hG => by subst hG; exact sj_isLatin1 hi)
theorem sj_length {i : Nat} (hi : i < 2) : Sim G Yj_length (some ((ktX i).length : Int)) (kC 0 [some (VA (G.2.1.2.2.2.1 i))] [] S M) (kRI S M) := by
  refine s_aloadA_n dj_length_0 rfl ?_
  refine s_gvalue hi fj_value dj_length_1 ?_
  refine s_tlen hi dj_length_4 ?_
  refine s_aloadA_n dj_length_5 rfl ?_
  refine s_invB (as := [VA (G.2.1.2.2.2.1 i)]) (Y' := Yj_coder) (r := some (VI 0)) (st := [VI ((ktX i).length : Int)]) (Or.inr ⟨dj_length_6, ij_coder.1, ij_coder.2, i, [], hi, rfl, rfl⟩) lj_S_coder mj_coder rfl (by decide) (Nat.le_of_ble_eq_true rfl) (cj_coder hi) ?_
  refine s_ishr dj_length_9 ?_
  rw [ktX_shr hi]
  exact s_nret dj_length_10 rfl rfl rfl
theorem cj_length {i : Nat} (hi : i < 2) : CtrB B yj_length Yj_length [VA (B.2.2.2.1 i)] S M (some (VI ((ktX i).length : Int))) :=
  ctrB_of (e := some ((ktX i).length : Int)) (κ := kRI S M) mj_length (Nat.le_of_ble_eq_true rfl) 0 rfl rfl (fun _ G hG => by subst hG; exact sj_length hi)
theorem sj_pcheck {i n : Int} (h : 0 ≤ i ∧ i < n) (v : KV) : Sim G Yj_pcheck (some i) (kC 0 [some (VI i), some (VI n), some v] [] S M) (kRI S M) := by
  refine s_iload_n dj_pcheck_0 rfl ?_
  refine s_ltN (tgt := 9) dj_pcheck_1 rfl (by omega) ?_
  refine s_iload_n dj_pcheck_4 rfl ?_
  refine s_iload_n dj_pcheck_5 rfl ?_
  refine s_cltY (tgt := 16) dj_pcheck_6 rfl h.2 ?_
  refine s_iload_n dj_pcheck_16 rfl ?_
  exact s_nret dj_pcheck_17 rfl rfl rfl
theorem cj_pcheck {i n : Int} (h : 0 ≤ i ∧ i < n) {v : KV} (hv : v = VR none ∨ ∃ t, v = VA t) : CtrB B yj_pcheck Yj_pcheck [VI i, VI n, v] S M (some (VI i)) := by
  rcases hv with rfl | ⟨t, rfl⟩
  · exact ctrB_of (e := some i) (κ := kRI S M) mj_pcheck (Nat.le_of_ble_eq_true rfl) 0 rfl rfl (fun _ G hG => sj_pcheck h (VR none))
  · exact ctrB_of (e := some i) (κ := kRI S M) mj_pcheck (Nat.le_of_ble_eq_true rfl) 0 rfl rfl (fun _ G hG => sj_pcheck h (VA t))
theorem sj_checkIndex {i n : Int} (h : 0 ≤ i ∧ i < n) : Sim G Yj_checkIndex (some ()) (kC 0 [some (VI i), some (VI n)] [] S M) (kRV S M) := by
  refine s_iload_n dj_checkIndex_0 rfl ?_
  refine s_iload_n dj_checkIndex_1 rfl ?_
  refine s_gformer fj_former dj_checkIndex_2 (fun v hv => ?_)
  refine s_invB (as := [VI i, VI n, v]) (Y' := Yj_pcheck) (r := some (VI i)) (st := []) (Or.inl ⟨dj_checkIndex_5, ij_pcheck, rfl⟩) lj_S_pcheck mj_pcheck rfl (by decide) (Nat.le_of_ble_eq_true rfl) (cj_pcheck h hv) ?_
  refine s_pop dj_checkIndex_8 rfl ?_
  exact s_vret dj_checkIndex_9 rfl rfl
theorem cj_checkIndex {i n : Int} (h : 0 ≤ i ∧ i < n) : CtrB B yj_checkIndex Yj_checkIndex [VI i, VI n] S M none :=
  ctrB_of (e := some ()) (κ := kRV S M) mj_checkIndex (Nat.le_of_ble_eq_true rfl) 0 rfl rfl (fun _ G hG => sj_checkIndex h)
theorem sj_lcharAt {i : Nat} (hi : i < 2) {j : Int} (hj : 0 ≤ j ∧ j < ((ktX i).length : Int)) : Sim G Yj_lcharAt (some (((ktX i).getD j.toNat 0 : Nat) : Int)) (kC 0 [some (VA (G.2.1.2.2.2.2 i)), some (VI j)] [] S M) (kRI S M) := by
  refine s_iload_n dj_lcharAt_0 rfl ?_
  refine s_aloadA_n dj_lcharAt_1 rfl ?_
  refine s_tlen hi dj_lcharAt_2 ?_
  refine s_invB (as := [VI j, VI ((ktX i).length : Int)]) (Y' := Yj_checkIndex) (r := none) (st := []) (Or.inl ⟨dj_lcharAt_3, ij_checkIndex, rfl⟩) lj_L_checkIndex mj_checkIndex rfl (by decide) (Nat.le_of_ble_eq_true rfl) (cj_checkIndex hj) ?_
  refine s_aloadA_n dj_lcharAt_6 rfl ?_
  refine s_iload_n dj_lcharAt_7 rfl ?_
  refine s_tb hi hj dj_lcharAt_8 ?_
  refine s_sipush dj_lcharAt_9 rfl ?_
  refine s_iand dj_lcharAt_12 ?_
  refine s_i2c dj_lcharAt_13 ?_
  rw [kc_and _ (ktX_at hi _)]
  exact s_nret dj_lcharAt_14 rfl (congrArg Value.int (kc_nar _ (ktX_at hi _))) rfl
theorem cj_lcharAt {i : Nat} (hi : i < 2) {j : Int} (hj : 0 ≤ j ∧ j < ((ktX i).length : Int)) : CtrB B yj_lcharAt Yj_lcharAt [VA (B.2.2.2.2 i), VI j] S M (some (VI (((ktX i).getD j.toNat 0 : Nat) : Int))) :=
  ctrB_of (e := some (((ktX i).getD j.toNat 0 : Nat) : Int)) (κ := kRI S M) mj_lcharAt (Nat.le_of_ble_eq_true rfl) 0 rfl rfl (fun _ G hG => by subst hG; exact sj_lcharAt hi hj)
theorem sj_charAt {i : Nat} (hi : i < 2) {j : Int} (hj : 0 ≤ j ∧ j < ((ktX i).length : Int)) : Sim G Yj_charAt (some (((ktX i).getD j.toNat 0 : Nat) : Int)) (kC 0 [some (VA (G.2.1.2.2.2.1 i)), some (VI j)] [] S M) (kRI S M) := by
  refine s_aloadA_n dj_charAt_0 rfl ?_
  refine s_invB (as := [VA (G.2.1.2.2.2.1 i)]) (Y' := Yj_isLatin1) (r := some (VI 1)) (st := []) (Or.inr ⟨dj_charAt_1, ij_isLatin1.1, ij_isLatin1.2, i, [], hi, rfl, rfl⟩) lj_S_isLatin1 mj_isLatin1 rfl (by decide) (Nat.le_of_ble_eq_true rfl) (cj_isLatin1 hi) ?_
  refine s_eqN (tgt := 16) dj_charAt_4 rfl (by decide) ?_
  refine s_aloadA_n dj_charAt_7 rfl ?_
  refine s_gvalue hi fj_value dj_charAt_8 ?_
  refine s_iload_n dj_charAt_11 rfl ?_
  refine s_invB (as := [VA (G.2.1.2.2.2.2 i), VI j]) (Y' := Yj_lcharAt) (r := some (VI (((ktX i).getD j.toNat 0 : Nat) : Int))) (st := []) (Or.inl ⟨dj_charAt_12, ij_lcharAt, rfl⟩) lj_S_lcharAt mj_lcharAt rfl (by decide) (Nat.le_of_ble_eq_true rfl) (cj_lcharAt hi hj) ?_
  exact s_nret dj_charAt_15 rfl (congrArg Value.int (kc_nar _ (ktX_at hi _))) rfl
theorem cj_charAt {i : Nat} (hi : i < 2) {j : Int} (hj : 0 ≤ j ∧ j < ((ktX i).length : Int)) : CtrB B yj_charAt Yj_charAt [VA (B.2.2.2.1 i), VI j] S M (some (VI (((ktX i).getD j.toNat 0 : Nat) : Int))) :=
  ctrB_of (e := some (((ktX i).getD j.toNat 0 : Nat) : Int)) (κ := kRI S M) mj_charAt (Nat.le_of_ble_eq_true rfl) 0 rfl rfl (fun _ G hG => by subst hG; exact sj_charAt hi hj)
/-! indexOf in the signs -/
def kcanV (c : Int) : Int := if 0 ≤ c ∧ c ≤ 255 then 1 else 0
theorem sj_lcan (c : Int) : Sim G Yj_lcan (some (kcanV c)) (kC 0 [some (VI c)] [] S M) (kRI S M) := by
  refine s_iload_n dj_lcan_0 rfl ?_
  by_cases h : 0 ≤ c ∧ c ≤ 255
  · rw [kcanV, if_pos h]
    refine s_ltN (tgt := 15) dj_lcan_1 rfl (by omega) ?_
    refine s_iload_n dj_lcan_4 rfl ?_
    refine s_sipush dj_lcan_5 rfl ?_
    refine s_cgtN (tgt := 15) dj_lcan_8 rfl h.2 ?_
    refine s_iconst dj_lcan_11 rfl ?_
    refine s_goto (tgt := 16) dj_lcan_12 rfl ?_
    exact s_nret dj_lcan_16 rfl rfl rfl
  · rw [kcanV, if_neg h]
    by_cases h0 : c < 0
    · refine s_ltY (tgt := 15) dj_lcan_1 rfl h0 ?_
      refine s_iconst dj_lcan_15 rfl ?_
      exact s_nret dj_lcan_16 rfl rfl rfl
    · refine s_ltN (tgt := 15) dj_lcan_1 rfl h0 ?_
      refine s_iload_n dj_lcan_4 rfl ?_
      refine s_sipush dj_lcan_5 rfl ?_
      refine s_cgtY (tgt := 15) dj_lcan_8 rfl (by omega) ?_
      refine s_iconst dj_lcan_15 rfl ?_
      exact s_nret dj_lcan_16 rfl rfl rfl
theorem cj_lcan (c : Int) : CtrB B yj_lcan Yj_lcan [VI c] S M (some (VI (kcanV c))) :=
  ctrB_of (e := some (kcanV c)) (κ := kRI S M) mj_lcan (Nat.le_of_ble_eq_true rfl) 0 rfl rfl (fun _ G hG => sj_lcan c)
theorem sj_lcharL (c d : Int) : ∀ (n j : Nat), j + n = 11 → Sim G Yj_lchar (some (ksixF d (kssigns.drop j) j)) (kC 7 [some (VA (G.2.1.2.2.2.2 1)), some (VI c), some (VI 0), some (VI 11), some (VI d), some (VI (j : Int))] [] S M) (kRI S M) := by
  intro n
  induction n with
  | zero =>
    intro j hj
    have hj : j = 11 := hj
    subst hj
    refine s_iload dj_lchar_7 rfl ?_
    refine s_iload_n dj_lchar_9 rfl ?_
    refine s_cgeY (tgt := 31) dj_lchar_10 rfl (by decide) ?_
    refine s_iconst dj_lchar_31 rfl ?_
    exact s_nret dj_lchar_32 rfl rfl rfl
  | succ n ih =>
    intro j hj
    have hlt : j < kssigns.length := by
      have : kssigns.length = 11 := by decide
      omega
    have hlt' : 0 ≤ (j : Int) ∧ (j : Int) < ((ktX 1).length : Int) := ⟨Int.natCast_nonneg _, Int.ofNat_lt.mpr hlt⟩
    refine s_iload dj_lchar_7 rfl ?_
    refine s_iload_n dj_lchar_9 rfl ?_
    refine s_cgeN (tgt := 31) dj_lchar_10 rfl (by omega) ?_
    refine s_aloadA_n dj_lchar_13 rfl ?_
    refine s_iload dj_lchar_14 rfl ?_
    refine s_tb (i := 1) (by decide) hlt' dj_lchar_16 ?_
    refine s_iload dj_lchar_17 rfl ?_
    have hg : (((ktX 1).getD (j : Int).toNat 0 : Nat) : Int) = ((kssigns[j]'hlt : Nat) : Int) := by
      rw [Int.toNat_natCast, List.getD_eq_getElem?_getD]
      show (((kssigns[j]?).getD 0 : Nat) : Int) = _
      rw [List.getElem?_eq_getElem hlt]
      rfl
    rw [hg, List.drop_eq_getElem_cons hlt]
    have he : (some (ksixF d (kssigns[j]'hlt :: kssigns.drop (j + 1)) j) : Option Int) = if ((kssigns[j]'hlt : Nat) : Int) = d then some (j : Int) else some (ksixF d (kssigns.drop (j + 1)) (j + 1)) := by
      rw [ksixF]
      split <;> rfl
    rw [he]
    refine s_if_icmp_ne (tgt := 25) dj_lchar_19 rfl ?_ ?_
    · refine s_iload dj_lchar_22 rfl ?_
      exact s_nret dj_lchar_24 rfl rfl rfl
    · refine s_iinc dj_lchar_25 rfl rfl ?_
      refine s_goto (tgt := 7) dj_lchar_28 rfl ?_
      have hw : w32 ((j : Int) + 1) = ((j + 1 : Nat) : Int) := by
        rw [w32_id (by constructor <;> omega)]
        rfl
      rw [hw]
      exact ih (j + 1) (by omega)
theorem sj_lchar (c : Int) : Sim G Yj_lchar (some (ksixF (kw8 c) kssigns 0)) (kC 0 [some (VA (G.2.1.2.2.2.2 1)), some (VI c), some (VI 0), some (VI 11), none, none] [] S M) (kRI S M) := by
  refine s_iload_n dj_lchar_0 rfl ?_
  refine s_i2b dj_lchar_1 ?_
  refine s_istore dj_lchar_2 rfl ?_
  refine s_iload_n dj_lchar_4 rfl ?_
  refine s_istore dj_lchar_5 rfl ?_
  exact sj_lcharL c (kw8 c) 11 0 rfl
theorem cj_lchar (c : Int) : CtrB B yj_lchar Yj_lchar [VA (B.2.2.2.2 1), VI c, VI 0, VI 11] S M (some (VI (ksixF (kw8 c) kssigns 0))) :=
  ctrB_of (e := some (ksixF (kw8 c) kssigns 0)) (κ := kRI S M) mj_lchar (Nat.le_of_ble_eq_true rfl) 2 rfl rfl (fun _ G hG => by subst hG; exact sj_lchar c)
theorem sj_lindexOf (c : Int) : Sim G Yj_lindexOf (some (ksidx1 c)) (kC 0 [some (VA (G.2.1.2.2.2.2 1)), some (VI c), some (VI 0), some (VI 11)] [] S M) (kRI S M) := by
  refine s_iload_n dj_lindexOf_0 rfl ?_
  refine s_invB (as := [VI c]) (Y' := Yj_lcan) (r := some (VI (kcanV c))) (st := []) (Or.inl ⟨dj_lindexOf_1, ij_lcan, rfl⟩) lj_L_lcan mj_lcan rfl (by decide) (Nat.le_of_ble_eq_true rfl) (cj_lcan c) ?_
  by_cases h : 0 ≤ c ∧ c ≤ 255
  · refine s_neY (tgt := 9) dj_lindexOf_4 rfl (by rw [kcanV, if_pos h]; decide) ?_
    refine s_iload_n dj_lindexOf_9 rfl ?_
    refine s_iconst dj_lindexOf_10 rfl ?_
    refine s_mmax dj_lindexOf_11 lj_L_max rfl ?_
    refine s_istore_n dj_lindexOf_14 rfl ?_
    refine s_iload_n dj_lindexOf_15 rfl ?_
    refine s_aloadA_n dj_lindexOf_16 rfl ?_
    refine s_tlen (i := 1) (by decide) dj_lindexOf_17 ?_
    refine s_mmin dj_lindexOf_18 lj_L_min rfl ?_
    refine s_istore_n dj_lindexOf_21 rfl ?_
    have h1 : max (0 : Int) 0 = 0 := by decide
    have h2 : min (11 : Int) ((ktX 1).length : Int) = 11 := by decide
    rw [h1, h2]
    refine s_iload_n dj_lindexOf_22 rfl ?_
    refine s_iload_n dj_lindexOf_23 rfl ?_
    refine s_cltY (tgt := 29) dj_lindexOf_24 rfl (by decide) ?_
    refine s_aloadA_n dj_lindexOf_29 rfl ?_
    refine s_iload_n dj_lindexOf_30 rfl ?_
    refine s_iload_n dj_lindexOf_31 rfl ?_
    refine s_iload_n dj_lindexOf_32 rfl ?_
    refine s_invB (as := [VA (G.2.1.2.2.2.2 1), VI c, VI 0, VI 11]) (Y' := Yj_lchar) (r := some (VI (ksixF (kw8 c) kssigns 0))) (st := []) (Or.inl ⟨dj_lindexOf_33, ij_lchar, rfl⟩) lj_L_lchar mj_lchar rfl (by decide) (Nat.le_of_ble_eq_true rfl) (cj_lchar c) ?_
    have hc : ksixF (kw8 c) kssigns 0 = ksidx1 c := by
      have := ks_in c.toNat (by omega)
      rwa [show ((c.toNat : Nat) : Int) = c by omega] at this
    rw [hc]
    exact s_nret dj_lindexOf_36 rfl rfl rfl
  · refine s_neN (tgt := 9) dj_lindexOf_4 rfl (by rw [kcanV, if_neg h]) ?_
    refine s_iconst dj_lindexOf_7 rfl ?_
    rw [ks_far h]
    exact s_nret dj_lindexOf_8 rfl rfl rfl
theorem cj_lindexOf (c : Int) : CtrB B yj_lindexOf Yj_lindexOf [VA (B.2.2.2.2 1), VI c, VI 0, VI 11] S M (some (VI (ksidx1 c))) :=
  ctrB_of (e := some (ksidx1 c)) (κ := kRI S M) mj_lindexOf (Nat.le_of_ble_eq_true rfl) 0 rfl rfl (fun _ G hG => by subst hG; exact sj_lindexOf c)
theorem sj_indexOf2 (c : Int) : Sim G Yj_indexOf2 (some (ksidx1 c)) (kC 0 [some (VA (G.2.1.2.2.2.1 1)), some (VI c), some (VI 0)] [] S M) (kRI S M) := by
  refine s_aloadA_n dj_indexOf2_0 rfl ?_
  refine s_invB (as := [VA (G.2.1.2.2.2.1 1)]) (Y' := Yj_isLatin1) (r := some (VI 1)) (st := []) (Or.inr ⟨dj_indexOf2_1, ij_isLatin1.1, ij_isLatin1.2, 1, [], by decide, rfl, rfl⟩) lj_S_isLatin1 mj_isLatin1 rfl (by decide) (Nat.le_of_ble_eq_true rfl) (cj_isLatin1 (by decide)) ?_
  refine s_eqN (tgt := 23) dj_indexOf2_4 rfl (by decide) ?_
  refine s_aloadA_n dj_indexOf2_7 rfl ?_
  refine s_gvalue (i := 1) (by decide) fj_value dj_indexOf2_8 ?_
  refine s_iload_n dj_indexOf2_11 rfl ?_
  refine s_iload_n dj_indexOf2_12 rfl ?_
  refine s_aloadA_n dj_indexOf2_13 rfl ?_
  refine s_invB (as := [VA (G.2.1.2.2.2.1 1)]) (Y' := Yj_length) (r := some (VI ((ktX 1).length : Int))) (st := [VI 0, VI c, VA (G.2.1.2.2.2.2 1)]) (Or.inr ⟨dj_indexOf2_14, ij_length.1, ij_length.2, 1, [], by decide, rfl, rfl⟩) lj_S_length mj_length rfl (by decide) (Nat.le_of_ble_eq_true rfl) (cj_length (by decide)) ?_
  have h11 : ((ktX 1).length : Int) = 11 := by decide
  rw [h11]
  refine s_invB (as := [VA (G.2.1.2.2.2.2 1), VI c, VI 0, VI 11]) (Y' := Yj_lindexOf) (r := some (VI (ksidx1 c))) (st := []) (Or.inl ⟨dj_indexOf2_17, ij_lindexOf, rfl⟩) lj_S_lindexOf mj_lindexOf rfl (by decide) (Nat.le_of_ble_eq_true rfl) (cj_lindexOf c) ?_
  refine s_goto (tgt := 36) dj_indexOf2_20 rfl ?_
  exact s_nret dj_indexOf2_36 rfl rfl rfl
theorem cj_indexOf2 (c : Int) : CtrB B yj_indexOf2 Yj_indexOf2 [VA (B.2.2.2.1 1), VI c, VI 0] S M (some (VI (ksidx1 c))) :=
  ctrB_of (e := some (ksidx1 c)) (κ := kRI S M) mj_indexOf2 (Nat.le_of_ble_eq_true rfl) 0 rfl rfl (fun _ G hG => by subst hG; exact sj_indexOf2 c)
theorem sj_indexOf (c : Int) : Sim G Yj_indexOf (some (ksidx1 c)) (kC 0 [some (VA (G.2.1.2.2.2.1 1)), some (VI c)] [] S M) (kRI S M) := by
  refine s_aloadA_n dj_indexOf_0 rfl ?_
  refine s_iload_n dj_indexOf_1 rfl ?_
  refine s_iconst dj_indexOf_2 rfl ?_
  refine s_invB (as := [VA (G.2.1.2.2.2.1 1), VI c, VI 0]) (Y' := Yj_indexOf2) (r := some (VI (ksidx1 c))) (st := []) (Or.inr ⟨dj_indexOf_3, ij_indexOf2.1, ij_indexOf2.2, 1, [VI c, VI 0], by decide, rfl, rfl⟩) lj_S_indexOf2 mj_indexOf2 rfl (by decide) (Nat.le_of_ble_eq_true rfl) (cj_indexOf2 c) ?_
  exact s_nret dj_indexOf_6 rfl rfl rfl
theorem cj_indexOf (c : Int) : CtrB B yj_indexOf Yj_indexOf [VA (B.2.2.2.1 1), VI c] S M (some (VI (ksidx1 c))) :=
  ctrB_of (e := some (ksidx1 c)) (κ := kRI S M) mj_indexOf (Nat.le_of_ble_eq_true rfl) 0 rfl rfl (fun _ G hG => by subst hG; exact sj_indexOf c)
end KJDK
section KTXT
variable {α : Type} {G : Gam} {Y : KY} {e : Option α} {κ : α → KCf} {pc : Nat} {ls : List (Option KV)} {st : List KV} {S : KS} {M : KM}
theorem s_str_length0 (hd : decode Y.2.1 pc = .ok (.invokevirtual 71, 3)) (hh : (Nat.ble 12 Y.2.2.2.2 && Nat.ble (kwords st) 8) = true) (k : Sim G Y e (kC (pc + 3) ls (VI kslen0 :: st) S M) κ) (hY : Y.1 = "YearHands$Tokens" := by rfl) : Sim G Y e (kC pc ls (VA (G.2.1.2.2.2.1 0) :: st) S M) κ := by
  simp only [Bool.and_eq_true] at hh
  have hh1 := Nat.le_of_ble_eq_true hh.1
  exact s_invB (as := [VA (G.2.1.2.2.2.1 0)]) (Y' := Yj_length) (r := some (VI ((ktX 0).length : Int))) (Or.inr ⟨hd, ij_length.1, ij_length.2, 0, [], by decide, rfl, rfl⟩) (by rw [hY]; exact lj_T_length) mj_length rfl (by show 2 + 1 ≤ _; omega) (Nat.le_of_ble_eq_true hh.2) (cj_length (by decide)) k
theorem s_str_charAt0 {i : Int} (hd : decode Y.2.1 pc = .ok (.invokevirtual 75, 3)) (hh : (Nat.ble 12 Y.2.2.2.2 && Nat.ble (kwords st) 8) = true) (k : Sim G Y e (kC (pc + 3) ls (VI (kschar0 i) :: st) S M) κ) (hY : Y.1 = "YearHands$Tokens" := by rfl) : Sim G Y (if 0 ≤ i ∧ i < kslen0 then e else none) (kC pc ls (VI i :: VA (G.2.1.2.2.2.1 0) :: st) S M) κ := by
  simp only [Bool.and_eq_true] at hh
  have hh1 := Nat.le_of_ble_eq_true hh.1
  exact s_if fun hi => s_invB (as := [VA (G.2.1.2.2.2.1 0), VI i]) (Y' := Yj_charAt) (r := some (VI (((ktX 0).getD i.toNat 0 : Nat) : Int))) (Or.inr ⟨hd, ij_charAt.1, ij_charAt.2, 0, [VI i], by decide, rfl, rfl⟩) (by rw [hY]; exact lj_T_charAt) mj_charAt rfl (by show 4 + 1 ≤ _; omega) (Nat.le_of_ble_eq_true hh.2) (cj_charAt (i := 0) (by decide) hi) k
theorem s_str_indexOf1 {c : Int} (hd : decode Y.2.1 pc = .ok (.invokevirtual 58, 3)) (hh : (Nat.ble 12 Y.2.2.2.2 && Nat.ble (kwords st) 8) = true) (k : Sim G Y e (kC (pc + 3) ls (VI (ksidx1 c) :: st) S M) κ) (hY : Y.1 = "YearHands$Tokens" := by rfl) : Sim G Y e (kC pc ls (VI c :: VA (G.2.1.2.2.2.1 1) :: st) S M) κ := by
  simp only [Bool.and_eq_true] at hh
  have hh1 := Nat.le_of_ble_eq_true hh.1
  exact s_invB (as := [VA (G.2.1.2.2.2.1 1), VI c]) (Y' := Yj_indexOf) (r := some (VI (ksidx1 c))) (Or.inr ⟨hd, ij_indexOf.1, ij_indexOf.2, 1, [VI c], by decide, rfl, rfl⟩) (by rw [hY]; exact lj_T_indexOf) mj_indexOf rfl (by show 4 + 1 ≤ _; omega) (Nat.le_of_ble_eq_true hh.2) (cj_indexOf c) k
end KTXT
