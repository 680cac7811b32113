/-! CONSTRUCTORS that make objects -/
theorem s_put0 {α : Type} {G : Gam} {Y : KY} {e : Option α} {κ : α → KCf} {pc : Nat} {ls : List (Option KV)} {st : List KV} {S : KS} {M : KM} {idx c j k : Nat} {rs : List (Option Nat)} {x : Int} (hd : decode Y.2.1 pc = .ok (.putfield idx, 3)) (hF : (c < 13 ∧ j < kN c) ∧ Cond.fieldLink Y.1 idx (kT c j).1 (kT c j).2.1 (kT c j).2.2.1 ∈ tbg) (hS : S[k]? = some ((c, kN c), rs)) (ht : (kT c j).2.2.2 = false ∧ kTy c j = .int) (h0 : M k j = x) (kk : Sim G Y e (kC (pc + 3) ls st S M) κ) : Sim G Y e (kC pc ls (VI x :: VR (some k) :: st) S M) κ := s_putI hd hF hS ht (by rw [mupd_0 h0]; exact kk)
def townM (n : Nat) (M : KM) : KM := mupd (mupd M n 11 (-1)) n 13 120
theorem ce_Town {S : KS} {n f : Nat} {rs rf : List (Option Nat)} (h1 : S[n]? = some ((12, kN 12), rs)) (h2 : rs.getD 16 none = some f) (h3 : S[f]? = some ((4, kN 4), rf)) (hf : f ≠ n) {M : KM} (z : ∀ i, M n i = 0) (zf : M f 1 = 0) : Ctr y_Town_empty Y_Town_empty [VR (some n)] S M none S (townM n M) := by
  refine ctr_of (α := Unit) (e := some ()) (a := ()) (κ := fun _ => .inr (none, S, townM n M)) md_Town_empty (Nat.le_of_ble_eq_true rfl) ⟨Nat.le_refl _, Nat.le_refl _⟩ 0 rfl rfl (fun _ G => ?_)
  show Sim G Y_Town_empty (some ()) (kC 0 [some (VR (some n))] [] S M) _
  refine s_aload_n (dt_Town_empty 0 _ _ _ rfl) rfl ?_
  refine s_iconst (dt_Town_empty 1 _ _ _ rfl) rfl ?_
  refine s_put0 (c := 12) (j := 0) (dt_Town_empty 2 _ _ _ rfl) kp_Town_46 h1 ⟨rfl, rfl⟩ (by exact z _) ?_
  refine s_aload_n (dt_Town_empty 3 _ _ _ rfl) rfl ?_
  refine s_iconst (dt_Town_empty 4 _ _ _ rfl) rfl ?_
  refine s_put0 (c := 12) (j := 5) (dt_Town_empty 5 _ _ _ rfl) kp_Town_50 h1 ⟨rfl, rfl⟩ (by exact z _) ?_
  refine s_aload_n (dt_Town_empty 6 _ _ _ rfl) rfl ?_
  refine s_iconst (dt_Town_empty 7 _ _ _ rfl) rfl ?_
  refine s_put0 (c := 12) (j := 9) (dt_Town_empty 8 _ _ _ rfl) kp_Town_53 h1 ⟨rfl, rfl⟩ (by exact z _) ?_
  refine s_aload_n (dt_Town_empty 9 _ _ _ rfl) rfl ?_
  refine s_iconst (dt_Town_empty 10 _ _ _ rfl) rfl ?_
  refine s_putI (c := 12) (j := 11) (dt_Town_empty 11 _ _ _ rfl) kp_Town_56 h1 ⟨rfl, rfl⟩ ?_
  refine s_aload_n (dt_Town_empty 12 _ _ _ rfl) rfl ?_
  refine s_iconst (dt_Town_empty 13 _ _ _ rfl) rfl ?_
  refine s_put0 (c := 12) (j := 12) (dt_Town_empty 14 _ _ _ rfl) kp_Town_59 h1 ⟨rfl, rfl⟩ (by rw [mupd_ne2 _ _ (by decide)]; exact z _) ?_
  refine s_aload_n (dt_Town_empty 15 _ _ _ rfl) rfl ?_
  refine s_bipush (dt_Town_empty 16 _ _ _ rfl) rfl ?_
  refine s_putI (c := 12) (j := 13) (dt_Town_empty 17 _ _ _ rfl) kp_Town_62 h1 ⟨rfl, rfl⟩ ?_
  refine s_aload_n (dt_Town_empty 18 _ _ _ rfl) rfl ?_
  refine s_iconst (dt_Town_empty 19 _ _ _ rfl) rfl ?_
  refine s_put0 (c := 12) (j := 14) (dt_Town_empty 20 _ _ _ rfl) kp_Town_65 h1 ⟨rfl, rfl⟩ (by rw [mupd_ne2 _ _ (by decide), mupd_ne2 _ _ (by decide)]; exact z _) ?_
  refine s_aload_n (dt_Town_empty 21 _ _ _ rfl) rfl ?_
  refine s_iconst (dt_Town_empty 22 _ _ _ rfl) rfl ?_
  refine s_put0 (c := 12) (j := 15) (dt_Town_empty 23 _ _ _ rfl) kp_Town_68 h1 ⟨rfl, rfl⟩ (by rw [mupd_ne2 _ _ (by decide), mupd_ne2 _ _ (by decide)]; exact z _) ?_
  refine s_aload_n (dt_Town_empty 24 _ _ _ rfl) rfl ?_
  refine s_getR (c := 12) (j := 16) (o := some f) (dt_Town_empty 25 _ _ _ rfl) kf_Town_39 h1 rfl h2 ?_
  refine s_iconst (dt_Town_empty 26 _ _ _ rfl) rfl ?_
  refine s_put0 (c := 4) (j := 1) (dt_Town_empty 27 _ _ _ rfl) kp_Town_71 h3 ⟨rfl, rfl⟩ (by rw [mupd_ne _ _ hf, mupd_ne _ _ hf]; exact zf) ?_
  exact s_vret (dt_Town_empty 28 _ _ _ rfl) rfl rfl
def y_Town_init : MethodName := ⟨"YearHands$Town", "<init>", "()V"⟩
abbrev Y_Town_init : KY := ("YearHands$Town", prog_12_method_1_code, 1, none, 2)
def D_Town_init : List (Nat × Instr × Nat) := [(0, .aload_n 0, 1), (1, .invokespecial 3, 3), (4, .aload_n 0, 1), (5, .bipush 8, 2), (7, .newarray .int, 2), (9, .putfield 9, 3), (12, .aload_n 0, 1), (13, .bipush 8, 2), (15, .newarray .int, 2), (17, .putfield 15, 3), (20, .aload_n 0, 1), (21, .bipush 8, 2), (23, .newarray .int, 2), (25, .putfield 18, 3), (28, .aload_n 0, 1), (29, .bipush 8, 2), (31, .newarray .int, 2), (33, .putfield 21, 3), (36, .aload_n 0, 1), (37, .bipush 20, 2), (39, .newarray .int, 2), (41, .putfield 24, 3), (44, .aload_n 0, 1), (45, .bipush 20, 2), (47, .newarray .int, 2), (49, .putfield 27, 3), (52, .aload_n 0, 1), (53, .bipush 20, 2), (55, .newarray .int, 2), (57, .putfield 30, 3), (60, .aload_n 0, 1), (61, .bipush 6, 2), (63, .newarray .int, 2), (65, .putfield 33, 3), (68, .aload_n 0, 1), (69, .new 36, 3), (72, .dup, 1), (73, .invokespecial 38, 3), (76, .putfield 39, 3), (79, .aload_n 0, 1), (80, .invokevirtual 43, 3), (83, .return_, 1)]
theorem dt_Town_init : kDec prog_12_method_1_code D_Town_init := kDec_of (by decide +kernel)
theorem md_Town_init : KMd y_Town_init Y_Town_init 0 := ⟨⟨tb_at 174 (by decide +kernel), tb_at 142 (by decide +kernel)⟩, rfl, ⟨by decide, by decide, by decide⟩, by decide +kernel, by decide⟩
theorem kin_Town_init : Cond.instanceMethod y_Town_init ∈ tbg := tb_at 173 (by decide +kernel)
theorem ko_Town_3 : Cond.methodLink "YearHands$Town" 3 Lib.objectInit ∈ tbg := tb_at 175 (by decide +kernel)
theorem kv_Town_9 : (12 < 13 ∧ 1 < kN 12) ∧ Cond.fieldLink "YearHands$Town" 9 (kT 12 1).1 (kT 12 1).2.1 (kT 12 1).2.2.1 ∈ tbg := ⟨⟨by decide, by decide⟩, tb_at 211 (by decide +kernel)⟩
theorem kv_Town_15 : (12 < 13 ∧ 2 < kN 12) ∧ Cond.fieldLink "YearHands$Town" 15 (kT 12 2).1 (kT 12 2).2.1 (kT 12 2).2.2.1 ∈ tbg := ⟨⟨by decide, by decide⟩, tb_at 215 (by decide +kernel)⟩
theorem kv_Town_18 : (12 < 13 ∧ 3 < kN 12) ∧ Cond.fieldLink "YearHands$Town" 18 (kT 12 3).1 (kT 12 3).2.1 (kT 12 3).2.2.1 ∈ tbg := ⟨⟨by decide, by decide⟩, tb_at 217 (by decide +kernel)⟩
theorem kv_Town_21 : (12 < 13 ∧ 4 < kN 12) ∧ Cond.fieldLink "YearHands$Town" 21 (kT 12 4).1 (kT 12 4).2.1 (kT 12 4).2.2.1 ∈ tbg := ⟨⟨by decide, by decide⟩, tb_at 219 (by decide +kernel)⟩
theorem kv_Town_24 : (12 < 13 ∧ 6 < kN 12) ∧ Cond.fieldLink "YearHands$Town" 24 (kT 12 6).1 (kT 12 6).2.1 (kT 12 6).2.2.1 ∈ tbg := ⟨⟨by decide, by decide⟩, tb_at 226 (by decide +kernel)⟩
theorem kv_Town_27 : (12 < 13 ∧ 7 < kN 12) ∧ Cond.fieldLink "YearHands$Town" 27 (kT 12 7).1 (kT 12 7).2.1 (kT 12 7).2.2.1 ∈ tbg := ⟨⟨by decide, by decide⟩, tb_at 230 (by decide +kernel)⟩
theorem kv_Town_30 : (12 < 13 ∧ 8 < kN 12) ∧ Cond.fieldLink "YearHands$Town" 30 (kT 12 8).1 (kT 12 8).2.1 (kT 12 8).2.2.1 ∈ tbg := ⟨⟨by decide, by decide⟩, tb_at 234 (by decide +kernel)⟩
theorem kv_Town_33 : (12 < 13 ∧ 10 < kN 12) ∧ Cond.fieldLink "YearHands$Town" 33 (kT 12 10).1 (kT 12 10).2.1 (kT 12 10).2.2.1 ∈ tbg := ⟨⟨by decide, by decide⟩, tb_at 240 (by decide +kernel)⟩
theorem kq_Town_36 : Cond.classLink "YearHands$Town" 36 "YearHands$Formulas" ∈ tbg := tb_at 176 (by decide +kernel)
theorem kw_Town_38 : kML "YearHands$Town" 38 y_Formulas_init := Or.inr ⟨"YearHands", tb_at 178 (by decide +kernel)⟩
theorem kv_Town_39 : (12 < 13 ∧ 16 < kN 12) ∧ Cond.fieldLink "YearHands$Town" 39 (kT 12 16).1 (kT 12 16).2.1 (kT 12 16).2.2.1 ∈ tbg := ⟨⟨by decide, by decide⟩, tb_at 261 (by decide +kernel)⟩
theorem kw_Town_43 : kML "YearHands$Town" 43 y_Town_empty := Or.inl (tb_at 200 (by decide +kernel))
def blk_Town (n : Nat) : KS := ((12, 17), [none, some (n + (1 + 0)), some (n + (1 + 1)), some (n + (1 + 2)), some (n + (1 + 3)), none, some (n + (1 + 4)), some (n + (1 + 5)), some (n + (1 + 6)), none, some (n + (1 + 7)), none, none, none, none, none, some (n + (1 + 8))]) :: ((((((((([] ++ [((20, 8), [])]) ++ [((20, 8), [])]) ++ [((20, 8), [])]) ++ [((20, 8), [])]) ++ [((20, 20), [])]) ++ [((20, 20), [])]) ++ [((20, 20), [])]) ++ [((20, 6), [])]) ++ blk_Formulas (n + (1 + 8)))
theorem bl_Town (n : Nat) : (blk_Town n).length = 12 ∧ ksz (blk_Town n) = 1750 := ap0 (w := 17) rfl (apB (j' := 11) (z' := 1733) (ap1 (j' := 8) (z' := 98) (ap1 (j' := 7) (z' := 92) (ap1 (j' := 6) (z' := 72) (ap1 (j' := 5) (z' := 52) (ap1 (j' := 4) (z' := 32) (ap1 (j' := 3) (z' := 24) (ap1 (j' := 2) (z' := 16) (ap1 (j' := 1) (z' := 8) apN rfl rfl) rfl rfl) rfl rfl) rfl rfl) rfl rfl) rfl rfl) rfl rfl) rfl rfl) (bl_Formulas _) rfl rfl) rfl rfl
set_option maxRecDepth 100000 in
theorem ci_Town {S1 : KS} {n : Nat} (hn : S1.length = n) {M : KM} (hz : kblk M n) : Cin y_Town_init Y_Town_init S1 ((12, kN 12), List.replicate (kN 12) none) M (blk_Town n) (townM n M) := by
  subst hn
  unfold Cin
  have l1 : (S1 ++ [((12, kN 12), List.replicate (kN 12) none)]).length = S1.length + 1 := by rw [List.length_append]; rfl
  have l2 : (S1 ++ blk_Town S1.length).length = S1.length + 12 := by rw [List.length_append, (bl_Town _).1]
  have z1 : ksz (S1 ++ [((12, kN 12), List.replicate (kN 12) (none : Option Nat))]) = ksz S1 + 17 := by rw [ksz_app]; rfl
  have z2 : ksz (S1 ++ blk_Town S1.length) = ksz S1 + 1750 := by rw [ksz_app, (bl_Town _).2]
  refine ctr_ofL (α := Unit) (e := some ()) (a := ()) (κ := fun _ => .inr (none, S1 ++ blk_Town S1.length, townM S1.length M)) md_Town_init (Nat.le_of_ble_eq_true rfl) (by rw [l1, l2, z1, z2]; omega) 0 rfl rfl (fun _ G hG hi0 => ?_)
  have hi := hi0 rfl
  have g1 : G.2.2.1.2.2.1 = S1.length + 12 := by rw [hG]; exact l2
  have g2 : G.2.2.1.2.2.2 = ksz S1 + 1750 := by rw [hG]; exact z2
  show Sim G Y_Town_init (some ()) (kC 0 [some (VR (some S1.length))] [] (S1 ++ (((12, kN 12), List.replicate (kN 12) none) :: [])) M) _
  refine s_aload_n (dt_Town_init 0 _ _ _ rfl) rfl ?_
  refine s_objInit (dt_Town_init 1 _ _ _ rfl) ko_Town_3 ⟨kw_objI, kw_objC⟩ rfl ?_
  refine s_aload_n (dt_Town_init 2 _ _ _ rfl) rfl ?_
  refine s_bipush (dt_Town_init 3 _ _ _ rfl) rfl ?_
  refine i_newI (j := 0) (z := 0) (w := 17) (n := 8) (dt_Town_init 4 _ _ _ rfl) rfl (by decide) kaI ⟨(apN).1, (apN).2, rfl⟩ (hz.up (m := S1.length + (1 + 0)) (by omega)) ⟨by omega, by omega⟩ ?_
  refine i_putR hi (dt_Town_init 5 _ _ _ rfl) kv_Town_9 rfl ⟨rfl, rfl⟩ rfl ?_
  refine s_aload_n (dt_Town_init 6 _ _ _ rfl) rfl ?_
  refine s_bipush (dt_Town_init 7 _ _ _ rfl) rfl ?_
  refine i_newI (j := 1) (z := 8) (w := 17) (n := 8) (dt_Town_init 8 _ _ _ rfl) rfl (by decide) kaI ⟨((ap1 (j' := 1) (z' := 8) apN rfl rfl)).1, ((ap1 (j' := 1) (z' := 8) apN rfl rfl)).2, rfl⟩ (hz.up (m := S1.length + (1 + 1)) (by omega)) ⟨by omega, by omega⟩ ?_
  refine i_putR hi (dt_Town_init 9 _ _ _ rfl) kv_Town_15 rfl ⟨rfl, rfl⟩ rfl ?_
  refine s_aload_n (dt_Town_init 10 _ _ _ rfl) rfl ?_
  refine s_bipush (dt_Town_init 11 _ _ _ rfl) rfl ?_
  refine i_newI (j := 2) (z := 16) (w := 17) (n := 8) (dt_Town_init 12 _ _ _ rfl) rfl (by decide) kaI ⟨((ap1 (j' := 2) (z' := 16) (ap1 (j' := 1) (z' := 8) apN rfl rfl) rfl rfl)).1, ((ap1 (j' := 2) (z' := 16) (ap1 (j' := 1) (z' := 8) apN rfl rfl) rfl rfl)).2, rfl⟩ (hz.up (m := S1.length + (1 + 2)) (by omega)) ⟨by omega, by omega⟩ ?_
  refine i_putR hi (dt_Town_init 13 _ _ _ rfl) kv_Town_18 rfl ⟨rfl, rfl⟩ rfl ?_
  refine s_aload_n (dt_Town_init 14 _ _ _ rfl) rfl ?_
  refine s_bipush (dt_Town_init 15 _ _ _ rfl) rfl ?_
  refine i_newI (j := 3) (z := 24) (w := 17) (n := 8) (dt_Town_init 16 _ _ _ rfl) rfl (by decide) kaI ⟨((ap1 (j' := 3) (z' := 24) (ap1 (j' := 2) (z' := 16) (ap1 (j' := 1) (z' := 8) apN rfl rfl) rfl rfl) rfl rfl)).1, ((ap1 (j' := 3) (z' := 24) (ap1 (j' := 2) (z' := 16) (ap1 (j' := 1) (z' := 8) apN rfl rfl) rfl rfl) rfl rfl)).2, rfl⟩ (hz.up (m := S1.length + (1 + 3)) (by omega)) ⟨by omega, by omega⟩ ?_
  refine i_putR hi (dt_Town_init 17 _ _ _ rfl) kv_Town_21 rfl ⟨rfl, rfl⟩ rfl ?_
  refine s_aload_n (dt_Town_init 18 _ _ _ rfl) rfl ?_
  refine s_bipush (dt_Town_init 19 _ _ _ rfl) rfl ?_
  refine i_newI (j := 4) (z := 32) (w := 17) (n := 20) (dt_Town_init 20 _ _ _ rfl) rfl (by decide) kaI ⟨((ap1 (j' := 4) (z' := 32) (ap1 (j' := 3) (z' := 24) (ap1 (j' := 2) (z' := 16) (ap1 (j' := 1) (z' := 8) apN rfl rfl) rfl rfl) rfl rfl) rfl rfl)).1, ((ap1 (j' := 4) (z' := 32) (ap1 (j' := 3) (z' := 24) (ap1 (j' := 2) (z' := 16) (ap1 (j' := 1) (z' := 8) apN rfl rfl) rfl rfl) rfl rfl) rfl rfl)).2, rfl⟩ (hz.up (m := S1.length + (1 + 4)) (by omega)) ⟨by omega, by omega⟩ ?_
  refine i_putR hi (dt_Town_init 21 _ _ _ rfl) kv_Town_24 rfl ⟨rfl, rfl⟩ rfl ?_
  refine s_aload_n (dt_Town_init 22 _ _ _ rfl) rfl ?_
  refine s_bipush (dt_Town_init 23 _ _ _ rfl) rfl ?_
  refine i_newI (j := 5) (z := 52) (w := 17) (n := 20) (dt_Town_init 24 _ _ _ rfl) rfl (by decide) kaI ⟨((ap1 (j' := 5) (z' := 52) (ap1 (j' := 4) (z' := 32) (ap1 (j' := 3) (z' := 24) (ap1 (j' := 2) (z' := 16) (ap1 (j' := 1) (z' := 8) apN rfl rfl) rfl rfl) rfl rfl) rfl rfl) rfl rfl)).1, ((ap1 (j' := 5) (z' := 52) (ap1 (j' := 4) (z' := 32) (ap1 (j' := 3) (z' := 24) (ap1 (j' := 2) (z' := 16) (ap1 (j' := 1) (z' := 8) apN rfl rfl) rfl rfl) rfl rfl) rfl rfl) rfl rfl)).2, rfl⟩ (hz.up (m := S1.length + (1 + 5)) (by omega)) ⟨by omega, by omega⟩ ?_
  refine i_putR hi (dt_Town_init 25 _ _ _ rfl) kv_Town_27 rfl ⟨rfl, rfl⟩ rfl ?_
  refine s_aload_n (dt_Town_init 26 _ _ _ rfl) rfl ?_
  refine s_bipush (dt_Town_init 27 _ _ _ rfl) rfl ?_
  refine i_newI (j := 6) (z := 72) (w := 17) (n := 20) (dt_Town_init 28 _ _ _ rfl) rfl (by decide) kaI ⟨((ap1 (j' := 6) (z' := 72) (ap1 (j' := 5) (z' := 52) (ap1 (j' := 4) (z' := 32) (ap1 (j' := 3) (z' := 24) (ap1 (j' := 2) (z' := 16) (ap1 (j' := 1) (z' := 8) apN rfl rfl) rfl rfl) rfl rfl) rfl rfl) rfl rfl) rfl rfl)).1, ((ap1 (j' := 6) (z' := 72) (ap1 (j' := 5) (z' := 52) (ap1 (j' := 4) (z' := 32) (ap1 (j' := 3) (z' := 24) (ap1 (j' := 2) (z' := 16) (ap1 (j' := 1) (z' := 8) apN rfl rfl) rfl rfl) rfl rfl) rfl rfl) rfl rfl) rfl rfl)).2, rfl⟩ (hz.up (m := S1.length + (1 + 6)) (by omega)) ⟨by omega, by omega⟩ ?_
  refine i_putR hi (dt_Town_init 29 _ _ _ rfl) kv_Town_30 rfl ⟨rfl, rfl⟩ rfl ?_
  refine s_aload_n (dt_Town_init 30 _ _ _ rfl) rfl ?_
  refine s_bipush (dt_Town_init 31 _ _ _ rfl) rfl ?_
  refine i_newI (j := 7) (z := 92) (w := 17) (n := 6) (dt_Town_init 32 _ _ _ rfl) rfl (by decide) kaI ⟨((ap1 (j' := 7) (z' := 92) (ap1 (j' := 6) (z' := 72) (ap1 (j' := 5) (z' := 52) (ap1 (j' := 4) (z' := 32) (ap1 (j' := 3) (z' := 24) (ap1 (j' := 2) (z' := 16) (ap1 (j' := 1) (z' := 8) apN rfl rfl) rfl rfl) rfl rfl) rfl rfl) rfl rfl) rfl rfl) rfl rfl)).1, ((ap1 (j' := 7) (z' := 92) (ap1 (j' := 6) (z' := 72) (ap1 (j' := 5) (z' := 52) (ap1 (j' := 4) (z' := 32) (ap1 (j' := 3) (z' := 24) (ap1 (j' := 2) (z' := 16) (ap1 (j' := 1) (z' := 8) apN rfl rfl) rfl rfl) rfl rfl) rfl rfl) rfl rfl) rfl rfl) rfl rfl)).2, rfl⟩ (hz.up (m := S1.length + (1 + 7)) (by omega)) ⟨by omega, by omega⟩ ?_
  refine i_putR hi (dt_Town_init 33 _ _ _ rfl) kv_Town_33 rfl ⟨rfl, rfl⟩ rfl ?_
  refine s_aload_n (dt_Town_init 34 _ _ _ rfl) rfl ?_
  refine i_new (c := 4) (j := 8) (z := 98) (w := 17) (dt_Town_init 35 _ _ _ rfl) (by decide) kq_Town_36 ⟨((ap1 (j' := 8) (z' := 98) (ap1 (j' := 7) (z' := 92) (ap1 (j' := 6) (z' := 72) (ap1 (j' := 5) (z' := 52) (ap1 (j' := 4) (z' := 32) (ap1 (j' := 3) (z' := 24) (ap1 (j' := 2) (z' := 16) (ap1 (j' := 1) (z' := 8) apN rfl rfl) rfl rfl) rfl rfl) rfl rfl) rfl rfl) rfl rfl) rfl rfl) rfl rfl)).1, ((ap1 (j' := 8) (z' := 98) (ap1 (j' := 7) (z' := 92) (ap1 (j' := 6) (z' := 72) (ap1 (j' := 5) (z' := 52) (ap1 (j' := 4) (z' := 32) (ap1 (j' := 3) (z' := 24) (ap1 (j' := 2) (z' := 16) (ap1 (j' := 1) (z' := 8) apN rfl rfl) rfl rfl) rfl rfl) rfl rfl) rfl rfl) rfl rfl) rfl rfl) rfl rfl)).2, rfl⟩ (hz.up (m := S1.length + (1 + 8)) (by omega)) ⟨by omega, by show _ + 4 ≤ _; omega⟩ ?_
  refine s_dup (dt_Town_init 36 _ _ _ rfl) rfl ?_
  refine i_call (j := 8) (z := 98) (w := 17) (ja := 3) (za := 1635) (dt_Town_init 37 _ _ _ rfl) rfl kin_Formulas_init rfl kw_Town_38 md_Formulas_init rfl rfl ⟨((ap1 (j' := 8) (z' := 98) (ap1 (j' := 7) (z' := 92) (ap1 (j' := 6) (z' := 72) (ap1 (j' := 5) (z' := 52) (ap1 (j' := 4) (z' := 32) (ap1 (j' := 3) (z' := 24) (ap1 (j' := 2) (z' := 16) (ap1 (j' := 1) (z' := 8) apN rfl rfl) rfl rfl) rfl rfl) rfl rfl) rfl rfl) rfl rfl) rfl rfl) rfl rfl)).1, ((ap1 (j' := 8) (z' := 98) (ap1 (j' := 7) (z' := 92) (ap1 (j' := 6) (z' := 72) (ap1 (j' := 5) (z' := 52) (ap1 (j' := 4) (z' := 32) (ap1 (j' := 3) (z' := 24) (ap1 (j' := 2) (z' := 16) (ap1 (j' := 1) (z' := 8) apN rfl rfl) rfl rfl) rfl rfl) rfl rfl) rfl rfl) rfl rfl) rfl rfl) rfl rfl)).2, rfl⟩ (bl_Formulas _) ⟨by decide, by decide⟩ (ci_Formulas (n := S1.length + (1 + 8)) (in_len ((ap1 (j' := 8) (z' := 98) (ap1 (j' := 7) (z' := 92) (ap1 (j' := 6) (z' := 72) (ap1 (j' := 5) (z' := 52) (ap1 (j' := 4) (z' := 32) (ap1 (j' := 3) (z' := 24) (ap1 (j' := 2) (z' := 16) (ap1 (j' := 1) (z' := 8) apN rfl rfl) rfl rfl) rfl rfl) rfl rfl) rfl rfl) rfl rfl) rfl rfl) rfl rfl)).1) (hz.up (m := S1.length + (1 + 8)) (by omega))) ⟨by omega, by omega⟩ ?_
  refine i_putR hi (dt_Town_init 38 _ _ _ rfl) kv_Town_39 rfl ⟨rfl, rfl⟩ rfl ?_
  refine s_aload_n (dt_Town_init 39 _ _ _ rfl) rfl ?_
  refine s_inv (y := y_Town_empty) (Y' := Y_Town_empty) (np := 0) (as := [VR (some S1.length)]) (r := none) (Or.inr (Or.inl ⟨(dt_Town_init 40 _ _ _ rfl), kin_Town_empty, 12, S1.length, 17, _, [], by decide, in_get, kse_Town_empty, rfl, rfl⟩)) (kw_Town_43) md_Town_empty rfl rfl (ce_Town (f := S1.length + (1 + 8)) in_get rfl (by rw [List.getElem?_append_right (by omega), show S1.length + (1 + 8) - S1.length = 1 + 8 by omega]; rfl) (by omega) (fun i => hz _ (Nat.le_refl _) i) (hz _ (by omega) _)) ?_
  exact s_vret (dt_Town_init 41 _ _ _ rfl) rfl rfl
theorem kblk.townM_up {M : KM} {m k : Nat} (h : kblk M m) (hk : k < m) : kblk (townM k M) m := (h.upd hk).upd hk
def y_Reader_init : MethodName := ⟨"YearHands$Reader", "<init>", "()V"⟩
abbrev Y_Reader_init : KY := ("YearHands$Reader", prog_7_method_1_code, 1, none, 3)
def D_Reader_init : List (Nat × Instr × Nat) := [(0, .aload_n 0, 1), (1, .invokespecial 3, 3), (4, .aload_n 0, 1), (5, .iconst 0, 1), (6, .putfield 9, 3), (9, .aload_n 0, 1), (10, .iconst (-1), 1), (11, .putfield 15, 3), (14, .aload_n 0, 1), (15, .new 18, 3), (18, .dup, 1), (19, .invokespecial 20, 3), (22, .putfield 21, 3), (25, .aload_n 0, 1), (26, .new 25, 3), (29, .dup, 1), (30, .invokespecial 27, 3), (33, .putfield 28, 3), (36, .aload_n 0, 1), (37, .bipush 8, 2), (39, .newarray .long, 2), (41, .putfield 32, 3), (44, .aload_n 0, 1), (45, .bipush 6, 2), (47, .newarray .long, 2), (49, .putfield 36, 3), (52, .return_, 1)]
theorem dt_Reader_init : kDec prog_7_method_1_code D_Reader_init := kDec_of (by decide +kernel)
theorem md_Reader_init : KMd y_Reader_init Y_Reader_init 0 := ⟨⟨tb_at 303 (by decide +kernel), tb_at 144 (by decide +kernel)⟩, rfl, ⟨by decide, by decide, by decide⟩, by decide +kernel, by decide⟩
theorem kin_Reader_init : Cond.instanceMethod y_Reader_init ∈ tbg := tb_at 302 (by decide +kernel)
theorem ko_Reader_3 : Cond.methodLink "YearHands$Reader" 3 Lib.objectInit ∈ tbg := tb_at 304 (by decide +kernel)
theorem kv_Reader_9 : (7 < 13 ∧ 0 < kN 7) ∧ Cond.fieldLink "YearHands$Reader" 9 (kT 7 0).1 (kT 7 0).2.1 (kT 7 0).2.2.1 ∈ tbg := ⟨⟨by decide, by decide⟩, tb_at 337 (by decide +kernel)⟩
theorem kv_Reader_15 : (7 < 13 ∧ 1 < kN 7) ∧ Cond.fieldLink "YearHands$Reader" 15 (kT 7 1).1 (kT 7 1).2.1 (kT 7 1).2.2.1 ∈ tbg := ⟨⟨by decide, by decide⟩, tb_at 339 (by decide +kernel)⟩
theorem kq_Reader_18 : Cond.classLink "YearHands$Reader" 18 "YearHands$Town" ∈ tbg := tb_at 305 (by decide +kernel)
theorem kw_Reader_20 : kML "YearHands$Reader" 20 y_Town_init := Or.inl (tb_at 306 (by decide +kernel))
theorem kv_Reader_21 : (7 < 13 ∧ 2 < kN 7) ∧ Cond.fieldLink "YearHands$Reader" 21 (kT 7 2).1 (kT 7 2).2.1 (kT 7 2).2.2.1 ∈ tbg := ⟨⟨by decide, by decide⟩, tb_at 341 (by decide +kernel)⟩
theorem kq_Reader_25 : Cond.classLink "YearHands$Reader" 25 "YearHands$Tokens" ∈ tbg := tb_at 307 (by decide +kernel)
theorem kw_Reader_27 : kML "YearHands$Reader" 27 y_Tokens_init := Or.inr ⟨"YearHands", tb_at 309 (by decide +kernel)⟩
theorem kv_Reader_28 : (7 < 13 ∧ 3 < kN 7) ∧ Cond.fieldLink "YearHands$Reader" 28 (kT 7 3).1 (kT 7 3).2.1 (kT 7 3).2.2.1 ∈ tbg := ⟨⟨by decide, by decide⟩, tb_at 343 (by decide +kernel)⟩
theorem kv_Reader_32 : (7 < 13 ∧ 10 < kN 7) ∧ Cond.fieldLink "YearHands$Reader" 32 (kT 7 10).1 (kT 7 10).2.1 (kT 7 10).2.2.1 ∈ tbg := ⟨⟨by decide, by decide⟩, tb_at 350 (by decide +kernel)⟩
theorem kv_Reader_36 : (7 < 13 ∧ 11 < kN 7) ∧ Cond.fieldLink "YearHands$Reader" 36 (kT 7 11).1 (kT 7 11).2.1 (kT 7 11).2.2.1 ∈ tbg := ⟨⟨by decide, by decide⟩, tb_at 351 (by decide +kernel)⟩
def blk_Reader (n : Nat) : KS := ((7, 12), [none, none, some (n + (1 + 0)), some (n + (1 + 12)), none, none, none, none, none, none, some (n + (1 + 17)), some (n + (1 + 18))]) :: (((([] ++ blk_Town (n + (1 + 0))) ++ blk_Tokens (n + (1 + 12))) ++ [((21, 8), [])]) ++ [((21, 6), [])])
theorem bl_Reader (n : Nat) : (blk_Reader n).length = 20 ∧ ksz (blk_Reader n) = 8186 := ap0 (w := 12) rfl (ap1 (j' := 19) (z' := 8174) (ap1 (j' := 18) (z' := 8168) (apB (j' := 17) (z' := 8160) (apB (j' := 12) (z' := 1750) apN (bl_Town _) rfl rfl) (bl_Tokens _) rfl rfl) rfl rfl) rfl rfl) rfl rfl
def mem_Reader (n : Nat) (M : KM) : KM := townM (n + (1 + 0)) (mupd (M) n 1 (-1))
set_option maxRecDepth 100000 in
theorem ci_Reader {S1 : KS} {n : Nat} (hn : S1.length = n) {M : KM} (hz : kblk M n) : Cin y_Reader_init Y_Reader_init S1 ((7, kN 7), List.replicate (kN 7) none) M (blk_Reader n) (mem_Reader n M) := by
  subst hn
  unfold Cin
  have l1 : (S1 ++ [((7, kN 7), List.replicate (kN 7) none)]).length = S1.length + 1 := by rw [List.length_append]; rfl
  have l2 : (S1 ++ blk_Reader S1.length).length = S1.length + 20 := by rw [List.length_append, (bl_Reader _).1]
  have z1 : ksz (S1 ++ [((7, kN 7), List.replicate (kN 7) (none : Option Nat))]) = ksz S1 + 12 := by rw [ksz_app]; rfl
  have z2 : ksz (S1 ++ blk_Reader S1.length) = ksz S1 + 8186 := by rw [ksz_app, (bl_Reader _).2]
  refine ctr_ofL (α := Unit) (e := some ()) (a := ()) (κ := fun _ => .inr (none, S1 ++ blk_Reader S1.length, mem_Reader S1.length M)) md_Reader_init (Nat.le_of_ble_eq_true rfl) (by rw [l1, l2, z1, z2]; omega) 0 rfl rfl (fun _ G hG hi0 => ?_)
  have hi := hi0 rfl
  have g1 : G.2.2.1.2.2.1 = S1.length + 20 := by rw [hG]; exact l2
  have g2 : G.2.2.1.2.2.2 = ksz S1 + 8186 := by rw [hG]; exact z2
  show Sim G Y_Reader_init (some ()) (kC 0 [some (VR (some S1.length))] [] (S1 ++ (((7, kN 7), List.replicate (kN 7) none) :: [])) M) _
  refine s_aload_n (dt_Reader_init 0 _ _ _ rfl) rfl ?_
  refine s_objInit (dt_Reader_init 1 _ _ _ rfl) ko_Reader_3 ⟨kw_objI, kw_objC⟩ rfl ?_
  refine s_aload_n (dt_Reader_init 2 _ _ _ rfl) rfl ?_
  refine s_iconst (dt_Reader_init 3 _ _ _ rfl) rfl ?_
  refine i_put0 (dt_Reader_init 4 _ _ _ rfl) kv_Reader_9 ⟨rfl, rfl⟩ (hz _ (Nat.le_refl _) _) ?_
  refine s_aload_n (dt_Reader_init 5 _ _ _ rfl) rfl ?_
  refine s_iconst (dt_Reader_init 6 _ _ _ rfl) rfl ?_
  refine i_putI (dt_Reader_init 7 _ _ _ rfl) kv_Reader_15 ⟨rfl, rfl⟩ ?_
  refine s_aload_n (dt_Reader_init 8 _ _ _ rfl) rfl ?_
  refine i_new (c := 12) (j := 0) (z := 0) (w := 12) (dt_Reader_init 9 _ _ _ rfl) (by decide) kq_Reader_18 ⟨(apN).1, (apN).2, rfl⟩ ((hz.up (m := S1.length + (1 + 0)) (by omega)).upd (by omega)) ⟨by omega, by show _ + 17 ≤ _; omega⟩ ?_
  refine s_dup (dt_Reader_init 10 _ _ _ rfl) rfl ?_
  refine i_call (j := 0) (z := 0) (w := 12) (ja := 12) (za := 1750) (dt_Reader_init 11 _ _ _ rfl) rfl kin_Town_init rfl kw_Reader_20 md_Town_init rfl rfl ⟨(apN).1, (apN).2, rfl⟩ (bl_Town _) ⟨by decide, by decide⟩ (ci_Town (n := S1.length + (1 + 0)) (in_len (apN).1) ((hz.up (m := S1.length + (1 + 0)) (by omega)).upd (by omega))) ⟨by omega, by omega⟩ ?_
  refine i_putR hi (dt_Reader_init 12 _ _ _ rfl) kv_Reader_21 rfl ⟨rfl, rfl⟩ rfl ?_
  refine s_aload_n (dt_Reader_init 13 _ _ _ rfl) rfl ?_
  refine i_new (c := 11) (j := 12) (z := 1750) (w := 12) (dt_Reader_init 14 _ _ _ rfl) (by decide) kq_Reader_25 ⟨((apB (j' := 12) (z' := 1750) apN (bl_Town _) rfl rfl)).1, ((apB (j' := 12) (z' := 1750) apN (bl_Town _) rfl rfl)).2, rfl⟩ (((hz.up (m := S1.length + (1 + 12)) (by omega)).upd (by omega)).townM_up (by omega)) ⟨by omega, by show _ + 6 ≤ _; omega⟩ ?_
  refine s_dup (dt_Reader_init 15 _ _ _ rfl) rfl ?_
  refine i_call (j := 12) (z := 1750) (w := 12) (ja := 5) (za := 6410) (dt_Reader_init 16 _ _ _ rfl) rfl kin_Tokens_init rfl kw_Reader_27 md_Tokens_init rfl rfl ⟨((apB (j' := 12) (z' := 1750) apN (bl_Town _) rfl rfl)).1, ((apB (j' := 12) (z' := 1750) apN (bl_Town _) rfl rfl)).2, rfl⟩ (bl_Tokens _) ⟨by decide, by decide⟩ (ci_Tokens (n := S1.length + (1 + 12)) (in_len ((apB (j' := 12) (z' := 1750) apN (bl_Town _) rfl rfl)).1) (((hz.up (m := S1.length + (1 + 12)) (by omega)).upd (by omega)).townM_up (by omega))) ⟨by omega, by omega⟩ ?_
  refine i_putR hi (dt_Reader_init 17 _ _ _ rfl) kv_Reader_28 rfl ⟨rfl, rfl⟩ rfl ?_
  refine s_aload_n (dt_Reader_init 18 _ _ _ rfl) rfl ?_
  refine s_bipush (dt_Reader_init 19 _ _ _ rfl) rfl ?_
  refine i_newJ (j := 17) (z := 8160) (w := 12) (n := 8) (dt_Reader_init 20 _ _ _ rfl) rfl (by decide) kaJ ⟨((apB (j' := 17) (z' := 8160) (apB (j' := 12) (z' := 1750) apN (bl_Town _) rfl rfl) (bl_Tokens _) rfl rfl)).1, ((apB (j' := 17) (z' := 8160) (apB (j' := 12) (z' := 1750) apN (bl_Town _) rfl rfl) (bl_Tokens _) rfl rfl)).2, rfl⟩ (((hz.up (m := S1.length + (1 + 17)) (by omega)).upd (by omega)).townM_up (by omega)) ⟨by omega, by omega⟩ ?_
  refine i_putR hi (dt_Reader_init 21 _ _ _ rfl) kv_Reader_32 rfl ⟨rfl, rfl⟩ rfl ?_
  refine s_aload_n (dt_Reader_init 22 _ _ _ rfl) rfl ?_
  refine s_bipush (dt_Reader_init 23 _ _ _ rfl) rfl ?_
  refine i_newJ (j := 18) (z := 8168) (w := 12) (n := 6) (dt_Reader_init 24 _ _ _ rfl) rfl (by decide) kaJ ⟨((ap1 (j' := 18) (z' := 8168) (apB (j' := 17) (z' := 8160) (apB (j' := 12) (z' := 1750) apN (bl_Town _) rfl rfl) (bl_Tokens _) rfl rfl) rfl rfl)).1, ((ap1 (j' := 18) (z' := 8168) (apB (j' := 17) (z' := 8160) (apB (j' := 12) (z' := 1750) apN (bl_Town _) rfl rfl) (bl_Tokens _) rfl rfl) rfl rfl)).2, rfl⟩ (((hz.up (m := S1.length + (1 + 18)) (by omega)).upd (by omega)).townM_up (by omega)) ⟨by omega, by omega⟩ ?_
  refine i_putR hi (dt_Reader_init 25 _ _ _ rfl) kv_Reader_36 rfl ⟨rfl, rfl⟩ rfl ?_
  exact s_vret (dt_Reader_init 26 _ _ _ rfl) rfl rfl
