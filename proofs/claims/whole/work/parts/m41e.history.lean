/-! THE HISTORY'S CONSTRUCTOR: a row of 41 states -/
def y_History_init : MethodName := ⟨"YearHands$History", "<init>", "()V"⟩
abbrev Y_History_init : KY := ("YearHands$History", prog_6_method_1_code, 2, none, 2)
def D_History_init : List (Nat × Instr × Nat) := [(0, .aload_n 0, 1), (1, .invokespecial 3, 3), (4, .aload_n 0, 1), (5, .bipush 41, 2), (7, .anewarray 9, 3), (10, .putfield 11, 3), (13, .aload_n 0, 1), (14, .iconst 0, 1), (15, .putfield 17, 3), (18, .aload_n 0, 1), (19, .iconst 0, 1), (20, .putfield 21, 3), (23, .aload_n 0, 1), (24, .iconst 0, 1), (25, .putfield 24, 3), (28, .iconst 0, 1), (29, .istore_n 1, 1), (30, .iload_n 1, 1), (31, .aload_n 0, 1), (32, .getfield 11, 3), (35, .arraylength, 1), (36, .if_icmp .ge 22, 3), (39, .aload_n 0, 1), (40, .getfield 11, 3), (43, .iload_n 1, 1), (44, .new 9, 3), (47, .dup, 1), (48, .invokespecial 27, 3), (51, .aastore, 1), (52, .iinc 1 1, 3), (55, .goto (-25), 3), (58, .return_, 1)]
theorem dt_History_init : kDec prog_6_method_1_code D_History_init := kDec_of (by decide +kernel)
theorem md_History_init : KMd y_History_init Y_History_init 0 := ⟨⟨tb_at 450 (by decide +kernel), tb_at 147 (by decide +kernel)⟩, rfl, ⟨by decide, by decide, by decide⟩, by decide +kernel, by decide⟩
theorem kin_History_init : Cond.instanceMethod y_History_init ∈ tbg := tb_at 449 (by decide +kernel)
theorem kq_History_9 : Cond.classLink "YearHands$History" 9 "YearHands$State" ∈ tbg := tb_at 452 (by decide +kernel)
theorem ko_History_3 : Cond.methodLink "YearHands$History" 3 Lib.objectInit ∈ tbg := tb_at 451 (by decide +kernel)
theorem kw_History_27 : kML "YearHands$History" 27 y_State_init := Or.inr ⟨"YearHands", tb_at 454 (by decide +kernel)⟩
theorem kv_History_11 : (6 < 13 ∧ 0 < kN 6) ∧ Cond.fieldLink "YearHands$History" 11 (kT 6 0).1 (kT 6 0).2.1 (kT 6 0).2.2.1 ∈ tbg := ⟨⟨by decide, by decide⟩, tb_at 455 (by decide +kernel)⟩
theorem kv_History_17 : (6 < 13 ∧ 1 < kN 6) ∧ Cond.fieldLink "YearHands$History" 17 (kT 6 1).1 (kT 6 1).2.1 (kT 6 1).2.2.1 ∈ tbg := ⟨⟨by decide, by decide⟩, tb_at 456 (by decide +kernel)⟩
theorem kv_History_21 : (6 < 13 ∧ 2 < kN 6) ∧ Cond.fieldLink "YearHands$History" 21 (kT 6 2).1 (kT 6 2).2.1 (kT 6 2).2.2.1 ∈ tbg := ⟨⟨by decide, by decide⟩, tb_at 457 (by decide +kernel)⟩
theorem kv_History_24 : (6 < 13 ∧ 3 < kN 6) ∧ Cond.fieldLink "YearHands$History" 24 (kT 6 3).1 (kT 6 3).2.1 (kT 6 3).2.2.1 ∈ tbg := ⟨⟨by decide, by decide⟩, tb_at 459 (by decide +kernel)⟩
theorem in_get1 {S1 R : KS} {o q : KQ} : (S1 ++ (o :: q :: R))[S1.length + (1 + 0)]? = some q := by
  rw [List.getElem?_append_right (by omega), show S1.length + (1 + 0) - S1.length = 1 by omega]; rfl
theorem in_set1 {S1 R : KS} {o q q' : KQ} : (S1 ++ (o :: q :: R)).set (S1.length + (1 + 0)) q' = S1 ++ (o :: q' :: R) := by
  rw [List.set_append_right _ _ (by omega), show S1.length + (1 + 0) - S1.length = 1 by omega]; rfl
theorem in_getJ {S1 R A : KS} {o q : KQ} {j : Nat} (hR : R.length = j) : (S1 ++ (o :: (R ++ (q :: A))))[S1.length + (1 + j)]? = some q := by
  rw [List.getElem?_append_right (by omega), show S1.length + (1 + j) - S1.length = j + 1 by omega, List.getElem?_cons_succ, List.getElem?_append_right (by omega), hR, Nat.sub_self]; rfl
def hrefs (n : Nat) : Nat → List (Option Nat)
  | 0 => List.replicate 41 none
  | i + 1 => (hrefs n i).set i (some (n + (1 + (1 + 7 * i))))
def stL (n : Nat) : Nat → KS
  | 0 => []
  | i + 1 => stL n i ++ blk_State (n + (1 + (1 + 7 * i)))
theorem hrefs_len (n : Nat) : ∀ i, (hrefs n i).length = 41
  | 0 => List.length_replicate
  | i + 1 => by show ((hrefs n i).set i _).length = 41; rw [List.length_set]; exact hrefs_len n i
theorem stL_len (n : Nat) : ∀ i, (stL n i).length = 7 * i ∧ ksz (stL n i) = 149 * i
  | 0 => ⟨rfl, rfl⟩
  | i + 1 => apB (stL_len n i) (bl_State _) (by omega) (by omega)
theorem stR_len (n i : Nat) (rs : List (Option Nat)) : (((24, 41), rs) :: stL n i : KS).length = 1 + 7 * i ∧ ksz (((24, 41), rs) :: stL n i) = 41 + 149 * i := ap0 rfl (stL_len n i) rfl rfl
def blk_History (n : Nat) : KS := ((6, 4), [some (n + (1 + 0)), none, none, none]) :: (((24, 41), hrefs n 41) :: stL n 41)
theorem bl_History (n : Nat) : (blk_History n).length = 289 ∧ ksz (blk_History n) = 6154 := ap0 (w := 4) rfl (stR_len n 41 _) rfl rfl
theorem s_no {α : Type} {G : Gam} {Y : KY} {cf : KCf} {κ : α → KCf} : Sim G Y none cf κ := fun _ _ h => by cases h
theorem hist_loop {S1 : KS} {M : KM} {G : Gam} (hz : kblk M S1.length) (g1 : G.2.2.1.2.2.1 = S1.length + 289) (g2 : G.2.2.1.2.2.2 = ksz S1 + 6154) : ∀ k i : Nat, i + k = 41 → Sim G Y_History_init (some ()) (kC 30 [some (VR (some S1.length)), some (VI (i : Int))] [] (S1 ++ (((6, 4), [some (S1.length + (1 + 0)), none, none, none]) :: (((24, 41), hrefs S1.length i) :: stL S1.length i))) M) (fun _ => .inr (none, S1 ++ blk_History S1.length, M)) := by
  intro k
  induction k with
  | zero =>
    intro i hi
    have : i = 41 := by omega
    subst this
    refine s_iload_n (dt_History_init 17 _ _ _ rfl) rfl ?_
    refine s_aload_n (dt_History_init 18 _ _ _ rfl) rfl ?_
    refine s_getR (c := 6) (j := 0) (o := some (S1.length + (1 + 0))) (dt_History_init 19 _ _ _ rfl) kf_History_11 in_get rfl rfl ?_
    refine s_alen (N := 41) (dt_History_init 20 _ _ _ rfl) in_get1 rfl rfl (by decide) ?_
    rw [show (some () : Option Unit) = (if ((41 : Nat) : Int) < 41 then none else some ()) from rfl]
    refine s_if_icmp_ge (tgt := 58) (dt_History_init 21 _ _ _ rfl) rfl s_no ?_
    exact s_vret (dt_History_init 31 _ _ _ rfl) rfl rfl
  | succ k ih =>
    intro i hi
    refine s_iload_n (dt_History_init 17 _ _ _ rfl) rfl ?_
    refine s_aload_n (dt_History_init 18 _ _ _ rfl) rfl ?_
    refine s_getR (c := 6) (j := 0) (o := some (S1.length + (1 + 0))) (dt_History_init 19 _ _ _ rfl) kf_History_11 in_get rfl rfl ?_
    refine s_alen (N := 41) (dt_History_init 20 _ _ _ rfl) in_get1 rfl rfl (by decide) ?_
    rw [show (some () : Option Unit) = (if (i : Int) < 41 then some () else none) from (if_pos (by omega)).symm]
    refine s_if_icmp_ge (tgt := 58) (dt_History_init 21 _ _ _ rfl) rfl ?_ s_no
    refine s_aload_n (dt_History_init 22 _ _ _ rfl) rfl ?_
    refine s_getR (c := 6) (j := 0) (o := some (S1.length + (1 + 0))) (dt_History_init 23 _ _ _ rfl) kf_History_11 in_get rfl rfl ?_
    refine s_iload_n (dt_History_init 24 _ _ _ rfl) rfl ?_
    refine i_new (c := 10) (j := 1 + 7 * i) (z := 41 + 149 * i) (w := 4) (dt_History_init 25 _ _ _ rfl) (by decide) kq_History_9 ⟨(stR_len S1.length i _).1, (stR_len S1.length i _).2, rfl⟩ (hz.up (by omega)) ⟨by omega, by show _ + 13 ≤ _; omega⟩ ?_
    refine s_dup (dt_History_init 26 _ _ _ rfl) rfl ?_
    refine i_call (j := 1 + 7 * i) (z := 41 + 149 * i) (w := 4) (ja := 7) (za := 149) (dt_History_init 27 _ _ _ rfl) rfl kin_State_init rfl kw_History_27 md_State_init rfl rfl ⟨(stR_len S1.length i _).1, (stR_len S1.length i _).2, rfl⟩ (bl_State _) ⟨by decide, by decide⟩ (ci_State (n := S1.length + (1 + (1 + 7 * i))) (in_len (stR_len S1.length i _).1) (hz.up (by omega))) ⟨by omega, by omega⟩ ?_
    rw [show (some () : Option Unit) = (if 0 ≤ (i : Int) ∧ (i : Int) < 41 then some () else none) from (if_pos (by omega)).symm]
    refine s_aastq (n2 := 13) (dt_History_init 28 _ _ _ rfl) (in_get1 (R := stL S1.length i ++ blk_State (S1.length + (1 + (1 + 7 * i))))) (in_getJ (R := ((24, 41), hrefs S1.length i) :: stL S1.length i) (stR_len S1.length i _).1) rfl (hrefs_len _ _) ?_
    rw [Int.toNat_natCast, show (S1 ++ (((6, 4), [some (S1.length + (1 + 0)), none, none, none]) :: ((((24, 41), hrefs S1.length i) :: stL S1.length i) ++ blk_State (S1.length + (1 + (1 + 7 * i)))))).set (S1.length + (1 + 0)) ((24, 41), (hrefs S1.length i).set i (some (S1.length + (1 + (1 + 7 * i))))) = S1 ++ (((6, 4), [some (S1.length + (1 + 0)), none, none, none]) :: (((24, 41), hrefs S1.length (i + 1)) :: stL S1.length (i + 1))) from in_set1]
    refine s_iinc (dt_History_init 29 _ _ _ rfl) rfl rfl ?_
    refine s_goto (tgt := 30) (dt_History_init 30 _ _ _ rfl) rfl ?_
    have e : w32 ((i : Int) + 1) = ((i + 1 : Nat) : Int) := by rw [w32e (by omega) (by omega)]; omega
    show Sim G Y_History_init (some ()) (kC 30 [some (VR (some S1.length)), some (VI (w32 ((i : Int) + 1)))] [] _ M) _
    rw [e]
    exact ih (i + 1) (by omega)
set_option maxRecDepth 100000 in
theorem ci_History {S1 : KS} {n : Nat} (hn : S1.length = n) {M : KM} (hz : kblk M n) : Cin y_History_init Y_History_init S1 ((6, kN 6), List.replicate (kN 6) none) M (blk_History n) M := by
  subst hn
  unfold Cin
  have l1 : (S1 ++ [((6, kN 6), List.replicate (kN 6) none)]).length = S1.length + 1 := by rw [List.length_append]; rfl
  have l2 : (S1 ++ blk_History S1.length).length = S1.length + 289 := by rw [List.length_append, (bl_History _).1]
  have z1 : ksz (S1 ++ [((6, kN 6), List.replicate (kN 6) (none : Option Nat))]) = ksz S1 + 4 := by rw [ksz_app]; rfl
  have z2 : ksz (S1 ++ blk_History S1.length) = ksz S1 + 6154 := by rw [ksz_app, (bl_History _).2]
  refine ctr_ofL (α := Unit) (e := some ()) (a := ()) (κ := fun _ => .inr (none, S1 ++ blk_History S1.length, M)) md_History_init (Nat.le_of_ble_eq_true rfl) (by rw [l1, l2, z1, z2]; omega) 1 rfl rfl (fun _ G hG hi0 => ?_)
  have hi := hi0 rfl
  have g1 : G.2.2.1.2.2.1 = S1.length + 289 := by rw [hG]; exact l2
  have g2 : G.2.2.1.2.2.2 = ksz S1 + 6154 := by rw [hG]; exact z2
  show Sim G Y_History_init (some ()) (kC 0 [some (VR (some S1.length)), none] [] (S1 ++ (((6, kN 6), List.replicate (kN 6) none) :: [])) M) _
  refine s_aload_n (dt_History_init 0 _ _ _ rfl) rfl ?_
  refine s_objInit (dt_History_init 1 _ _ _ rfl) ko_History_3 ⟨kw_objI, kw_objC⟩ rfl ?_
  refine s_aload_n (dt_History_init 2 _ _ _ rfl) rfl ?_
  refine s_bipush (dt_History_init 3 _ _ _ rfl) rfl ?_
  refine i_newQ (j := 0) (z := 0) (w := 4) (n := 41) (dt_History_init 4 _ _ _ rfl) rfl (by decide) kq_History_9 ⟨apN.1, apN.2, rfl⟩ (hz.up (by omega)) ⟨by omega, by omega⟩ ?_
  refine i_putR hi (dt_History_init 5 _ _ _ rfl) kv_History_11 rfl ⟨rfl, rfl⟩ rfl ?_
  refine s_aload_n (dt_History_init 6 _ _ _ rfl) rfl ?_
  refine s_iconst (dt_History_init 7 _ _ _ rfl) rfl ?_
  refine i_put0 (dt_History_init 8 _ _ _ rfl) kv_History_17 ⟨rfl, rfl⟩ (hz _ (Nat.le_refl _) _) ?_
  refine s_aload_n (dt_History_init 9 _ _ _ rfl) rfl ?_
  refine s_iconst (dt_History_init 10 _ _ _ rfl) rfl ?_
  refine i_put0 (dt_History_init 11 _ _ _ rfl) kv_History_21 ⟨rfl, rfl⟩ (hz _ (Nat.le_refl _) _) ?_
  refine s_aload_n (dt_History_init 12 _ _ _ rfl) rfl ?_
  refine s_iconst (dt_History_init 13 _ _ _ rfl) rfl ?_
  refine i_put0 (dt_History_init 14 _ _ _ rfl) kv_History_24 ⟨rfl, rfl⟩ (hz _ (Nat.le_refl _) _) ?_
  refine s_iconst (dt_History_init 15 _ _ _ rfl) rfl ?_
  refine s_istore_n (dt_History_init 16 _ _ _ rfl) rfl ?_
  exact hist_loop hz g1 g2 41 0 rfl
