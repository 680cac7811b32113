section KR2
variable {α : Type} {G : Gam} {Y : KY} {e e1 e2 : Option α} {κ : α → KCf} {pc : Nat} {ls : List (Option KV)} {st : List KV} {S : KS} {M : KM}
theorem kst_hI {n : Int} {st : List KV} (h : kst (VI n :: st)) : R32 n := kst_hd h
theorem s_ishl {x y : Int} (hd : decode Y.2.1 pc = .ok (.ishl, 1)) (k : Sim G Y e (kC (pc + 1) ls (VI (kishl x y) :: st) S M) κ) : Sim G Y e (kC pc ls (VI y :: VI x :: st) S M) κ :=
  s_pure (st' := VI (kishl x y) :: st) (fun _ _ _ _ _ _ _ _ _ _ _ _ _ _ _ _ _ hx hb hs k => lv_ishl hx hb hd (by have k := k; simp only [List.map_cons, kconv] at k ⊢; rwa [kishl, Int32.ofInt_toInt] at k)) (fun h => kst_I (R32_i _) (kst_tl (kst_tl h))) k
theorem s_ishr {x y : Int} (hd : decode Y.2.1 pc = .ok (.ishr, 1)) (k : Sim G Y e (kC (pc + 1) ls (VI (kishr x y) :: st) S M) κ) : Sim G Y e (kC pc ls (VI y :: VI x :: st) S M) κ :=
  s_pure (st' := VI (kishr x y) :: st) (fun _ _ _ _ _ _ _ _ _ _ _ _ _ _ _ _ _ hx hb hs k => lv_ishr hx hb hd (by have k := k; simp only [List.map_cons, kconv] at k ⊢; rwa [kishr, Int32.ofInt_toInt] at k)) (fun h => kst_I (R32_i _) (kst_tl (kst_tl h))) k
theorem s_iushr {x y : Int} (hd : decode Y.2.1 pc = .ok (.iushr, 1)) (k : Sim G Y e (kC (pc + 1) ls (VI (kiushr x y) :: st) S M) κ) : Sim G Y e (kC pc ls (VI y :: VI x :: st) S M) κ :=
  s_pure (st' := VI (kiushr x y) :: st) (fun _ _ _ _ _ _ _ _ _ _ _ _ _ _ _ _ _ hx hb hs k => lv_iushr hx hb hd rfl (by have k := k; simp only [List.map_cons, kconv] at k ⊢; rwa [kiushr, Int32.ofInt_toInt] at k)) (fun h => kst_I (R32_i _) (kst_tl (kst_tl h))) k
theorem s_ineg {x : Int} (hd : decode Y.2.1 pc = .ok (.ineg, 1)) (k : Sim G Y e (kC (pc + 1) ls (VI (w32 (-x)) :: st) S M) κ) : Sim G Y e (kC pc ls (VI x :: st) S M) κ :=
  s_pure (st' := VI (w32 (-x)) :: st) (fun _ _ _ _ _ _ _ _ _ _ _ _ _ _ _ _ _ hx hb hs k => lv_ineg hx hb hd (by have k := k; simp only [List.map_cons, kconv] at k ⊢; rwa [w32_of, Int32.ofInt_neg] at k)) (fun h => kst_I (w32_R _) (kst_tl h)) k
theorem s_i2b {x : Int} (hd : decode Y.2.1 pc = .ok (.i2b, 1)) (k : Sim G Y e (kC (pc + 1) ls (VI (kw8 x) :: st) S M) κ) : Sim G Y e (kC pc ls (VI x :: st) S M) κ :=
  s_pure (st' := VI (kw8 x) :: st) (fun _ _ _ _ _ _ _ _ _ _ _ _ _ _ _ _ _ hx hb hs k => lv_i2b hx hb hd rfl (by have k := k; simp only [List.map_cons, kconv] at k ⊢; rwa [kw8_of] at k)) (fun h => kst_I (by have := kw8_R x; constructor <;> omega) (kst_tl h)) k
theorem s_i2c {x : Int} (hd : decode Y.2.1 pc = .ok (.i2c, 1)) (k : Sim G Y e (kC (pc + 1) ls (VI (kc16 x) :: st) S M) κ) : Sim G Y e (kC pc ls (VI x :: st) S M) κ :=
  s_pure (st' := VI (kc16 x) :: st) (fun _ _ _ _ _ _ _ _ _ _ _ _ _ _ _ _ _ hx hb hs k => lv_i2c hx hb hd rfl (by have k := k; simp only [List.map_cons, kconv] at k ⊢; rwa [kc16, Int32.ofInt_toInt] at k)) (fun h => kst_I (R32_i _) (kst_tl h)) k
theorem s_i2l {x : Int} (hd : decode Y.2.1 pc = .ok (.i2l, 1)) (k : Sim G Y e (kC (pc + 1) ls (VJ x :: st) S M) κ) : Sim G Y e (kC pc ls (VI x :: st) S M) κ :=
  s_pure (st' := VJ x :: st) (fun _ _ _ _ _ _ _ _ _ _ _ _ _ _ _ _ _ hx hb hs k => lv_i2l hx hb hd (v := Int64.ofInt x) (by
    have h : R32 x := kst_hd hs
    apply Int64.toInt_inj.mp
    rw [Int32.toInt_toInt64, R32_toInt h, R64_toInt (by unfold R32 at h; constructor <;> omega)]) k) (fun h => kst_J (by have h : R32 x := kst_hd h; unfold R32 at h; constructor <;> omega) (kst_tl h)) k
theorem s_ladd {x y : Int} (hd : decode Y.2.1 pc = .ok (.ladd, 1)) (k : Sim G Y e (kC (pc + 1) ls (VJ (w64 (x + y)) :: st) S M) κ) : Sim G Y e (kC pc ls (VJ y :: VJ x :: st) S M) κ :=
  s_pure (st' := VJ (w64 (x + y)) :: st) (fun _ _ _ _ _ _ _ _ _ _ _ _ _ _ _ _ _ hx hb hs k => lv_ladd hx hb hd (by have k := k; simp only [List.map_cons, kconv] at k ⊢; rwa [w64_of, Int64.ofInt_add] at k)) (fun h => kst_J (w64_R _) (kst_tl (kst_tl h))) k
theorem s_lmul {x y : Int} (hd : decode Y.2.1 pc = .ok (.lmul, 1)) (k : Sim G Y e (kC (pc + 1) ls (VJ (w64 (x * y)) :: st) S M) κ) : Sim G Y e (kC pc ls (VJ y :: VJ x :: st) S M) κ :=
  s_pure (st' := VJ (w64 (x * y)) :: st) (fun _ _ _ _ _ _ _ _ _ _ _ _ _ _ _ _ _ hx hb hs k => lv_lmul hx hb hd (by have k := k; simp only [List.map_cons, kconv] at k ⊢; rwa [w64_of, Int64.ofInt_mul] at k)) (fun h => kst_J (w64_R _) (kst_tl (kst_tl h))) k
theorem s_lor {x y : Int} (hd : decode Y.2.1 pc = .ok (.lor, 1)) (k : Sim G Y e (kC (pc + 1) ls (VJ (klor x y) :: st) S M) κ) : Sim G Y e (kC pc ls (VJ y :: VJ x :: st) S M) κ :=
  s_pure (st' := VJ (klor x y) :: st) (fun _ _ _ _ _ _ _ _ _ _ _ _ _ _ _ _ _ hx hb hs k => lv_lor hx hb hd (by have k := k; simp only [List.map_cons, kconv] at k ⊢; rwa [klor, Int64.ofInt_toInt] at k)) (fun h => kst_J (R64_i _) (kst_tl (kst_tl h))) k
theorem s_lshl {x y : Int} (hd : decode Y.2.1 pc = .ok (.lshl, 1)) (k : Sim G Y e (kC (pc + 1) ls (VJ (klshl x y) :: st) S M) κ) : Sim G Y e (kC pc ls (VI y :: VJ x :: st) S M) κ :=
  s_pure (st' := VJ (klshl x y) :: st) (fun _ _ _ _ _ _ _ _ _ _ _ _ _ _ _ _ _ hx hb hs k => lv_lshl hx hb hd rfl (by have k := k; simp only [List.map_cons, kconv] at k ⊢; rwa [klshl, Int64.ofInt_toInt] at k)) (fun h => kst_J (R64_i _) (kst_tl (kst_tl h))) k
theorem klcmp_of {x y : Int} (h1 : R64 x) (h2 : R64 y) : lg_cmp (Int64.ofInt x) (Int64.ofInt y) = Int32.ofInt (klcmp x y) := by
  have e1 : (Int64.ofInt x > Int64.ofInt y) ↔ x > y := by
    show (Int64.ofInt y < Int64.ofInt x) ↔ _
    rw [Int64.lt_iff_toInt_lt, R64_toInt h1, R64_toInt h2]
  have e2 : (Int64.ofInt x = Int64.ofInt y) ↔ x = y := by
    rw [← Int64.toInt_inj, R64_toInt h1, R64_toInt h2]
  unfold lg_cmp klcmp
  simp only [e1, e2]
  by_cases h : x < y
  · rw [if_neg (by omega), if_neg (by omega), if_pos h]; rfl
  · rw [if_neg h]
    by_cases h' : x = y
    · rw [if_neg (by omega), if_pos h', if_pos h']; rfl
    · rw [if_pos (by omega), if_neg h']; rfl
theorem s_lcmp {x y : Int} (hd : decode Y.2.1 pc = .ok (.lcmp, 1)) (k : Sim G Y e (kC (pc + 1) ls (VI (klcmp x y) :: st) S M) κ) : Sim G Y e (kC pc ls (VJ y :: VJ x :: st) S M) κ :=
  s_pure (st' := VI (klcmp x y) :: st) (fun _ _ _ _ _ _ _ _ _ _ _ _ _ _ _ _ _ hx hb hs k => W.lcmp hx hb hd (by have k := k; simp only [List.map_cons, kconv] at k ⊢; rwa [← klcmp_of (kst_hd (kst_tl hs)) (kst_hd hs)] at k)) (fun h => kst_I (klcmp_R _ _) (kst_tl (kst_tl h))) k
theorem s_dup {v : KV} (hd : decode Y.2.1 pc = .ok (.dup, 1)) (hv : kcat v = 1) (k : Sim G Y e (kC (pc + 1) ls (v :: v :: st) S M) κ) : Sim G Y e (kC pc ls (v :: st) S M) κ :=
  s_pure (st' := v :: v :: st) (fun _ _ _ _ _ _ _ _ _ _ _ _ _ _ _ _ _ hx hb hs k => lv_dup hx hb hd (by rw [kconv_cat]; exact hv) k) (fun h => kst_cons (kst_hd h) h) k
theorem s_dup2 {v w : KV} (hd : decode Y.2.1 pc = .ok (.dup2, 1)) (hv : kcat v = 1) (hw : kcat w = 1) (k : Sim G Y e (kC (pc + 1) ls (v :: w :: v :: w :: st) S M) κ) : Sim G Y e (kC pc ls (v :: w :: st) S M) κ :=
  s_pure (st' := v :: w :: v :: w :: st) (fun _ _ _ _ _ _ _ _ _ _ _ _ _ _ _ _ _ hx hb hs k => lv_dup2_11 hx hb hd (by rw [kconv_cat]; exact hv) (by rw [kconv_cat]; exact hw) k) (fun h => kst_cons (kst_hd h) (kst_cons (kst_hd (kst_tl h)) h)) k
theorem s_idiv {x y : Int} (hd : decode Y.2.1 pc = .ok (.idiv, 1)) (k : Sim G Y e (kC (pc + 1) ls (VI (kdiv x y) :: st) S M) κ) : Sim G Y (if y = 0 then none else e) (kC pc ls (VI y :: VI x :: st) S M) κ := by
  intro hG a ha
  by_cases hy : y = 0
  · rw [if_pos hy] at ha; cases ha
  · rw [if_neg hy] at ha
    exact s_pure (st' := VI (kdiv x y) :: st) (fun _ _ _ _ _ _ _ _ _ _ _ _ _ _ _ _ _ hx hb hs k => lv_idiv hx hb hd (fun q => hy ((i32_eq (kst_hI hs) R32_0).mp q)) (by have k := k; simp only [List.map_cons, kconv] at k ⊢; rwa [kdiv, Int32.ofInt_toInt] at k)) (fun h => kst_I (R32_i _) (kst_tl (kst_tl h))) k hG a ha
theorem s_irem {x y : Int} (hd : decode Y.2.1 pc = .ok (.irem, 1)) (k : Sim G Y e (kC (pc + 1) ls (VI (krem x y) :: st) S M) κ) : Sim G Y (if y = 0 then none else e) (kC pc ls (VI y :: VI x :: st) S M) κ := by
  intro hG a ha
  by_cases hy : y = 0
  · rw [if_pos hy] at ha; cases ha
  · rw [if_neg hy] at ha
    exact s_pure (st' := VI (krem x y) :: st) (fun _ _ _ _ _ _ _ _ _ _ _ _ _ _ _ _ _ hx hb hs k => lv_irem hx hb hd (fun q => hy ((i32_eq (kst_hI hs) R32_0).mp q)) (by have k := k; simp only [List.map_cons, kconv] at k ⊢; rwa [krem, Int32.ofInt_toInt] at k)) (fun h => kst_I (R32_i _) (kst_tl (kst_tl h))) k hG a ha
theorem s_goto {off : Int} {tgt : Nat} (hd : decode Y.2.1 pc = .ok (.goto off, 3)) (ht : (pc : Int) + off = (tgt : Int)) (k : Sim G Y e (kC tgt ls st S M) κ) : Sim G Y e (kC pc ls st S M) κ :=
  s_pure (fun _ _ _ _ _ _ _ _ _ _ _ _ _ _ _ _ _ hx hb hs k => lv_goto hx hb hd ht k) id k
theorem s_ifnull {x : Nat} {off : Int} (hd : decode Y.2.1 pc = .ok (.ifnull off, 3)) (k : Sim G Y e (kC (pc + 3) ls st S M) κ) : Sim G Y e (kC pc ls (VR (some x) :: st) S M) κ :=
  s_pure (fun _ _ _ _ _ _ _ _ _ _ _ _ _ _ _ _ _ hx hb hs k => lv_ifnull hx hb hd k) kst_tl k
theorem s_ifnonnull {x : Nat} {off : Int} {tgt : Nat} (hd : decode Y.2.1 pc = .ok (.ifnonnull off, 3)) (ht : (pc : Int) + off = (tgt : Int)) (k : Sim G Y e (kC tgt ls st S M) κ) : Sim G Y e (kC pc ls (VR (some x) :: st) S M) κ :=
  s_pure (fun _ _ _ _ _ _ _ _ _ _ _ _ _ _ _ _ _ hx hb hs k => lv_ifnonnull hx hb hd ht k) kst_tl k
theorem s_ifnullN {off : Int} {tgt : Nat} (hd : decode Y.2.1 pc = .ok (.ifnull off, 3)) (ht : (pc : Int) + off = (tgt : Int)) (k : Sim G Y e (kC tgt ls st S M) κ) : Sim G Y e (kC pc ls (VR none :: st) S M) κ :=
  s_pure (fun _ _ _ _ _ _ _ _ _ _ _ _ _ _ _ _ _ hx hb hs k => lv_ifnullN hx hb hd ht k) kst_tl k
theorem s_ifnonnullN {off : Int} (hd : decode Y.2.1 pc = .ok (.ifnonnull off, 3)) (k : Sim G Y e (kC (pc + 3) ls st S M) κ) : Sim G Y e (kC pc ls (VR none :: st) S M) κ :=
  s_pure (fun _ _ _ _ _ _ _ _ _ _ _ _ _ _ _ _ _ hx hb hs k => lv_ifnonnullN hx hb hd k) kst_tl k

theorem s_if_icmp_eq {x y : Int} {off : Int} {tgt : Nat} (hd : decode Y.2.1 pc = .ok (.if_icmp .eq off, 3)) (ht : (pc : Int) + off = (tgt : Int)) (k1 : Sim G Y e1 (kC tgt ls st S M) κ) (k2 : Sim G Y e2 (kC (pc + 3) ls st S M) κ) : Sim G Y (if x = y then e1 else e2) (kC pc ls (VI y :: VI x :: st) S M) κ :=
  s_br (P := x = y) (st' := st) (fun _ _ _ _ _ _ _ _ _ _ _ _ _ _ _ _ _ hx hb hs k1 k2 => lv_icmp_eq hx hb hd ht (fun q => k1 ((i32_eq (kst_hd (kst_tl hs)) (kst_hd hs)).mp q)) (fun q => k2 (fun h => q ((i32_eq (kst_hd (kst_tl hs)) (kst_hd hs)).mpr h)))) (fun h => kst_tl (kst_tl h)) k1 k2
theorem s_if_eq {x : Int} {off : Int} {tgt : Nat} (hd : decode Y.2.1 pc = .ok (.ifCond .eq off, 3)) (ht : (pc : Int) + off = (tgt : Int)) (k1 : Sim G Y e1 (kC tgt ls st S M) κ) (k2 : Sim G Y e2 (kC (pc + 3) ls st S M) κ) : Sim G Y (if x = 0 then e1 else e2) (kC pc ls (VI x :: st) S M) κ :=
  s_br (P := x = 0) (st' := st) (fun _ _ _ _ _ _ _ _ _ _ _ _ _ _ _ _ _ hx hb hs k1 k2 => lv_if_eq hx hb hd ht (fun q => k1 ((i32_eq (kst_hd hs) R32_0).mp q)) (fun q => k2 (fun h => q ((i32_eq (kst_hd hs) R32_0).mpr h)))) kst_tl k1 k2
theorem s_if_icmp_ne {x y : Int} {off : Int} {tgt : Nat} (hd : decode Y.2.1 pc = .ok (.if_icmp .ne off, 3)) (ht : (pc : Int) + off = (tgt : Int)) (k1 : Sim G Y e1 (kC (pc + 3) ls st S M) κ) (k2 : Sim G Y e2 (kC tgt ls st S M) κ) : Sim G Y (if x = y then e1 else e2) (kC pc ls (VI y :: VI x :: st) S M) κ :=
  s_br (P := x = y) (st' := st) (fun _ _ _ _ _ _ _ _ _ _ _ _ _ _ _ _ _ hx hb hs k1 k2 => lv_icmp_ne hx hb hd ht (fun q => k2 (fun h => q ((i32_eq (kst_hd (kst_tl hs)) (kst_hd hs)).mpr h))) (fun q => k1 ((i32_eq (kst_hd (kst_tl hs)) (kst_hd hs)).mp q))) (fun h => kst_tl (kst_tl h)) k1 k2
theorem s_if_ne {x : Int} {off : Int} {tgt : Nat} (hd : decode Y.2.1 pc = .ok (.ifCond .ne off, 3)) (ht : (pc : Int) + off = (tgt : Int)) (k1 : Sim G Y e1 (kC (pc + 3) ls st S M) κ) (k2 : Sim G Y e2 (kC tgt ls st S M) κ) : Sim G Y (if x = 0 then e1 else e2) (kC pc ls (VI x :: st) S M) κ :=
  s_br (P := x = 0) (st' := st) (fun _ _ _ _ _ _ _ _ _ _ _ _ _ _ _ _ _ hx hb hs k1 k2 => lv_if_ne hx hb hd ht (fun q => k2 (fun h => q ((i32_eq (kst_hd hs) R32_0).mpr h))) (fun q => k1 ((i32_eq (kst_hd hs) R32_0).mp q))) kst_tl k1 k2
theorem s_if_icmp_lt {x y : Int} {off : Int} {tgt : Nat} (hd : decode Y.2.1 pc = .ok (.if_icmp .lt off, 3)) (ht : (pc : Int) + off = (tgt : Int)) (k1 : Sim G Y e1 (kC tgt ls st S M) κ) (k2 : Sim G Y e2 (kC (pc + 3) ls st S M) κ) : Sim G Y (if x < y then e1 else e2) (kC pc ls (VI y :: VI x :: st) S M) κ :=
  s_br (P := x < y) (st' := st) (fun _ _ _ _ _ _ _ _ _ _ _ _ _ _ _ _ _ hx hb hs k1 k2 => lv_icmp_lt hx hb hd ht (fun q => k1 ((i32_lt (kst_hd (kst_tl hs)) (kst_hd hs)).mp q)) (fun q => k2 (fun h => q ((i32_lt (kst_hd (kst_tl hs)) (kst_hd hs)).mpr h)))) (fun h => kst_tl (kst_tl h)) k1 k2
theorem s_if_lt {x : Int} {off : Int} {tgt : Nat} (hd : decode Y.2.1 pc = .ok (.ifCond .lt off, 3)) (ht : (pc : Int) + off = (tgt : Int)) (k1 : Sim G Y e1 (kC tgt ls st S M) κ) (k2 : Sim G Y e2 (kC (pc + 3) ls st S M) κ) : Sim G Y (if x < 0 then e1 else e2) (kC pc ls (VI x :: st) S M) κ :=
  s_br (P := x < 0) (st' := st) (fun _ _ _ _ _ _ _ _ _ _ _ _ _ _ _ _ _ hx hb hs k1 k2 => lv_if_lt hx hb hd ht (fun q => k1 ((i32_lt (kst_hd hs) R32_0).mp q)) (fun q => k2 (fun h => q ((i32_lt (kst_hd hs) R32_0).mpr h)))) kst_tl k1 k2
theorem s_if_icmp_ge {x y : Int} {off : Int} {tgt : Nat} (hd : decode Y.2.1 pc = .ok (.if_icmp .ge off, 3)) (ht : (pc : Int) + off = (tgt : Int)) (k1 : Sim G Y e1 (kC (pc + 3) ls st S M) κ) (k2 : Sim G Y e2 (kC tgt ls st S M) κ) : Sim G Y (if x < y then e1 else e2) (kC pc ls (VI y :: VI x :: st) S M) κ :=
  s_br (P := x < y) (st' := st) (fun _ _ _ _ _ _ _ _ _ _ _ _ _ _ _ _ _ hx hb hs k1 k2 => lv_icmp_ge hx hb hd ht (fun q => k2 (by have := (i32_le (kst_hd hs) (kst_hd (kst_tl hs))).mp q; omega)) (fun q => k1 (Decidable.byContradiction fun h => q ((i32_le (kst_hd hs) (kst_hd (kst_tl hs))).mpr (by omega))))) (fun h => kst_tl (kst_tl h)) k1 k2
theorem s_if_ge {x : Int} {off : Int} {tgt : Nat} (hd : decode Y.2.1 pc = .ok (.ifCond .ge off, 3)) (ht : (pc : Int) + off = (tgt : Int)) (k1 : Sim G Y e1 (kC (pc + 3) ls st S M) κ) (k2 : Sim G Y e2 (kC tgt ls st S M) κ) : Sim G Y (if x < 0 then e1 else e2) (kC pc ls (VI x :: st) S M) κ :=
  s_br (P := x < 0) (st' := st) (fun _ _ _ _ _ _ _ _ _ _ _ _ _ _ _ _ _ hx hb hs k1 k2 => lv_if_ge hx hb hd ht (fun q => k2 (by have := (i32_le R32_0 (kst_hd hs)).mp q; omega)) (fun q => k1 (Decidable.byContradiction fun h => q ((i32_le R32_0 (kst_hd hs)).mpr (by omega))))) kst_tl k1 k2
theorem s_if_icmp_gt {x y : Int} {off : Int} {tgt : Nat} (hd : decode Y.2.1 pc = .ok (.if_icmp .gt off, 3)) (ht : (pc : Int) + off = (tgt : Int)) (k1 : Sim G Y e1 (kC (pc + 3) ls st S M) κ) (k2 : Sim G Y e2 (kC tgt ls st S M) κ) : Sim G Y (if x ≤ y then e1 else e2) (kC pc ls (VI y :: VI x :: st) S M) κ :=
  s_br (P := x ≤ y) (st' := st) (fun _ _ _ _ _ _ _ _ _ _ _ _ _ _ _ _ _ hx hb hs k1 k2 => lv_icmp_gt hx hb hd ht (fun q => k2 (by have := (i32_lt (kst_hd hs) (kst_hd (kst_tl hs))).mp q; omega)) (fun q => k1 (Decidable.byContradiction fun h => q ((i32_lt (kst_hd hs) (kst_hd (kst_tl hs))).mpr (by omega))))) (fun h => kst_tl (kst_tl h)) k1 k2
theorem s_if_gt {x : Int} {off : Int} {tgt : Nat} (hd : decode Y.2.1 pc = .ok (.ifCond .gt off, 3)) (ht : (pc : Int) + off = (tgt : Int)) (k1 : Sim G Y e1 (kC (pc + 3) ls st S M) κ) (k2 : Sim G Y e2 (kC tgt ls st S M) κ) : Sim G Y (if x ≤ 0 then e1 else e2) (kC pc ls (VI x :: st) S M) κ :=
  s_br (P := x ≤ 0) (st' := st) (fun _ _ _ _ _ _ _ _ _ _ _ _ _ _ _ _ _ hx hb hs k1 k2 => lv_if_gt hx hb hd ht (fun q => k2 (by have := (i32_lt R32_0 (kst_hd hs)).mp q; omega)) (fun q => k1 (Decidable.byContradiction fun h => q ((i32_lt R32_0 (kst_hd hs)).mpr (by omega))))) kst_tl k1 k2
theorem s_if_icmp_le {x y : Int} {off : Int} {tgt : Nat} (hd : decode Y.2.1 pc = .ok (.if_icmp .le off, 3)) (ht : (pc : Int) + off = (tgt : Int)) (k1 : Sim G Y e1 (kC tgt ls st S M) κ) (k2 : Sim G Y e2 (kC (pc + 3) ls st S M) κ) : Sim G Y (if x ≤ y then e1 else e2) (kC pc ls (VI y :: VI x :: st) S M) κ :=
  s_br (P := x ≤ y) (st' := st) (fun _ _ _ _ _ _ _ _ _ _ _ _ _ _ _ _ _ hx hb hs k1 k2 => lv_icmp_le hx hb hd ht (fun q => k1 ((i32_le (kst_hd (kst_tl hs)) (kst_hd hs)).mp q)) (fun q => k2 (fun h => q ((i32_le (kst_hd (kst_tl hs)) (kst_hd hs)).mpr h)))) (fun h => kst_tl (kst_tl h)) k1 k2
theorem s_if_le {x : Int} {off : Int} {tgt : Nat} (hd : decode Y.2.1 pc = .ok (.ifCond .le off, 3)) (ht : (pc : Int) + off = (tgt : Int)) (k1 : Sim G Y e1 (kC tgt ls st S M) κ) (k2 : Sim G Y e2 (kC (pc + 3) ls st S M) κ) : Sim G Y (if x ≤ 0 then e1 else e2) (kC pc ls (VI x :: st) S M) κ :=
  s_br (P := x ≤ 0) (st' := st) (fun _ _ _ _ _ _ _ _ _ _ _ _ _ _ _ _ _ hx hb hs k1 k2 => lv_if_le hx hb hd ht (fun q => k1 ((i32_le (kst_hd hs) R32_0).mp q)) (fun q => k2 (fun h => q ((i32_le (kst_hd hs) R32_0).mpr h)))) kst_tl k1 k2
/-- a switch, case by case -/
theorem s_tcase {x v dflt lo hi off : Int} {offs : Array Int} {len tgt : Nat} (hd : decode Y.2.1 pc = .ok (.tableswitch dflt lo hi offs, len)) (hv : (decide (lo ≤ v) && decide (v ≤ hi)) = true) (ho : offs[(v - lo).toNat]? = some off) (ht : (pc : Int) + off = (tgt : Int)) (k1 : Sim G Y e1 (kC tgt ls st S M) κ) (k2 : ¬ x = v → Sim G Y e2 (kC pc ls (VI x :: st) S M) κ) : Sim G Y (if x = v then e1 else e2) (kC pc ls (VI x :: st) S M) κ := by
  simp only [Bool.and_eq_true, decide_eq_true_eq] at hv
  intro hG a ha
  by_cases hy : x = v
  · rw [if_pos hy] at ha
    subst hy
    refine s_pure (st' := st) (fun _ _ _ _ _ _ _ _ _ _ _ _ _ _ _ _ _ hx hb hs k => ?_) kst_tl k1 hG a ha
    have hr : (Int32.ofInt x).toInt = x := R32_toInt (kst_hd hs)
    exact lv_tableIn hx hb hd (by rw [hr]; omega) (by rw [hr]; omega) (by rw [hr]; exact ho) ht k
  · rw [if_neg hy] at ha
    exact k2 hy hG a ha
theorem s_tdef {x dflt lo hi : Int} {offs : Array Int} {len tgt : Nat} (hd : decode Y.2.1 pc = .ok (.tableswitch dflt lo hi offs, len)) (hx0 : x < lo ∨ hi < x) (ht : (pc : Int) + dflt = (tgt : Int)) (k1 : Sim G Y e (kC tgt ls st S M) κ) : Sim G Y e (kC pc ls (VI x :: st) S M) κ := by
  refine s_pure (st' := st) (fun _ _ _ _ _ _ _ _ _ _ _ _ _ _ _ _ _ hx hb hs k => ?_) kst_tl k1
  have hr : (Int32.ofInt x).toInt = x := R32_toInt (kst_hd hs)
  exact lv_tableOut hx hb hd (by rw [hr]; exact hx0) ht k
theorem s_lcase {x v dflt off : Int} {ps : Array (Int × Int)} {len tgt : Nat} (hd : decode Y.2.1 pc = .ok (.lookupswitch dflt ps, len)) (hp : (ps.toList.zip (ps.toList.drop 1)).all (fun (a, next) => a.1 < next.1) = true) (ho : Op.lookupswitch.offset ps.toList dflt v = off) (ht : (pc : Int) + off = (tgt : Int)) (k1 : Sim G Y e1 (kC tgt ls st S M) κ) (k2 : ¬ x = v → Sim G Y e2 (kC pc ls (VI x :: st) S M) κ) : Sim G Y (if x = v then e1 else e2) (kC pc ls (VI x :: st) S M) κ := by
  intro hG a ha
  by_cases hy : x = v
  · rw [if_pos hy] at ha
    subst hy
    refine s_pure (st' := st) (fun _ _ _ _ _ _ _ _ _ _ _ _ _ _ _ _ _ hx hb hs k => ?_) kst_tl k1 hG a ha
    have hr : (Int32.ofInt x).toInt = x := R32_toInt (kst_hd hs)
    exact lv_lookup hx hb hd hp (by rw [hr]; exact ho) ht k
  · rw [if_neg hy] at ha
    exact k2 hy hG a ha
theorem s_ldef {x dflt off : Int} {ps : Array (Int × Int)} {len tgt : Nat} (hd : decode Y.2.1 pc = .ok (.lookupswitch dflt ps, len)) (hp : (ps.toList.zip (ps.toList.drop 1)).all (fun (a, next) => a.1 < next.1) = true) (ho : Op.lookupswitch.offset ps.toList dflt x = off) (ht : (pc : Int) + off = (tgt : Int)) (k1 : Sim G Y e (kC tgt ls st S M) κ) : Sim G Y e (kC pc ls (VI x :: st) S M) κ := by
  refine s_pure (st' := st) (fun _ _ _ _ _ _ _ _ _ _ _ _ _ _ _ _ _ hx hb hs k => ?_) kst_tl k1
  have hr : (Int32.ofInt x).toInt = x := R32_toInt (kst_hd hs)
  exact lv_lookup hx hb hd hp (by rw [hr]; exact ho) ht k
theorem kos_ne {x k o d : Int} {r : List (Int × Int)} (h : ¬ x = k) : Op.lookupswitch.offset ((k, o) :: r) d x = Op.lookupswitch.offset r d x := by
  show (if k = x then o else Op.lookupswitch.offset r d x) = _
  rw [if_neg (fun q => h q.symm)]
theorem s_ldcG {pc' : Nat} {v : KV} (h : ∀ (p : Program) (l : Launch) (e : Env) (R : Room) (s : State) (m : MethodId) (args : Array Value) (below : List Frame) (meth : Method) (c : Code) (H : Heap) (locs : List Loc) (cells slots : Nat) (Q : State → Prop) (la : Array Slot) (b : Nat), p.tables.exec = Jvm.exec → c.code = Y.2.1 → s.vm.findClass Y.1 = some m.cls → (∀ w ∈ tbg, w.before args s = true) → W p l e R s m args below meth c H locs cells slots Q (F0 m pc' la ((v :: st).map (kconv b))) → W p l e R s m args below meth c H locs cells slots Q (F0 m pc la (st.map (kconv b))))
    (hok : kvok v) (k : Sim G Y e (kC pc' ls (v :: st) S M) κ) : Sim G Y e (kC pc ls st S M) κ := by
  intro hG a ha hk
  have k1 := k hG a ha hk
  obtain ⟨⟨p, l, e, R, s, m, args, below, meth, c⟩, ⟨D, dA, b, aK, aV⟩, ⟨n0, z0, nc, nz⟩, tg⟩ := G
  obtain ⟨hx, hb, -, hown, hts, -⟩ := hG
  intro H locs la hM hc hl hs hn hS hlo
  exact h _ _ _ _ _ _ _ _ _ _ _ _ _ _ _ _ _ hx hb hown hts (k1 H locs la hM hc hl (kst_cons hok hs) hn hS hlo)
theorem s_ldc {idx : Nat} {n : Int} (hc : Cond.constant Y.1 idx (Int32.ofInt n) ∈ tbg) (hd : decode Y.2.1 pc = .ok (.ldc idx, 2)) (hn : decide (-2147483648 ≤ n ∧ n < 2147483648) = true) (k : Sim G Y e (kC (pc + 2) ls (VI n :: st) S M) κ) : Sim G Y e (kC pc ls st S M) κ :=
  s_ldcG (v := VI n) (fun _ _ _ _ _ _ _ _ _ _ _ _ _ _ _ _ _ hx hb hown hts k => lv_ldc hx hb hown (hts _ hc) hd k) (kR_dec hn) k
theorem s_ldcw {idx : Nat} {n : Int} (hc : Cond.constant Y.1 idx (Int32.ofInt n) ∈ tbg) (hd : decode Y.2.1 pc = .ok (.ldc_w idx, 3)) (hn : decide (-2147483648 ≤ n ∧ n < 2147483648) = true) (k : Sim G Y e (kC (pc + 3) ls (VI n :: st) S M) κ) : Sim G Y e (kC pc ls st S M) κ :=
  s_ldcG (v := VI n) (fun _ _ _ _ _ _ _ _ _ _ _ _ _ _ _ _ _ hx hb hown hts k => lv_ldcw hx hb hown (hts _ hc) hd k) (kR_dec hn) k
theorem s_ldc2 {idx : Nat} {n : Int} (hc : Cond.constantLong Y.1 idx (Int64.ofInt n) ∈ tbg) (hd : decode Y.2.1 pc = .ok (.ldc2_w idx, 3)) (hn : decide (-9223372036854775808 ≤ n ∧ n < 9223372036854775808) = true) (k : Sim G Y e (kC (pc + 3) ls (VJ n :: st) S M) κ) : Sim G Y e (kC pc ls st S M) κ :=
  s_ldcG (v := VJ n) (fun _ _ _ _ _ _ _ _ _ _ _ _ _ _ _ _ _ hx hb hown hts k => lv_ldc2 hx hb hown (hts _ hc) hd k) (by have h := of_decide_eq_true hn; exact h) k
end KR2
