/-! THE START: what the Statement gives, as the machine's picture has it -/
def txT (i : Nat) : Term := if i = 0 then .string "YearHands$Tokens" 69 else .string "YearHands$Tokens" 56
abbrev txV (i : Nat) : Term := .field (txT i) "java/lang/String" "value" "[B"
abbrev txG : List Cond := flatC (Jvm.Cond.and given_1 narrow_1)
theorem tx_ex : ∀ i, i < 2 → txG[if i = 0 then 9 else 94]? = some (Cond.exactly (txT i) "java/lang/String") := by decide +kernel
theorem tx_co : ∀ i, i < 2 → txG[if i = 0 then 10 else 95]? = some (Cond.eq (.field (txT i) "java/lang/String" "coder" "B") (.int 0)) := by decide +kernel
theorem tx_ar : ∀ i, i < 2 → txG[if i = 0 then 11 else 96]? = some (Cond.arrayOf (txV i) .byte) := by decide +kernel
theorem tx_le : ∀ i, i < 2 → txG[if i = 0 then 12 else 97]? = some (Cond.eq (.length (txV i)) (.int (Int32.ofNat (ktL.getD i 0)))) := by decide +kernel
theorem tx_el0 : ∀ j, j < 81 → txG[13 + j]? = some (Cond.eq (.elem (txV 0) (.int (Int32.ofNat j))) (.int ((ktB.getD 0 []).getD j 0))) := by decide +kernel
theorem tx_el1 : ∀ j, j < 11 → txG[98 + j]? = some (Cond.eq (.elem (txV 1) (.int (Int32.ofNat j))) (.int ((ktB.getD 1 []).getD j 0))) := by decide +kernel
theorem tx_ne : txG[109]? = some (Cond.not (Cond.eq (.string "YearHands$Tokens" 69) (.string "YearHands$Tokens" 56))) := by decide +kernel
theorem tx_cs : txG[4]? = some (Cond.eq (.static "java/lang/String" "COMPACT_STRINGS" "Z") (.int 1)) := by decide +kernel
theorem tx_sf : txG[5]? = some (Cond.isRef (.static "jdk/internal/util/Preconditions" "SIOOBE_FORMATTER" "Ljava/util/function/BiFunction;")) := by decide +kernel
theorem tx_pw : lw_tbl[726]? = some (Cond.stringRef "YearHands$Tokens" 69 "person age coin need family friend to price right odds ages draw or and not year ") := by decide +kernel
theorem tx_ps : lw_tbl[782]? = some (Cond.stringRef "YearHands$Tokens" 56 ";()<>=+-*/%") := by decide +kernel
theorem tx_lcs : lw_tbl[736]? = some (Cond.laysStatic "java/lang/String" "COMPACT_STRINGS" "Z") := by decide +kernel
theorem tx_lsf : lw_tbl[752]? = some (Cond.laysStatic "jdk/internal/util/Preconditions" "SIOOBE_FORMATTER" "Ljava/util/function/BiFunction;") := by decide +kernel
theorem tx_ist : lw_tbl[154]? = some (Cond.initialized "java/lang/String") := by decide +kernel
theorem tx_ipr : lw_tbl[156]? = some (Cond.initialized "jdk/internal/util/Preconditions") := by decide +kernel
theorem tx_ao : lw_tbl[453]? = some (Cond.arrayOver (.object "YearHands$State")) := by decide +kernel
theorem kq_L_X : Cond.classLink "YearHandsLaw" 7 (kCn 0) ∈ tbg := tb_at 162 (by decide +kernel)
theorem kq_L_M : Cond.classLink "YearHandsLaw" 10 (kCn 1) ∈ tbg := tb_at 1443 (by decide +kernel)
theorem kw_L_X : kML "YearHandsLaw" 9 y_X_init := Or.inl (tb_at 164 (by decide +kernel))
theorem kw_L_M : kML "YearHandsLaw" 12 y_M_init := Or.inl (tb_at 1445 (by decide +kernel))
theorem tx_low {s : State} {b : Nat} (hts : ∀ w ∈ lw_tbl, w.before #[Value.ref b] s = true) (hgv : (Jvm.Cond.and given_1 narrow_1).before #[Value.ref b] s = true) (D : va_G) (dA : Nat → ClassId) : ∃ aK aV : Nat → Nat, kLow (D, dA, s.heap.size, aK, aV) s := by
  have hf := flat_of_before _ hgv
  have hg : ∀ {i : Nat} {w : Cond}, txG[i]? = some w → w.before #[Value.ref b] s = true := fun h => hf _ (List.mem_of_getElem? h)
  have ht : ∀ {i : Nat} {w : Cond}, lw_tbl[i]? = some w → w.before #[Value.ref b] s = true := fun h => hts _ (List.mem_of_getElem? h)
  have hA : ∀ a : Nat, a < s.heap.size → ¬ (fun q : Nat => s.heap.size ≤ q) a := fun a h => Nat.not_le.mpr h
  have i01 : ∀ i, i < 2 → i = 0 ∨ i = 1 := fun i h => by omega
  obtain ⟨aK, aV, hS, hev⟩ := vk_Sof (args := #[Value.ref b]) (s := s) (N := 2) (tm := txT) (len := ktL) (byt := ktB) (A := fun q : Nat => s.heap.size ≤ q) (by decide +kernel) (fun i hi => hg (tx_ex i hi)) (fun i hi => hg (tx_co i hi)) (fun i hi => hg (tx_ar i hi)) (fun i hi => hg (tx_le i hi))
    (fun i hi j hj => by
      rcases i01 i hi with rfl | rfl
      · exact hg (tx_el0 j hj)
      · exact hg (tx_el1 j hj))
    (fun i j hi hj hij => by
      rcases i01 i hi with rfl | rfl <;> rcases i01 j hj with rfl | rfl
      · exact absurd rfl hij
      · exact Or.inl (hg tx_ne)
      · exact Or.inr (hg tx_ne)
      · exact absurd rfl hij) hA
  refine ⟨aK, aV, Nat.le_refl _, va_AO.of (ht tx_ao), ⟨vk_R.of (ht tx_pw) (hev 0 (by decide)), vk_R.of (ht tx_ps) (hev 1 (by decide))⟩, hS, va_Zof (ht tx_lcs) (ht tx_ist) (va_eqi (hg tx_cs)) hA, va_Zqof (ht tx_lsf) (ht tx_ipr) (hg tx_sf) hA⟩
theorem tx_K {s : State} {b : Nat} (hts : ∀ w ∈ lw_tbl, w.before #[Value.ref b] s = true) : ∃ (D : va_G) (dA : Nat → ClassId), va_K D kcl (ktys dA) s := by
  have htb : ∀ w ∈ tbg, w.before #[Value.ref b] s = true := fun w hw => hts w (List.mem_filter.mp hw).1
  have hKn : ∀ c : Nat, ∃ q : ClassId × (Nat → Nat), c < 13 → u_Kn s (kCn c) (kT c) (kN c) q.1 q.2 := by
    intro c
    by_cases hc : c < 13
    · obtain ⟨cC, iS, h⟩ := u_known (n := kN c) htb (kT_in c hc) (htb _ (kI_cls c hc))
      exact ⟨(cC, iS), fun _ => h⟩
    · exact ⟨(0, fun _ => 0), fun h => absurd h hc⟩
  obtain ⟨g, hg⟩ := Classical.axiomOfChoice hKn
  have arr : ∀ ty, (Cond.arrayClass ty).before #[Value.ref b] s = true → ∃ cA : ClassId, ArrOfT s cA ty ∧ s.vm.findClass ("[" ++ ty.toString) = some cA := fun ty h => by
    obtain ⟨cA, kA, comp, h1, h2, h3⟩ := Cond.arrayClass_spec h
    exact ⟨cA, fun n z => ⟨fun k h => (by cases h), kA, h2, comp, h3⟩, h1⟩
  obtain ⟨a0, p0, q0⟩ := arr .int (htb _ kaI)
  obtain ⟨a1, p1, q1⟩ := arr .long (htb _ kaJ)
  obtain ⟨a2, p2, q2⟩ := arr .byte (htb _ kaB)
  obtain ⟨a3, p3, q3⟩ := arr .boolean (htb _ kaZ)
  obtain ⟨comp, a4, k4, f1, f2, f3, f4, f5⟩ := Cond.arrayOver_spec (hts _ (List.mem_of_getElem? tx_ao))
  refine ⟨(fun c => (g c).1, fun c => (g c).2), fun k => if k = 0 then a0 else if k = 1 then a1 else if k = 2 then a2 else if k = 3 then a3 else a4, fun c q hq => ?_, fun k q hq => ?_⟩
  · by_cases hc : c < 13
    · rw [kcl_at hc] at hq
      cases hq
      exact hg c hc
    · unfold kcl at hq
      rw [List.getElem?_map, List.getElem?_eq_none (by rw [List.length_range]; omega)] at hq
      cases hq
  · match k, hq with
    | 0, hq => cases hq; exact ⟨p0, q0⟩
    | 1, hq => cases hq; exact ⟨p1, q1⟩
    | 2, hq => cases hq; exact ⟨p2, q2⟩
    | 3, hq => cases hq; exact ⟨p3, q3⟩
    | 4, hq => cases hq; exact ⟨fun N z => ⟨(fun k h => by cases h), k4, f3, comp, f4⟩, k4, comp, f3, f4, f1, f5⟩
    | k + 5, hq => cases hq
/-! BOTH SIDES ARE MADE, AND THE LAW WALKS -/
theorem xM_made : xM 0 (fun _ _ => 0) = madeM := by
  funext k i
  simp only [xM, mem_Reader, townM, mupd_at, madeM, Nat.zero_add, Nat.reduceAdd]
  repeat' split
  all_goals first | rfl | omega
theorem kS0_made : ([] ++ xS 0) ++ blk_M 382 = kS0 := by
  rw [List.nil_append, xS_0]
  exact kS0_M
theorem sim_start {G : Gam} {b0 L : Nat} {xs : Nat → Int} (hX : kScr G b0 L xs) (hg : G.2.2.1 = (0, 0, 435, 55573)) {q1 q3 : KM} (h3 : f_M_clearBank (mupd (mupd madeM 382 5 (-1)) 382 59 (-1)) = some q1) (h4 : f_M_startAnew q1 = some q3) :
    Sim G Y_L_law (f_L_law L xs q3) (kC 0 [some (VA b0), none, none, none] [] [] (fun _ _ => 0)) (fun q => .inr (some (VI q.1), kS0, q.2)) := by
  have l2 : (([] : KS) ++ xS 0).length = 382 := by rw [List.nil_append]; exact (bl_X 0).1
  have z2 : ksz (([] : KS) ++ xS 0) = 30273 := by rw [List.nil_append]; exact (bl_X 0).2
  have hs0 : ([] : KS) ++ xS 0 = kS0.take 382 := by rw [List.nil_append]; exact xS_0
  have z0 : ksz [] = 0 := rfl
  have g1 : G.2.2.1.2.2.1 = 435 := by rw [hg]
  have g2 : G.2.2.1.2.2.2 = 55573 := by rw [hg]
  have hCX : Cin y_X_init Y_X_init [] ((0, kN 0), List.replicate (kN 0) none) (fun _ _ => 0) (xS 0) madeM := by
    have h := ci_X (S1 := []) (M := fun _ _ => 0) (fun _ _ _ => rfl)
    rw [show (([] : KS).length) = 0 from rfl, xM_made] at h
    exact h
  unfold Cin at hCX
  refine s_new (c := 0) (dt_L_law 0 _ _ _ rfl) (by decide) kq_L_X (fun _ => rfl) ⟨by rw [g1]; decide, by rw [g2]; decide⟩ ?_
  refine s_dup (dt_L_law 1 _ _ _ rfl) rfl ?_
  refine s_invG (y := y_X_init) (Y' := Y_X_init) (np := 0) (as := [VR (some 0)]) (r := none) (S' := [] ++ xS 0) (M' := madeM) (Or.inr (Or.inr ⟨dt_L_law 2 _ _ _ rfl, rfl, kin_X_init, rfl, _, [], rfl, rfl⟩)) kw_L_X md_X_init rfl (Nat.le_of_ble_eq_true rfl) (Nat.le_of_ble_eq_true rfl) hCX (by rw [l2, z2]; exact ⟨by decide, by decide⟩) (Or.inl (by rw [l2, z2, g1, g2]; exact ⟨by decide, by decide⟩)) ?_
  refine s_astore_n (dt_L_law 3 _ _ _ rfl) rfl ?_
  generalize hS1 : ([] : KS) ++ xS 0 = S1 at l2 z2 hs0 ⊢
  have hz0 : kblk madeM S1.length := fun c hc i => madeM_z (by rw [l2] at hc; omega) i
  refine s_new (c := 1) (dt_L_law 4 _ _ _ rfl) (by decide) kq_L_M (fun j => hz0 _ (Nat.le_refl _) j) ⟨by rw [g1, l2]; decide, by rw [g2, z2]; decide⟩ ?_
  refine s_dup (dt_L_law 5 _ _ _ rfl) rfl ?_
  have hC := ci_M hs0 l2 hz0 h3 h4
  unfold Cin at hC
  have l3 : (S1 ++ blk_M S1.length).length = 435 := by rw [List.length_append, (bl_M _).1, l2]
  have z3 : ksz (S1 ++ blk_M S1.length) = 55573 := by rw [ksz_app, (bl_M _).2, z2]
  have l4 : (S1 ++ [((1, kN 1), List.replicate (kN 1) (none : Option Nat))]).length = 383 := by rw [List.length_append, l2]; rfl
  have z4 : ksz (S1 ++ [((1, kN 1), List.replicate (kN 1) (none : Option Nat))]) = 30351 := by rw [ksz_app, z2]; rfl
  refine s_invG (y := y_M_init) (Y' := Y_M_init) (np := 0) (as := [VR (some S1.length)]) (r := none) (S' := S1 ++ blk_M S1.length) (M' := q3) (Or.inr (Or.inr ⟨dt_L_law 6 _ _ _ rfl, rfl, kin_M_init, rfl, _, [], rfl, rfl⟩)) kw_L_M md_M_init rfl (Nat.le_of_ble_eq_true rfl) (Nat.le_of_ble_eq_true rfl) hC (by rw [l3, z3, l4, z4]; exact ⟨by decide, by decide⟩) (Or.inl (by rw [l3, z3, g1, g2]; exact ⟨by decide, by decide⟩)) ?_
  refine s_astore_n (dt_L_law 7 _ _ _ rfl) rfl ?_
  have hk : S1 ++ blk_M S1.length = kS0 := by rw [l2, ← hS1]; exact kS0_made
  rw [hk, l2]
  exact sim_L_law (fun k q _ h => h) hX q3
/-! THE CLAIM OUT OF ONE WALK OF THE LAW'S BODY. Your part is whole_start (and what it stands on); all else here is the same for every law, but numbers. -/
def R_law : String := "YearHandsLaw"
def lw_P (b : Addr) (xs : List Int32) (args : Array Value) (s : State) : Prop := args = #[.ref b] ∧ s.IntsAt b xs ∧ xs.length ≤ 3072 ∧ (Jvm.Cond.and given_1 narrow_1).before args s = true
def lw_Q (_ : Array Value) (s : State) (o : Outcome) (t : State) : Prop := o = .returned (some (.int 1)) ∧ Framed s o t [] 600000 7302250
def lw_Z (below : List Frame) (a : Array Value) (s : State) : State → Prop := fun t => ∃ o, t.status = .running ∧ Ended t below o ∧ lw_Q a s o t
/-- the law's own end, with 1 on the stack, nothing written that was there before, its room as the claim has it -/
theorem lw_ret {p : Program} {l : Launch} {e : Env} {s : State} {m : MethodId} {below : List Frame} {meth : Method} {c : Code} {b : Nat} (hx : p.tables.exec = Jvm.exec) (hb : c.code = code) (hr : meth.sig.returnType = ret) (hlocks : meth.locks = false) {pc : Nat} {H : Heap} {ls : Array Slot} (hdg : decode code pc = .ok (.ireturn, 1)) : W p l e room_1 s m #[Value.ref b] below meth c H [] 600000 7302250 (lw_Z below #[Value.ref b] s) (F0 m pc ls [.int 1]) := by
  intro T hT X
  obtain ⟨fs, hret, hrun, hended, hW, hframe⟩ := X.leave (v := some (.int 1)) (hlocks := hlocks) (fun h => by rw [hr] at h; cases h)
  have hmeth' : T.vm.method? m = some meth := X.method'
  refine ⟨T.setFrames fs, ?_, .returned (some (.int 1)), hrun, hended, rfl, ⟨_, rfl⟩, hW, hframe⟩
  jvm_step X.here [X.here.top, hx, hb, hdg, hmeth', hr, ret, narrow_b1]
  (try refine ⟨rfl, ?_⟩); (try refine ⟨rfl, ?_⟩)
  first | (intro acts; rw [hret _ acts rfl rfl rfl]) | rw [hret _ _ rfl rfl rfl]
  exact Steps.refl _
/-- what holds at the law's entry: the machine, the code, the tables' words (any of lw_tbl by 'hts w (by decide +kernel)'), the script of L ints xs at the cell b, what the Statement gives of the start (any of its parts by flat_of_before) -/
def lw_At (p : Program) (s : State) (m : MethodId) (meth : Method) (c : Code) (b L : Nat) (xs : Nat → Int32) : Prop :=
  p.tables.exec = Jvm.exec ∧ c.code = code ∧ meth.sig.returnType = ret ∧ c.maxLocals = 4 ∧ s.vm.findClass R_law = some m.cls ∧ (∀ w ∈ lw_tbl, w.before #[Value.ref b] s = true) ∧ va_X b L xs s s.heap ∧ b < s.heap.size ∧ meth.locks = false ∧ (Jvm.Cond.and given_1 narrow_1).before #[Value.ref b] s = true
/-- a method's end, as the law's own end -/
theorem lw_mq {p : Program} {l : Launch} {e : Env} {R : Room} {s : State} {m : MethodId} {below : List Frame} {meth : Method} {c : Code} {H : Heap} {locs : List Loc} {cells slots b nc nz : Nat} {g : JFrame} {B : GB} {S' : KS} {M' : KM} (hB : B.2.2.1 = s.heap.size) (hc : nc ≤ 600000) (hz : nz ≤ 7302250)
    (h : W p l e R s m #[Value.ref b] below meth c H locs cells slots (MQ below (kQ B (some (VI 1), S', M')) #[Value.ref b] s nc nz (fun q => B.2.2.1 ≤ q)) g) : W p l e R s m #[Value.ref b] below meth c H locs cells slots (lw_Z below #[Value.ref b] s) g := by
  intro T hT X
  obtain ⟨t, a, o, h1, h2, h3, L, h4, h5⟩ := h T hT X
  refine ⟨t, a, o, h1, h2, ?_, ?_⟩
  · obtain ⟨⟨r, u, e1, e2, -⟩, -⟩ := h3
    have e2 : r = Int32.ofInt 1 := e2
    rw [e1, e2]; rfl
  · obtain ⟨f1, f2, f3⟩ := h4
    refine ⟨f1, f2, f3.weaken (fun x hx hlt => ?_) hc hz⟩
    have h6 : B.2.2.1 ≤ x.base := h5 x hx
    rw [hB] at h6
    exact absurd hlt (Nat.not_lt.mpr h6)
theorem whole_start {p : Program} {e : Env} {s : State} {m : MethodId} {below : List Frame} {meth : Method} {c : Code} (l : Launch) (hflags : l.flags = flags0) {b L : Nat} {xs : Nat → Int32} (hL : L ≤ 3072) (C0 : lw_At p s m meth c b L xs) : W p l e room_1 s m #[Value.ref b] below meth c s.heap [] 0 0 (lw_Z below #[Value.ref b] s) (entryFrame m ([Value.ref b] : List Value).toArray 4) := by
  obtain ⟨hx, hb, hr, hml, hown, hts, hX, hbl, hlocks, hgv⟩ := C0
  have htb : ∀ w ∈ tbg, w.before #[Value.ref b] s = true := fun w hw => hts w (List.mem_filter.mp hw).1
  obtain ⟨D, dA, hK⟩ := tx_K hts
  obtain ⟨aK, aV, hlow⟩ := tx_low hts hgv D dA
  obtain ⟨q1, q3, e3, e4, hJ⟩ := JJ_made
  have hL2 : L < 2147483648 := by omega
  obtain ⟨r, er, hr1⟩ := X_law (L := L) (xs := fun j => (xs j).toInt) hL2 hJ
  have hr1 : r.1 = 1 := hr1
  have key := sim_start (G := ((p, l, e, room_1, s, m, #[Value.ref b], below, meth, c), (D, dA, s.heap.size, aK, aV), (0, 0, 435, 55573), (some (VI r.1), kS0, r.2))) (b0 := b) (L := L) (xs := fun j => (xs j).toInt) ⟨⟨xs, hX, fun _ => rfl⟩, hbl, hbl, hL2⟩ rfl e3 e4
    ⟨hx, hb, hml, hown, htb, hr, hlocks, hK, ⟨Nat.le_of_ble_eq_true rfl, Nat.le_of_ble_eq_true rfl, Nat.le_of_ble_eq_true rfl, Nat.le_of_ble_eq_true rfl⟩, hlow⟩ r er rfl
  have hl := lv_entry ([.ref b]) (n := 4) (Nat.le_of_ble_eq_true rfl)
  rw [lg_entry_eq]
  generalize (lg_sl ([.ref b]) ++ List.replicate (4 - (lg_sl ([.ref b])).length) Slot.unset).toArray = ls at hl ⊢
  have hl : lv_has ls 4 [(0, .ref b)] := hl
  rw [hr1] at key
  have lo : ∀ (i : Nat) (v : KV), ([some (VA b), none, none, none] : List (Option KV))[i]? = some (some v) → i = 0 ∧ v = VA b := by
    intro i v h
    match i, h with
    | 0, h => cases h; exact ⟨rfl, rfl⟩
    | 1, h => cases h
    | 2, h => cases h
    | 3, h => cases h
    | i + 4, h => cases h
  have k1 := key s.heap [] ls ⟨fun k q h => by simp [kws] at h, rfl⟩ (fun k q h => by cases h) (fun i v h => by rw [(lo i v h).2]; exact trivial) kst_nil ⟨Nat.le_refl _, Nat.le_of_ble_eq_true rfl, Nat.le_refl _, Nat.le_of_ble_eq_true rfl⟩ va_S.rf ⟨by rw [hml]; exact hl.1, hl.2.1, fun i v h => by
    obtain ⟨rfl, rfl⟩ := lo i v h
    exact hl.2.2 (0, .ref b) (List.mem_singleton.mpr rfl)⟩
  exact lw_mq (B := (D, dA, s.heap.size, aK, aV)) rfl (Nat.le_of_ble_eq_true rfl) (Nat.le_of_ble_eq_true rfl) k1
set_option maxHeartbeats 4000000 in
theorem lw_walk (l : Launch) (hflags : l.flags = flags0) (b : Addr) (xs : List Int32) : MetFree l x (headSpec (Jvm.Cond.code x code maxLocals ret :: tables_1) room_1) (lw_P b xs) (fun _ _ _ _ _ => True) lw_Q := by
  refine MetFree.of_bodyS (code := code) (maxLocals := maxLocals) (ret := ret) (by decide) ?_ ?_
  · intro args s m h hn
    obtain ⟨meth, c, h1, h2, h3, h4, h5, h6, -, -⟩ := Cond.code_spec hn (atoms_spec (ws := Jvm.Cond.code x code maxLocals ret :: tables_1) h _ List.mem_cons_self)
    exact ⟨meth, c, h1, h2, h3, h4, h5, h6⟩
  · intro p e s m args below meth c s₁ B hml0 hP _
    obtain ⟨rfl, hx, hbd, hgv⟩ := hP
    obtain ⟨scr, harrAt, hlist, hof, hsmall⟩ := hx
    obtain ⟨hcb, hkn, -, -⟩ := State.arrayAt?_spec harrAt
    have hown : s.vm.findClass R_law = some m.cls := findClass_of_methodNamed B.named
    have hts0 : ∀ c ∈ (Jvm.Cond.code x code maxLocals ret :: tables_1), c.before #[Value.ref b] s = true := atoms_spec (ws := Jvm.Cond.code x code maxLocals ret :: tables_1) B.pre
    have hts : ∀ w ∈ lw_tbl, w.before #[Value.ref b] s = true := k2_hts_sels lw_privs (fun w hw => hts0 w (List.mem_cons_of_mem _ hw)) lw_privs_ok
    have hml : c.maxLocals = 4 := B.maxLocals_eq (hts0 _ List.mem_cons_self)
    have X₀ : Stand p l e room_1 s m #[Value.ref b] below meth c s₁ [] 0 0 := Stand.of_body B
    have hh0 : s₁.heap = s.heap := by rw [B.state]; rfl
    have hsz : scr.slots.size = xs.length := by rw [← Array.length_toList, hlist, List.length_map]
    have hval : ∀ j : Nat, j < xs.length → scr.slots[j]? = some (.int (xs.getD j 0)) := fun j hj => by
      rw [← Array.getElem?_toList, hlist]
      simp [hj]
    have hbl : b < s.heap.size := (Array.getElem?_eq_some_iff.mp hcb).1
    have hX : va_X b xs.length (fun j => xs.getD j 0) s s.heap := ⟨scr, hcb, hof, hkn, hsz, hval⟩
    have K : W p l e room_1 s m #[Value.ref b] below meth c s₁.heap [] 0 0 (lw_Z below #[Value.ref b] s) (entryFrame m ([Value.ref b] : List Value).toArray 4) := by
      rw [hh0]
      exact whole_start l hflags hbd ⟨B.exec, B.bytes, B.returns, hml, hown, hts, hX, hbl, B.notSynchronized, hgv⟩
    obtain ⟨t, a1, o, b1, b2, b3⟩ := K s₁ rfl X₀
    exact ⟨t, o, a1, b1, b2, b3⟩
theorem lw_pre_spec {args : Array Value} {s : State} (h : (Jvm.Cond.and given_1 narrow_1).before args s = true) (hr : rest_1_c.before args s = true) : ∃ (b : Addr) (xs : List Int32), lw_P b xs args s := by
  have hs := flat_of_before _ h
  have hq := flat_of_before _ hr
  have hc : (Cond.count 1).before args s = true := hs _ (by decide +kernel)
  have harr : (Cond.arrayOf (.arg 0) .int).before args s = true := hs _ (by decide +kernel)
  have hle : (Cond.le (.length (.arg 0)) (.int 3072)).before args s = true := hs _ (by decide +kernel)
  have hlen : (Cond.isInt (.length (.arg 0))).before args s = true := hq _ (by decide +kernel)
  have hall : (Cond.all (.arg 0) (.isInt (.elem (.arg 0) (.index 0)))).before args s = true := hq _ (by decide +kernel)
  obtain ⟨b, xs, hb, hx⟩ := State.ints_of_pre rfl harr hlen hall
  have hsm : xs.length < 2 ^ 31 := hx.choose_spec.2.2.2
  have hev : (Term.length (.arg 0)).eval args s none [] s = some (.int xs.length.toInt32) := hx.length_eval hb
  have hv := Cond.le_ints hev (show (Term.int 3072).eval args s none [] s = some (.int 3072) from rfl)
  have hd : xs.length.toInt32 ≤ 3072 := by
    simpa [Cond.before, Cond.holds, hv] using hle
  have hN : xs.length ≤ 3072 := (Int32.ofNat_le_ofNat hsm (by decide)).mp (show Int32.ofNat xs.length ≤ Int32.ofNat 3072 from hd)
  exact ⟨b, xs, Cond.one_arg hc (show args[0]? = some (.ref b) from hb), hx, hN, h⟩
theorem lw_comes (l : Launch) (hflags : l.flags = flags0) : Comes l x (Jvm.Cond.code x code maxLocals ret :: tables_1) room_1 (fun tb e args s => Calls_1 tb e args s ∧ rest_1 tb e args s ∧ Pre_1 tb e args s)
    (fun _ _ args s o t => lw_Q args s o t) := by
  intro p e ha hc hk s m args below hf hfit hheap happ hpre
  obtain ⟨b, xs, hP⟩ := lw_pre_spec hpre.2.2 hpre.2.1
  obtain ⟨k, o, h1, h2, h3, hQ⟩ := lw_walk l hflags b xs p e ha hc hk s m args below hf ((Spec.applies_iff_loose hf).mp happ).1 hP trivial
  exact ⟨k, o, h1, h2, h3, hQ⟩
theorem lw_frame {s t : State} {o : Outcome} {args : Array Value} (h : Framed s o t [] 600000 7302250) :
    Framed s o t (fieldLocs frame_1_writes args s ++ arrayLocs frame_1_arrays args s ++ staticLocs frame_1_statics s) 600000 7302250 := h
theorem lw_limb (L : Cond) (hL : ∀ (args : Array Value) (s t : State), L.after args s (.returned (some (.int 1))) t = true) :
    ArmFor flags0 classFile x code maxLocals ret World_1 tables_1 room_1 Calls_1 rest_1 Pre_1
      (fun tb e a s o t => postC L tb e a s o t ∧ Framed s o t (fieldLocs frame_1_writes a s ++ arrayLocs frame_1_arrays a s ++ staticLocs frame_1_statics s) 600000 7302250) := by
  intro l hflags _ _ p e ha hc hk s m args below hf hfit hheap happ hpre
  obtain ⟨k, o, h1, h2, h3, rfl, hF⟩ := lw_comes l hflags p e ha hc hk s m args below hf hfit hheap happ hpre
  exact ⟨k, _, h1, h2, h3, hL args s _, lw_frame hF⟩
theorem i_vc : Claimed_1_1 ∧ Claimed_1_2 := ⟨lw_limb limb_1_1 (fun args s t => by simp [limb_1_1, Cond.after, Cond.holds, Cond.value]), lw_limb limb_1_2 (fun args s t => Cond.after_iff.mpr (by
  first | (rw [show limb_1_2 = Cond.eq .result (.int 1) from rfl, Cond.eq_ints (x := 1) (y := 1) rfl rfl]; simp; done) | (simp [limb_1_2, Cond.value, Term.eval]; done)))⟩
