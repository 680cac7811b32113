section KR
variable {α : Type} {G : Gam} {Y : KY} {e e1 e2 : Option α} {κ : α → KCf} {pc : Nat} {ls : List (Option KV)} {st : List KV} {S : KS} {M : KM}
theorem int8_of {n : Int} (h : decide (-128 ≤ n ∧ n < 128) = true) : (Int8.ofInt n).toInt32 = Int32.ofInt n ∧ R32 n := by
  have h := of_decide_eq_true h
  refine ⟨?_, by constructor <;> omega⟩
  apply Int32.toInt_inj.mp
  rw [R32_toInt (by constructor <;> omega)]
  rw [Int8.toInt_toInt32, Int8.toInt_ofInt_of_le (by omega) (by omega)]
theorem int16_of {n : Int} (h : decide (-32768 ≤ n ∧ n < 32768) = true) : (Int16.ofInt n).toInt32 = Int32.ofInt n ∧ R32 n := by
  have h := of_decide_eq_true h
  refine ⟨?_, by constructor <;> omega⟩
  apply Int32.toInt_inj.mp
  rw [R32_toInt (by constructor <;> omega)]
  rw [Int16.toInt_toInt32, Int16.toInt_ofInt_of_le (by omega) (by omega)]
theorem kR_dec {n : Int} (h : decide (-2147483648 ≤ n ∧ n < 2147483648) = true) : R32 n := by
  have h := of_decide_eq_true h
  exact h
theorem kst_I {n : Int} {st : List KV} (h1 : R32 n) (h : kst st) : kst (VI n :: st) := kst_cons (v := VI n) h1 h
theorem kst_J {n : Int} {st : List KV} (h1 : R64 n) (h : kst st) : kst (VJ n :: st) := kst_cons (v := VJ n) h1 h
theorem kst_R {r : Option Nat} {st : List KV} (h : kst st) : kst (VR r :: st) := kst_cons (v := VR r) trivial h
theorem kst_A {r : Nat} {st : List KV} (h : kst st) : kst (VA r :: st) := kst_cons (v := VA r) trivial h
theorem s_iconst {n : Int} (hd : decode Y.2.1 pc = .ok (.iconst n, 1)) (hn : decide (-2147483648 ≤ n ∧ n < 2147483648) = true) (k : Sim G Y e (kC (pc + 1) ls (VI n :: st) S M) κ) : Sim G Y e (kC pc ls st S M) κ :=
  s_pure (st' := VI n :: st) (fun _ _ _ _ _ _ _ _ _ _ _ _ _ _ _ _ _ hx hb _ k => lv_iconst hx hb hd rfl k) (fun h => kst_I (kR_dec hn) h) k
theorem s_bipush {n : Int} (hd : decode Y.2.1 pc = .ok (.bipush n, 2)) (hn : decide (-128 ≤ n ∧ n < 128) = true) (k : Sim G Y e (kC (pc + 2) ls (VI n :: st) S M) κ) : Sim G Y e (kC pc ls st S M) κ :=
  s_pure (st' := VI n :: st) (fun _ _ _ _ _ _ _ _ _ _ _ _ _ _ _ _ _ hx hb _ k => lv_bipush hx hb hd (int8_of hn).1 k) (fun h => kst_I (int8_of hn).2 h) k
theorem s_sipush {n : Int} (hd : decode Y.2.1 pc = .ok (.sipush n, 3)) (hn : decide (-32768 ≤ n ∧ n < 32768) = true) (k : Sim G Y e (kC (pc + 3) ls (VI n :: st) S M) κ) : Sim G Y e (kC pc ls st S M) κ :=
  s_pure (st' := VI n :: st) (fun _ _ _ _ _ _ _ _ _ _ _ _ _ _ _ _ _ hx hb _ k => lv_sipush hx hb hd (int16_of hn).1 k) (fun h => kst_I (int16_of hn).2 h) k
theorem s_lconst0 (hd : decode Y.2.1 pc = .ok (.lconst 0, 1)) (k : Sim G Y e (kC (pc + 1) ls (VJ 0 :: st) S M) κ) : Sim G Y e (kC pc ls st S M) κ :=
  s_pure (st' := VJ 0 :: st) (fun _ _ _ _ _ _ _ _ _ _ _ _ _ _ _ _ _ hx hb _ k => lv_lconst hx hb hd rfl k) (fun h => kst_J ⟨by decide, by decide⟩ h) k
theorem s_null (hd : decode Y.2.1 pc = .ok (.aconst_null, 1)) (k : Sim G Y e (kC (pc + 1) ls (VR none :: st) S M) κ) : Sim G Y e (kC pc ls st S M) κ :=
  s_pure (st' := VR none :: st) (fun _ _ _ _ _ _ _ _ _ _ _ _ _ _ _ _ _ hx hb _ k => lv_null hx hb hd k) (fun h => kst_R h) k

theorem s_iload_n {i : Fin 4} {x : Int} (hd : decode Y.2.1 pc = .ok (.iload_n i, 1)) (hl : ls[(i : Nat)]? = some (some (VI x))) (k : Sim G Y e (kC (pc + 1) ls (VI x :: st) S M) κ) : Sim G Y e (kC pc ls st S M) κ :=
  s_pureL (st' := (VI x) :: st) (fun _ _ _ _ _ _ _ _ _ _ _ _ _ _ _ _ _ hx hb _ hlo k => lv_iload_n hx hb hd rfl (hlo.2.2 _ _ hl) k) (fun hl0 h => kst_cons (hl0 _ _ hl) h) k
theorem s_iload {i : Nat} {x : Int} (hd : decode Y.2.1 pc = .ok (.iload i, 2)) (hl : ls[i]? = some (some (VI x))) (k : Sim G Y e (kC (pc + 2) ls (VI x :: st) S M) κ) : Sim G Y e (kC pc ls st S M) κ :=
  s_pureL (st' := (VI x) :: st) (fun _ _ _ _ _ _ _ _ _ _ _ _ _ _ _ _ _ hx hb _ hlo k => lv_iload hx hb hd (hlo.2.2 _ _ hl) k) (fun hl0 h => kst_cons (hl0 _ _ hl) h) k
theorem s_lload_n {i : Fin 4} {x : Int} (hd : decode Y.2.1 pc = .ok (.lload_n i, 1)) (hl : ls[(i : Nat)]? = some (some (VJ x))) (k : Sim G Y e (kC (pc + 1) ls (VJ x :: st) S M) κ) : Sim G Y e (kC pc ls st S M) κ :=
  s_pureL (st' := (VJ x) :: st) (fun _ _ _ _ _ _ _ _ _ _ _ _ _ _ _ _ _ hx hb _ hlo k => lv_lload_n hx hb hd rfl (hlo.2.2 _ _ hl) k) (fun hl0 h => kst_cons (hl0 _ _ hl) h) k
theorem s_lload {i : Nat} {x : Int} (hd : decode Y.2.1 pc = .ok (.lload i, 2)) (hl : ls[i]? = some (some (VJ x))) (k : Sim G Y e (kC (pc + 2) ls (VJ x :: st) S M) κ) : Sim G Y e (kC pc ls st S M) κ :=
  s_pureL (st' := (VJ x) :: st) (fun _ _ _ _ _ _ _ _ _ _ _ _ _ _ _ _ _ hx hb _ hlo k => lv_lload hx hb hd (hlo.2.2 _ _ hl) k) (fun hl0 h => kst_cons (hl0 _ _ hl) h) k
theorem s_aload_n {i : Fin 4} {x : Nat} (hd : decode Y.2.1 pc = .ok (.aload_n i, 1)) (hl : ls[(i : Nat)]? = some (some (VR (some x)))) (k : Sim G Y e (kC (pc + 1) ls (VR (some x) :: st) S M) κ) : Sim G Y e (kC pc ls st S M) κ :=
  s_pureL (st' := (VR (some x)) :: st) (fun _ _ _ _ _ _ _ _ _ _ _ _ _ _ _ _ _ hx hb _ hlo k => lv_aload_n hx hb hd rfl (hlo.2.2 _ _ hl) k) (fun hl0 h => kst_cons (hl0 _ _ hl) h) k
theorem s_aload {i : Nat} {x : Nat} (hd : decode Y.2.1 pc = .ok (.aload i, 2)) (hl : ls[i]? = some (some (VR (some x)))) (k : Sim G Y e (kC (pc + 2) ls (VR (some x) :: st) S M) κ) : Sim G Y e (kC pc ls st S M) κ :=
  s_pureL (st' := (VR (some x)) :: st) (fun _ _ _ _ _ _ _ _ _ _ _ _ _ _ _ _ _ hx hb _ hlo k => lv_aload hx hb hd (hlo.2.2 _ _ hl) k) (fun hl0 h => kst_cons (hl0 _ _ hl) h) k
theorem s_aloadA_n {i : Fin 4} {x : Nat} (hd : decode Y.2.1 pc = .ok (.aload_n i, 1)) (hl : ls[(i : Nat)]? = some (some (VA x))) (k : Sim G Y e (kC (pc + 1) ls (VA x :: st) S M) κ) : Sim G Y e (kC pc ls st S M) κ :=
  s_pureL (st' := (VA x) :: st) (fun _ _ _ _ _ _ _ _ _ _ _ _ _ _ _ _ _ hx hb _ hlo k => lv_aload_n hx hb hd rfl (hlo.2.2 _ _ hl) k) (fun hl0 h => kst_cons (hl0 _ _ hl) h) k
theorem s_aloadA {i : Nat} {x : Nat} (hd : decode Y.2.1 pc = .ok (.aload i, 2)) (hl : ls[i]? = some (some (VA x))) (k : Sim G Y e (kC (pc + 2) ls (VA x :: st) S M) κ) : Sim G Y e (kC pc ls st S M) κ :=
  s_pureL (st' := (VA x) :: st) (fun _ _ _ _ _ _ _ _ _ _ _ _ _ _ _ _ _ hx hb _ hlo k => lv_aload hx hb hd (hlo.2.2 _ _ hl) k) (fun hl0 h => kst_cons (hl0 _ _ hl) h) k
theorem s_aloadN_n {i : Fin 4} (hd : decode Y.2.1 pc = .ok (.aload_n i, 1)) (hl : ls[(i : Nat)]? = some (some (VR none))) (k : Sim G Y e (kC (pc + 1) ls (VR none :: st) S M) κ) : Sim G Y e (kC pc ls st S M) κ :=
  s_pureL (st' := (VR none) :: st) (fun _ _ _ _ _ _ _ _ _ _ _ _ _ _ _ _ _ hx hb _ hlo k => lv_aload_nN hx hb hd rfl (hlo.2.2 _ _ hl) k) (fun hl0 h => kst_cons (hl0 _ _ hl) h) k
theorem s_aloadN {i : Nat} (hd : decode Y.2.1 pc = .ok (.aload i, 2)) (hl : ls[i]? = some (some (VR none))) (k : Sim G Y e (kC (pc + 2) ls (VR none :: st) S M) κ) : Sim G Y e (kC pc ls st S M) κ :=
  s_pureL (st' := (VR none) :: st) (fun _ _ _ _ _ _ _ _ _ _ _ _ _ _ _ _ _ hx hb _ hlo k => lv_aloadN hx hb hd (hlo.2.2 _ _ hl) k) (fun hl0 h => kst_cons (hl0 _ _ hl) h) k

def knj : List (Option KV) → Nat → Bool
  | _, 0 => true
  | ls, j + 1 => match ls[j]? with
    | some (some (.inl (.inr _))) => false
    | _ => true
def kprs (b : Nat) (ls : List (Option KV)) : List (Nat × Value) := (ls.zipIdx).filterMap fun q => q.1.map fun v => (q.2, kconv b v)
theorem kprs_in {b : Nat} {ls : List (Option KV)} {i : Nat} {w : Value} : (i, w) ∈ kprs b ls ↔ ∃ v, ls[i]? = some (some v) ∧ w = kconv b v := by
  unfold kprs
  rw [List.mem_filterMap]
  constructor
  · rintro ⟨⟨o, j⟩, hm, he⟩
    rw [List.mem_zipIdx_iff_getElem?] at hm
    cases o with
    | none => cases he
    | some v =>
      simp only [Option.map_some, Option.some.injEq, Prod.mk.injEq] at he
      obtain ⟨rfl, rfl⟩ := he
      exact ⟨v, hm, rfl⟩
  · rintro ⟨v, hv, rfl⟩
    exact ⟨(some v, i), by rw [List.mem_zipIdx_iff_getElem?]; exact hv, rfl⟩
theorem kprs_has {b : Nat} {ls : List (Option KV)} {la : Array Slot} {nL : Nat} (h : kloc b ls la nL) : lv_has la nL (kprs b ls) := ⟨h.1, h.2.1, fun q hq => by
  obtain ⟨v, hv, e⟩ := kprs_in.mp hq
  rw [e]
  exact h.2.2 _ _ hv⟩
theorem kloc_st1 {b : Nat} {ls : List (Option KV)} {la : Array Slot} {nL i : Nat} {v : KV} (hj : knj ls i = true) (h : lv_has la nL ((i, kconv b v) :: (kprs b ls).filter (fun q => !(q.1 == i) && !(q.1 + 1 == i && q.2.category == 2)))) : kloc b (ls.set i (some v)) la nL := by
  refine ⟨h.1, h.2.1, fun j w hw => ?_⟩
  rw [List.getElem?_set] at hw
  by_cases hij : i = j
  · subst hij
    rw [if_pos rfl] at hw
    split at hw
    · cases hw; exact h.2.2 _ List.mem_cons_self
    · cases hw
  · rw [if_neg hij] at hw
    refine h.2.2 (j, kconv b w) (List.mem_cons_of_mem _ (List.mem_filter.mpr ⟨kprs_in.mpr ⟨w, hw, rfl⟩, ?_⟩))
    have h1 : (j == i) = false := by simpa using fun q => hij q.symm
    simp only [h1, kconv_cat, Bool.not_false, Bool.true_and]
    by_cases h2 : j + 1 = i
    · subst h2
      simp only [knj, hw] at hj
      rcases w with (n | n) | (a | a)
      · simp [kcat]
      · cases hj
      · simp [kcat]
      · simp [kcat]
    · simp [h2]
theorem kloc_st2 {b : Nat} {ls : List (Option KV)} {la : Array Slot} {nL i : Nat} {v : KV} (hj : knj ls i = true) (h : lv_has la nL ((i, kconv b v) :: (kprs b ls).filter (fun q => !(q.1 == i) && (!(q.1 == i + 1) && !(q.1 + 1 == i && q.2.category == 2))))) : kloc b ((ls.set i (some v)).set (i + 1) none) la nL := by
  refine ⟨h.1, h.2.1, fun j w hw => ?_⟩
  rw [List.getElem?_set, List.getElem?_set] at hw
  by_cases hi1 : i + 1 = j
  · rw [if_pos hi1] at hw
    split at hw
    · cases hw
    · cases hw
  rw [if_neg hi1] at hw
  by_cases hij : i = j
  · subst hij
    rw [if_pos rfl] at hw
    split at hw
    · cases hw; exact h.2.2 _ List.mem_cons_self
    · cases hw
  · rw [if_neg hij] at hw
    refine h.2.2 (j, kconv b w) (List.mem_cons_of_mem _ (List.mem_filter.mpr ⟨kprs_in.mpr ⟨w, hw, rfl⟩, ?_⟩))
    have h1 : (j == i) = false := by simpa using fun q => hij q.symm
    have h3 : (j == i + 1) = false := by simpa using fun q => hi1 q.symm
    simp only [h1, h3, kconv_cat, Bool.not_false, Bool.true_and]
    by_cases h2 : j + 1 = i
    · subst h2
      simp only [knj, hw] at hj
      rcases w with (n | n) | (a | a)
      · simp [kcat]
      · cases hj
      · simp [kcat]
      · simp [kcat]
    · simp [h2]
theorem klok_set {ls : List (Option KV)} {i : Nat} {v : KV} (h : klok ls) (hv : kvok v) : klok (ls.set i (some v)) := fun j w hw => by
  rw [List.getElem?_set] at hw
  split at hw
  · split at hw
    · cases hw; exact hv
    · cases hw
  · exact h _ _ hw
theorem klok_set0 {ls : List (Option KV)} {i : Nat} (h : klok ls) : klok (ls.set i none) := fun j w hw => by
  rw [List.getElem?_set] at hw
  split at hw
  · split at hw <;> cases hw
  · exact h _ _ hw
theorem s_stg {pc' : Nat} {v : KV} {ls' : List (Option KV)} (h : ∀ (p : Program) (l : Launch) (e : Env) (R : Room) (s : State) (m : MethodId) (args : Array Value) (below : List Frame) (meth : Method) (c : Code) (H : Heap) (locs : List Loc) (cells slots : Nat) (Q : State → Prop) (la : Array Slot) (b : Nat), p.tables.exec = Jvm.exec → c.code = Y.2.1 → c.maxLocals = Y.2.2.1 → kloc b ls la c.maxLocals → (∀ la', kloc b ls' la' c.maxLocals → W p l e R s m args below meth c H locs cells slots Q (F0 m pc' la' (st.map (kconv b)))) → W p l e R s m args below meth c H locs cells slots Q (F0 m pc la ((v :: st).map (kconv b))))
    (hok : klok ls → kvok v → klok ls') (k : Sim G Y e (kC pc' ls' st S M) κ) : Sim G Y e (kC pc ls (v :: st) S M) κ := by
  intro hG a ha hk
  have k1 := k hG a ha hk
  obtain ⟨⟨p, l, e, R, s, m, args, below, meth, c⟩, ⟨D, dA, b, aK, aV⟩, ⟨n0, z0, nc, nz⟩, tg⟩ := G
  obtain ⟨hx, hb, hml, -⟩ := hG
  intro H locs la hM hc hl hs hn hS hlo
  exact h _ _ _ _ _ _ _ _ _ _ _ _ _ _ _ _ _ hx hb hml hlo (fun la' hlo' => k1 H locs la' hM hc (hok hl (kst_hd hs)) (kst_tl hs) hn hS hlo')

theorem s_istore_n {i : Fin 4} {x : Int} (hd : decode Y.2.1 pc = .ok (.istore_n i, 1)) (hn : (decide ((i : Nat) < Y.2.2.1) && knj ls (i : Nat)) = true) (k : Sim G Y e (kC (pc + 1) (ls.set (i : Nat) (some (VI x))) st S M) κ) : Sim G Y e (kC pc ls (VI x :: st) S M) κ := by
  simp only [Bool.and_eq_true, decide_eq_true_eq] at hn
  exact s_stg (fun _ _ _ _ _ _ _ _ _ _ _ _ _ _ _ _ _ hx hb hml hlo k => lv_istore_n hx hb hd rfl (kprs_has hlo) (by rw [hml]; exact hn.1) rfl (fun la' h' => k la' (kloc_st1 (v := VI x) hn.2 h'))) (fun h hv => klok_set h hv) k
theorem s_lstore_n {i : Fin 4} {x : Int} (hd : decode Y.2.1 pc = .ok (.lstore_n i, 1)) (hn : (decide ((i : Nat) + 1 < Y.2.2.1) && knj ls (i : Nat)) = true) (k : Sim G Y e (kC (pc + 1) ((ls.set (i : Nat) (some (VJ x))).set ((i : Nat) + 1) none) st S M) κ) : Sim G Y e (kC pc ls (VJ x :: st) S M) κ := by
  simp only [Bool.and_eq_true, decide_eq_true_eq] at hn
  exact s_stg (fun _ _ _ _ _ _ _ _ _ _ _ _ _ _ _ _ _ hx hb hml hlo k => lv_lstore_n hx hb hd rfl (kprs_has hlo) (by rw [hml]; exact hn.1) rfl (fun la' h' => k la' (kloc_st2 (v := VJ x) hn.2 h'))) (fun h hv => klok_set0 (klok_set h hv)) k
theorem s_astore_n {i : Fin 4} {x : Nat} (hd : decode Y.2.1 pc = .ok (.astore_n i, 1)) (hn : (decide ((i : Nat) < Y.2.2.1) && knj ls (i : Nat)) = true) (k : Sim G Y e (kC (pc + 1) (ls.set (i : Nat) (some (VR (some x)))) st S M) κ) : Sim G Y e (kC pc ls (VR (some x) :: st) S M) κ := by
  simp only [Bool.and_eq_true, decide_eq_true_eq] at hn
  exact s_stg (fun _ _ _ _ _ _ _ _ _ _ _ _ _ _ _ _ _ hx hb hml hlo k => lv_astore_n hx hb hd rfl (kprs_has hlo) (by rw [hml]; exact hn.1) rfl (fun la' h' => k la' (kloc_st1 (v := VR (some x)) hn.2 h'))) (fun h hv => klok_set h hv) k
theorem s_astoreN_n {i : Fin 4} (hd : decode Y.2.1 pc = .ok (.astore_n i, 1)) (hn : (decide ((i : Nat) < Y.2.2.1) && knj ls (i : Nat)) = true) (k : Sim G Y e (kC (pc + 1) (ls.set (i : Nat) (some (VR none))) st S M) κ) : Sim G Y e (kC pc ls (VR none :: st) S M) κ := by
  simp only [Bool.and_eq_true, decide_eq_true_eq] at hn
  exact s_stg (fun _ _ _ _ _ _ _ _ _ _ _ _ _ _ _ _ _ hx hb hml hlo k => lv_astore_nN hx hb hd rfl (kprs_has hlo) (by rw [hml]; exact hn.1) rfl (fun la' h' => k la' (kloc_st1 (v := VR none) hn.2 h'))) (fun h hv => klok_set h hv) k
theorem s_istore {i : Nat} {x : Int} (hd : decode Y.2.1 pc = .ok (.istore i, 2)) (hn : (decide (i < Y.2.2.1) && knj ls i) = true) (k : Sim G Y e (kC (pc + 2) (ls.set i (some (VI x))) st S M) κ) : Sim G Y e (kC pc ls (VI x :: st) S M) κ := by
  simp only [Bool.and_eq_true, decide_eq_true_eq] at hn
  exact s_stg (fun _ _ _ _ _ _ _ _ _ _ _ _ _ _ _ _ _ hx hb hml hlo k => lv_istore hx hb hd (kprs_has hlo) (by rw [hml]; exact hn.1) rfl (fun la' h' => k la' (kloc_st1 (v := VI x) hn.2 h'))) (fun h hv => klok_set h hv) k
theorem s_lstore {i : Nat} {x : Int} (hd : decode Y.2.1 pc = .ok (.lstore i, 2)) (hn : (decide (i + 1 < Y.2.2.1) && knj ls i) = true) (k : Sim G Y e (kC (pc + 2) ((ls.set i (some (VJ x))).set (i + 1) none) st S M) κ) : Sim G Y e (kC pc ls (VJ x :: st) S M) κ := by
  simp only [Bool.and_eq_true, decide_eq_true_eq] at hn
  exact s_stg (fun _ _ _ _ _ _ _ _ _ _ _ _ _ _ _ _ _ hx hb hml hlo k => lv_lstore hx hb hd (kprs_has hlo) (by rw [hml]; exact hn.1) rfl (fun la' h' => k la' (kloc_st2 (v := VJ x) hn.2 h'))) (fun h hv => klok_set0 (klok_set h hv)) k
theorem s_astore {i : Nat} {x : Nat} (hd : decode Y.2.1 pc = .ok (.astore i, 2)) (hn : (decide (i < Y.2.2.1) && knj ls i) = true) (k : Sim G Y e (kC (pc + 2) (ls.set i (some (VR (some x)))) st S M) κ) : Sim G Y e (kC pc ls (VR (some x) :: st) S M) κ := by
  simp only [Bool.and_eq_true, decide_eq_true_eq] at hn
  exact s_stg (fun _ _ _ _ _ _ _ _ _ _ _ _ _ _ _ _ _ hx hb hml hlo k => lv_astore hx hb hd (kprs_has hlo) (by rw [hml]; exact hn.1) rfl (fun la' h' => k la' (kloc_st1 (v := VR (some x)) hn.2 h'))) (fun h hv => klok_set h hv) k
theorem s_astoreN {i : Nat} (hd : decode Y.2.1 pc = .ok (.astore i, 2)) (hn : (decide (i < Y.2.2.1) && knj ls i) = true) (k : Sim G Y e (kC (pc + 2) (ls.set i (some (VR none))) st S M) κ) : Sim G Y e (kC pc ls (VR none :: st) S M) κ := by
  simp only [Bool.and_eq_true, decide_eq_true_eq] at hn
  exact s_stg (fun _ _ _ _ _ _ _ _ _ _ _ _ _ _ _ _ _ hx hb hml hlo k => lv_astoreN hx hb hd (kprs_has hlo) (by rw [hml]; exact hn.1) rfl (fun la' h' => k la' (kloc_st1 (v := VR none) hn.2 h'))) (fun h hv => klok_set h hv) k
theorem s_iinc {i : Nat} {n x : Int} (hd : decode Y.2.1 pc = .ok (.iinc i n, 3)) (hl : ls[i]? = some (some (VI x))) (hn : (decide (i < Y.2.2.1) && knj ls i) = true) (k : Sim G Y e (kC (pc + 3) (ls.set i (some (VI (w32 (x + n))))) st S M) κ) : Sim G Y e (kC pc ls st S M) κ := by
  simp only [Bool.and_eq_true, decide_eq_true_eq] at hn
  intro hG a ha hk
  have k1 := k hG a ha hk
  obtain ⟨⟨p, l, e, R, s, m, args, below, meth, c⟩, ⟨D, dA, b, aK, aV⟩, ⟨n0, z0, nc, nz⟩, tg⟩ := G
  obtain ⟨hx, hb, hml, -⟩ := hG
  intro H locs la hM hc hl0 hs hn0 hS hlo
  obtain ⟨k0, hk0⟩ := List.mem_iff_getElem?.mp (kprs_in.mpr ⟨_, hl, rfl⟩ : (i, kconv b (VI x)) ∈ kprs b ls)
  refine lv_iinc (v := Int32.ofInt (w32 (x + n))) hx hb hd (kprs_has hlo) hk0 (by rw [w32_of, Int32.ofInt_add]) (by rw [hml]; exact hn.1) rfl (fun la' h' => ?_)
  exact k1 H locs la' hM hc (klok_set hl0 (w32_R _)) hs hn0 hS (kloc_st1 (v := VI (w32 (x + n))) hn.2 h')
theorem s_iincW {i : Nat} {n x : Int} (hd : decode Y.2.1 pc = .ok (.iinc i n, 6)) (hl : ls[i]? = some (some (VI x))) (hn : (decide (i < Y.2.2.1) && knj ls i) = true) (k : Sim G Y e (kC (pc + 6) (ls.set i (some (VI (w32 (x + n))))) st S M) κ) : Sim G Y e (kC pc ls st S M) κ := by
  simp only [Bool.and_eq_true, decide_eq_true_eq] at hn
  intro hG a ha hk
  have k1 := k hG a ha hk
  obtain ⟨⟨p, l, e, R, s, m, args, below, meth, c⟩, ⟨D, dA, b, aK, aV⟩, ⟨n0, z0, nc, nz⟩, tg⟩ := G
  obtain ⟨hx, hb, hml, -⟩ := hG
  intro H locs la hM hc hl0 hs hn0 hS hlo
  obtain ⟨k0, hk0⟩ := List.mem_iff_getElem?.mp (kprs_in.mpr ⟨_, hl, rfl⟩ : (i, kconv b (VI x)) ∈ kprs b ls)
  refine lv_iincW (v := Int32.ofInt (w32 (x + n))) hx hb hd (kprs_has hlo) hk0 (by rw [w32_of, Int32.ofInt_add]) (by rw [hml]; exact hn.1) rfl (fun la' h' => ?_)
  exact k1 H locs la' hM hc (klok_set hl0 (w32_R _)) hs hn0 hS (kloc_st1 (v := VI (w32 (x + n))) hn.2 h')
theorem s_iadd {x y : Int} (hd : decode Y.2.1 pc = .ok (.iadd, 1)) (k : Sim G Y e (kC (pc + 1) ls (VI (w32 (x + y)) :: st) S M) κ) : Sim G Y e (kC pc ls (VI y :: VI x :: st) S M) κ :=
  s_pure (st' := VI (w32 (x + y)) :: st) (fun _ _ _ _ _ _ _ _ _ _ _ _ _ _ _ _ _ hx hb hs k => lv_iadd hx hb hd (by have k := k; simp only [List.map_cons, kconv] at k ⊢; rwa [w32_of, Int32.ofInt_add] at k)) (fun h => kst_I (w32_R _) (kst_tl (kst_tl h))) k
theorem s_isub {x y : Int} (hd : decode Y.2.1 pc = .ok (.isub, 1)) (k : Sim G Y e (kC (pc + 1) ls (VI (w32 (x - y)) :: st) S M) κ) : Sim G Y e (kC pc ls (VI y :: VI x :: st) S M) κ :=
  s_pure (st' := VI (w32 (x - y)) :: st) (fun _ _ _ _ _ _ _ _ _ _ _ _ _ _ _ _ _ hx hb hs k => lv_isub hx hb hd (by have k := k; simp only [List.map_cons, kconv] at k ⊢; rwa [w32_of, Int32.ofInt_sub] at k)) (fun h => kst_I (w32_R _) (kst_tl (kst_tl h))) k
theorem s_imul {x y : Int} (hd : decode Y.2.1 pc = .ok (.imul, 1)) (k : Sim G Y e (kC (pc + 1) ls (VI (w32 (x * y)) :: st) S M) κ) : Sim G Y e (kC pc ls (VI y :: VI x :: st) S M) κ :=
  s_pure (st' := VI (w32 (x * y)) :: st) (fun _ _ _ _ _ _ _ _ _ _ _ _ _ _ _ _ _ hx hb hs k => lv_imul hx hb hd (by have k := k; simp only [List.map_cons, kconv] at k ⊢; rwa [w32_of, Int32.ofInt_mul] at k)) (fun h => kst_I (w32_R _) (kst_tl (kst_tl h))) k
theorem s_iand {x y : Int} (hd : decode Y.2.1 pc = .ok (.iand, 1)) (k : Sim G Y e (kC (pc + 1) ls (VI (kiand x y) :: st) S M) κ) : Sim G Y e (kC pc ls (VI y :: VI x :: st) S M) κ :=
  s_pure (st' := VI (kiand x y) :: st) (fun _ _ _ _ _ _ _ _ _ _ _ _ _ _ _ _ _ hx hb hs k => lv_iand hx hb hd (by have k := k; simp only [List.map_cons, kconv] at k ⊢; rwa [kiand, Int32.ofInt_toInt] at k)) (fun h => kst_I (R32_i _) (kst_tl (kst_tl h))) k
theorem s_ior {x y : Int} (hd : decode Y.2.1 pc = .ok (.ior, 1)) (k : Sim G Y e (kC (pc + 1) ls (VI (kior x y) :: st) S M) κ) : Sim G Y e (kC pc ls (VI y :: VI x :: st) S M) κ :=
  s_pure (st' := VI (kior x y) :: st) (fun _ _ _ _ _ _ _ _ _ _ _ _ _ _ _ _ _ hx hb hs k => lv_ior hx hb hd (by have k := k; simp only [List.map_cons, kconv] at k ⊢; rwa [kior, Int32.ofInt_toInt] at k)) (fun h => kst_I (R32_i _) (kst_tl (kst_tl h))) k
theorem s_ixor {x y : Int} (hd : decode Y.2.1 pc = .ok (.ixor, 1)) (k : Sim G Y e (kC (pc + 1) ls (VI (kixor x y) :: st) S M) κ) : Sim G Y e (kC pc ls (VI y :: VI x :: st) S M) κ :=
  s_pure (st' := VI (kixor x y) :: st) (fun _ _ _ _ _ _ _ _ _ _ _ _ _ _ _ _ _ hx hb hs k => lv_ixor hx hb hd (by have k := k; simp only [List.map_cons, kconv] at k ⊢; rwa [kixor, Int32.ofInt_toInt] at k)) (fun h => kst_I (R32_i _) (kst_tl (kst_tl h))) k
end KR
