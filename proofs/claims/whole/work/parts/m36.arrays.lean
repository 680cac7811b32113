section KA
variable {α : Type} {G : Gam} {Y : KY} {e e1 e2 : Option α} {κ : α → KCf} {pc : Nat} {ls : List (Option KV)} {st : List KV} {S : KS} {M : KM}
theorem kin_of {i : Int} {n : Nat} (h : 0 ≤ i ∧ i < (n : Int)) (hr : R32 i) : vp_in (Int32.ofInt i) n ∧ (Int32.ofInt i).toNatClampNeg = i.toNat := by
  have e : (Int32.ofInt i).toNatClampNeg = i.toNat := Int32.toNatClampNeg_ofInt_of_le hr.1 hr.2
  refine ⟨?_, e⟩
  rintro (q | q)
  · have := (i32_lt hr R32_0).mp q
    omega
  · rw [e] at q
    omega
/-- a row that reads the world and writes nothing -/
theorem s_rd {pc' : Nat} {st' : List KV} (h : ∀ (p : Program) (l : Launch) (e : Env) (R : Room) (s : State) (m : MethodId) (args : Array Value) (below : List Frame) (meth : Method) (c : Code) (H : Heap) (locs : List Loc) (cells slots : Nat) (Q : State → Prop) (la : Array Slot) (b : Nat) (D : va_G) (dA : Nat → ClassId), p.tables.exec = Jvm.exec → c.code = Y.2.1 → va_K D kcl (ktys dA) s → va_P D kcl (kws dA b S M) H → kst st → W p l e R s m args below meth c H locs cells slots Q (F0 m pc' la (st'.map (kconv b))) → W p l e R s m args below meth c H locs cells slots Q (F0 m pc la (st.map (kconv b))))
    (hok : kcan S M → kst st → kst st') (k : Sim G Y e (kC pc' ls st' S M) κ) : Sim G Y e (kC pc ls st S M) κ := by
  intro hG a ha hk
  have k1 := k hG a ha hk
  obtain ⟨⟨p, l, e, R, s, m, args, below, meth, c⟩, ⟨D, dA, b, aK, aV⟩, ⟨n0, z0, nc, nz⟩, tg⟩ := G
  obtain ⟨hx, hb, hml, hown, hts, hr, hlk, hK, hR, hlow⟩ := hG
  intro H locs la hM hc hl hs hn hS hlo
  exact h _ _ _ _ _ _ _ _ _ _ _ _ _ _ _ _ _ _ _ hx hb hK hM.1 hs (k1 H locs la hM hc hl (hok hc hs) hn hS hlo)
theorem s_if {P : Prop} {dP : Decidable P} {cf : KCf} (h : P → Sim G Y e cf κ) : Sim G Y (@ite (Option α) P dP e none) cf κ := by
  intro hG a ha
  by_cases hP : P
  · rw [if_pos hP] at ha
    exact h hP hG a ha
  · rw [if_neg hP] at ha; cases ha
def kak : Nat → Option Nat
  | 20 => some 0
  | 21 => some 1
  | 22 => some 2
  | 23 => some 3
  | 24 => some 4
  | _ => none
theorem s_alen {k t n : Nat} {N : Int} {rs : List (Option Nat)} (hd : decode Y.2.1 pc = .ok (.arraylength, 1)) (hS : S[k]? = some ((t, n), rs)) (ht : (kak t).isSome = true) (hN : N = (n : Int)) (hn : n < 2147483648) (kk : Sim G Y e (kC (pc + 1) ls (VI N :: st) S M) κ) : Sim G Y e (kC pc ls (VR (some k) :: st) S M) κ := by
  subst hN
  refine s_rd (st' := VI (n : Int) :: st) (fun p l e R s m args below meth c H locs cells slots Q la b D dA hx hb hK hP hs kk => ?_) (fun _ h => kst_I (by constructor <;> omega) (kst_tl h)) kk
  have hv : Int32.ofNat n = Int32.ofInt (n : Int) := Int32.ofInt_eq_ofNat.symm
  have hw := kws_get (dA := dA) (b := b) (M := M) hS
  unfold kak at ht
  split at ht
  · exact va_alen hx hb hK hP k 0 (cA := dA 0) (x := (n, .inl fun j => Int32.ofInt (M k j))) hw rfl hv hd kk
  · exact va_alen hx hb hK hP k 1 (cA := dA 1) (x := (n, .inr (.inl fun j => Int64.ofInt (M k j)))) hw rfl hv hd kk
  · exact va_alen hx hb hK hP k 2 (cA := dA 2) (x := (n, .inl fun j => Int32.ofInt (M k j))) hw rfl hv hd kk
  · exact va_alen hx hb hK hP k 3 (cA := dA 3) (x := (n, .inl fun j => Int32.ofInt (M k j))) hw rfl hv hd kk
  · exact va_alen hx hb hK hP k 4 (cA := dA 4) (x := (n, .inr (.inr (.inr (.inr fun j => (rs.getD j none).map (b + ·)))))) hw rfl hv hd kk
  · cases ht
theorem s_iald {k n : Nat} {i N : Int} {rs : List (Option Nat)} (hd : decode Y.2.1 pc = .ok (.iaload, 1)) (hS : S[k]? = some ((20, n), rs)) (hN : N = (n : Int)) (kk : Sim G Y e (kC (pc + 1) ls (VI (M k i.toNat) :: st) S M) κ) : Sim G Y (if 0 ≤ i ∧ i < N then e else none) (kC pc ls (VI i :: VR (some k) :: st) S M) κ := by
  subst hN
  refine s_if fun hi => s_rd (st' := VI (M k i.toNat) :: st) (fun p l e R s m args below meth c H locs cells slots Q la b D dA hx hb hK hP hs kk => ?_) (fun hc h => kst_I (hc k _ hS _) (kst_tl (kst_tl h))) kk
  obtain ⟨h1, h2⟩ := kin_of hi (kst_hI hs)
  refine va_iald hx hb hK hP k 0 (cA := dA 0) (n := n) (f := fun j => Int32.ofInt (M k j)) (kws_get hS) rfl h1 hd ?_
  rw [h2]
  exact kk
theorem s_bald {k n : Nat} {i N : Int} {rs : List (Option Nat)} (hd : decode Y.2.1 pc = .ok (.baload, 1)) (hS : S[k]? = some ((22, n), rs)) (hN : N = (n : Int)) (kk : Sim G Y e (kC (pc + 1) ls (VI (M k i.toNat) :: st) S M) κ) : Sim G Y (if 0 ≤ i ∧ i < N then e else none) (kC pc ls (VI i :: VR (some k) :: st) S M) κ := by
  subst hN
  refine s_if fun hi => s_rd (st' := VI (M k i.toNat) :: st) (fun p l e R s m args below meth c H locs cells slots Q la b D dA hx hb hK hP hs kk => ?_) (fun hc h => kst_I (by have h : -128 ≤ M k i.toNat ∧ M k i.toNat < 128 := hc k _ hS i.toNat; constructor <;> omega) (kst_tl (kst_tl h))) kk
  obtain ⟨h1, h2⟩ := kin_of hi (kst_hI hs)
  refine va_bald hx hb hK hP k 2 (cA := dA 2) (n := n) (f := fun j => Int32.ofInt (M k j)) (kws_get hS) rfl h1 hd ?_
  rw [h2]
  exact kk
theorem s_zald {k n : Nat} {i N : Int} {rs : List (Option Nat)} (hd : decode Y.2.1 pc = .ok (.baload, 1)) (hS : S[k]? = some ((23, n), rs)) (hN : N = (n : Int)) (kk : Sim G Y e (kC (pc + 1) ls (VI (M k i.toNat) :: st) S M) κ) : Sim G Y (if 0 ≤ i ∧ i < N then e else none) (kC pc ls (VI i :: VR (some k) :: st) S M) κ := by
  subst hN
  refine s_if fun hi => s_rd (st' := VI (M k i.toNat) :: st) (fun p l e R s m args below meth c H locs cells slots Q la b D dA hx hb hK hP hs kk => ?_) (fun hc h => kst_I (by have h : 0 ≤ M k i.toNat ∧ M k i.toNat ≤ 1 := hc k _ hS i.toNat; constructor <;> omega) (kst_tl (kst_tl h))) kk
  obtain ⟨h1, h2⟩ := kin_of hi (kst_hI hs)
  refine va_zald hx hb hK hP k 3 (cA := dA 3) (n := n) (f := fun j => Int32.ofInt (M k j)) (kws_get hS) rfl h1 hd ?_
  rw [h2]
  exact kk
theorem s_lald {k n : Nat} {i N : Int} {rs : List (Option Nat)} (hd : decode Y.2.1 pc = .ok (.laload, 1)) (hS : S[k]? = some ((21, n), rs)) (hN : N = (n : Int)) (kk : Sim G Y e (kC (pc + 1) ls (VJ (M k i.toNat) :: st) S M) κ) : Sim G Y (if 0 ≤ i ∧ i < N then e else none) (kC pc ls (VI i :: VR (some k) :: st) S M) κ := by
  subst hN
  refine s_if fun hi => s_rd (st' := VJ (M k i.toNat) :: st) (fun p l e R s m args below meth c H locs cells slots Q la b D dA hx hb hK hP hs kk => ?_) (fun hc h => kst_J (hc k _ hS _) (kst_tl (kst_tl h))) kk
  obtain ⟨h1, h2⟩ := kin_of hi (kst_hI hs)
  refine va_lald hx hb hK hP k 1 (cA := dA 1) (n := n) (f := fun j => Int64.ofInt (M k j)) (kws_get hS) rfl h1 hd ?_
  rw [h2]
  exact kk
theorem s_aald {k n : Nat} {i N : Int} {rs : List (Option Nat)} {o : Option Nat} (hd : decode Y.2.1 pc = .ok (.aaload, 1)) (hS : S[k]? = some ((24, n), rs)) (hN : N = (n : Int)) (ho : 0 ≤ i ∧ i < N → rs.getD i.toNat none = o) (kk : Sim G Y e (kC (pc + 1) ls (VR o :: st) S M) κ) : Sim G Y (if 0 ≤ i ∧ i < N then e else none) (kC pc ls (VI i :: VR (some k) :: st) S M) κ := by
  subst hN
  refine s_if fun hi => s_rd (st' := VR o :: st) (fun p l e R s m args below meth c H locs cells slots Q la b D dA hx hb hK hP hs kk => ?_) (fun hc h => kst_R (kst_tl (kst_tl h))) kk
  obtain ⟨h1, h2⟩ := kin_of hi (kst_hI hs)
  refine va_aldq hx hb hK hP k 4 (cA := dA 4) (n := n) (f := fun j => (rs.getD j none).map (b + ·)) (kws_get hS) rfl h1 hd ?_
  rw [h2, ho hi]
  exact kk
theorem kMem_cell {D : va_G} {dA : Nat → ClassId} {b k : Nat} {H H1 : Heap} {q : KQ} {M' : KM} {e0 : va_E} (hM : kMem D dA b S M H) (hS : S[k]? = some q) (hM' : ∀ k', k' ≠ k → M' k' = M k') (he0 : kent dA b q (M' k) = e0) (he : va_at D kcl (b + k, e0) H1) (oq : ∀ q : Nat, q ≠ b + k → H1[q]? = H[q]?) (hz : H1.size = H.size) : kMem D dA b S M' H1 := by
  refine ⟨?_, hz.trans hM.2⟩
  have h := hM.1.set (kws_D (dA := dA) (b := b)) (kws_get hS) he oq
  have e : (kws dA b S M).set k (b + k, e0) = kws dA b S M' := by
    rw [← he0]
    apply List.ext_getElem?
    intro j
    rw [List.getElem?_set]
    by_cases hj : k = j
    · subst hj
      rw [if_pos rfl, if_pos (List.getElem?_eq_some_iff.mp (kws_get (dA := dA) (b := b) (M := M) hS)).1, kws_get hS]
    · rw [if_neg hj]
      unfold kws
      rw [List.getElem?_mapIdx, List.getElem?_mapIdx, hM' j (fun h => hj h.symm)]
  rw [e] at h
  exact h
/-- a row that writes one cell -/
theorem s_wr {pc' k : Nat} {st' : List KV} {q : KQ} {M' : KM} (hS : S[k]? = some q) (hM' : ∀ k', k' ≠ k → M' k' = M k')
    (h : ∀ (p : Program) (l : Launch) (e : Env) (R : Room) (s : State) (m : MethodId) (args : Array Value) (below : List Frame) (meth : Method) (c : Code) (H : Heap) (locs : List Loc) (cells slots : Nat) (Q : State → Prop) (la : Array Slot) (b : Nat) (D : va_G) (dA : Nat → ClassId), p.tables.exec = Jvm.exec → c.code = Y.2.1 → la.size = c.maxLocals → s.vm.findClass Y.1 = some m.cls → (∀ w ∈ tbg, w.before args s = true) → Y.2.2.2.2 ≤ R.frames → 64 * Y.2.2.2.2 ≤ R.locals → va_K D kcl (ktys dA) s → va_P D kcl (kws dA b S M) H → kcan S M → kst st →
      (∀ (H1 : Heap) (locs1 : List Loc), va_at D kcl (b + k, kent dA b q (M' k)) H1 → (∀ q : Nat, q ≠ b + k → H1[q]? = H[q]?) → H1.size = H.size → (∀ x ∈ locs1, x ∈ locs ∨ x.base = b + k) → W p l e R s m args below meth c H1 locs1 cells slots Q (F0 m pc' la (st'.map (kconv b)))) → W p l e R s m args below meth c H locs cells slots Q (F0 m pc la (st.map (kconv b))))
    (hok : kst st → kst st') (hcan : kcan S M → kst st → kcan S M') (k : Sim G Y e (kC pc' ls st' S M') κ) : Sim G Y e (kC pc ls st S M) κ := by
  intro hG a ha hk
  have k1 := k hG a ha hk
  obtain ⟨⟨p, l, e, R, s, m, args, below, meth, c⟩, ⟨D, dA, b, aK, aV⟩, ⟨n0, z0, nc, nz⟩, tg⟩ := G
  obtain ⟨hx, hb, hml, hown, hts, hr, hlk, hK, hR, hlow⟩ := hG
  intro H locs la hM hc hl hs hn hSS hlo
  refine h _ _ _ _ _ _ _ _ _ _ _ _ _ _ _ _ _ _ _ hx hb hlo.1 hown hts hR.1 hR.2.1 hK hM.1 hc hs (fun H1 locs1 he oq hz hL => ?_)
  refine k1 H1 locs1 la (kMem_cell hM hS hM' rfl he oq hz) (hcan hc hs) hl (hok hs) hn ⟨by rw [hz]; exact hSS.1, fun q g1 g2 => ?_, fun x hx => ?_⟩ hlo
  · rw [oq q (fun e => g2 (by show b ≤ q; omega))]
    exact hSS.2.1 q g1 g2
  · rcases hL x hx with h | h
    · exact hSS.2.2 x h
    · show b ≤ x.base
      rw [h]
      exact Nat.le_add_right _ _
theorem mupd_off {k j : Nat} {x : Int} : ∀ k', k' ≠ k → mupd M k j x k' = M k' := fun k' h => by
  funext i
  unfold mupd
  rw [if_neg (fun q => h q.1)]
theorem kup32 {k j : Nat} {x : Int} {X : Int32} (hX : X = Int32.ofInt x) : upd (fun i => Int32.ofInt (M k i)) j X = fun i => Int32.ofInt (mupd M k j x k i) := by
  funext i
  unfold upd mupd
  by_cases h : i = j
  · rw [if_pos h, if_pos ⟨rfl, h⟩, hX]
  · rw [if_neg h, if_neg (fun q => h q.2)]
theorem arrI_set {cA : ClassId} {n j k : Nat} {x : Int} {X : Int32} (hX : X = Int32.ofInt x) : (arrV cA n (fun i => .int (Int32.ofInt (M k i)))).setSlot j (.int X) = arrV cA n (fun i => .int (Int32.ofInt (mupd M k j x k i))) := by
  rw [arrV_store]
  congr 1
  funext i
  unfold updV mupd
  by_cases h : i = j
  · rw [if_pos h, if_pos ⟨rfl, h⟩, hX]
  · rw [if_neg h, if_neg (fun q => h q.2)]
theorem s_iast {k n : Nat} {i x N : Int} {rs : List (Option Nat)} (hd : decode Y.2.1 pc = .ok (.iastore, 1)) (hS : S[k]? = some ((20, n), rs)) (hN : N = (n : Int)) (kk : Sim G Y e (kC (pc + 1) ls st S (mupd M k i.toNat x)) κ) : Sim G Y (if 0 ≤ i ∧ i < N then e else none) (kC pc ls (VI x :: VI i :: VR (some k) :: st) S M) κ := by
  subst hN
  refine s_if fun hi => s_wr (st' := st) hS mupd_off (fun p l e R s m args below meth c H locs cells slots Q la b D dA hx hb hml hown hts hfr hlo hK hP hc hs kk => ?_) (fun h => kst_tl (kst_tl (kst_tl h))) (fun hc h => kcan_upd hc hS (kst_hI h)) kk
  obtain ⟨h1, h2⟩ := kin_of hi (kst_hI (kst_tl hs))
  refine W.iast (j := Int32.ofInt i) (x := Int32.ofInt x) hx hb (hP k _ (kws_get hS)) ((hK.2 0 _ rfl).1 n (fun j => .int (Int32.ofInt (M k j)))) (fun q => by cases q) (by show ¬ (_ ∨ (arrV _ _ _).slots.size ≤ _); rw [arrV_size]; exact h1) rfl rfl hd fun H1 e z oq => ?_
  refine kk H1 _ ?_ oq z (fun y hy => ?_)
  · show H1[b + k]? = some (vp_cell _ _)
    rw [e, h2]
    exact congrArg some (arrI_set rfl)
  · rcases List.mem_append.mp hy with h | h
    · exact Or.inl h
    · rw [List.mem_singleton] at h; subst h; exact Or.inr rfl
theorem s_bast {k n : Nat} {i x N : Int} {rs : List (Option Nat)} (hd : decode Y.2.1 pc = .ok (.bastore, 1)) (hS : S[k]? = some ((22, n), rs)) (hN : N = (n : Int)) (kk : Sim G Y e (kC (pc + 1) ls st S (mupd M k i.toNat (kw8 x))) κ) : Sim G Y (if 0 ≤ i ∧ i < N then e else none) (kC pc ls (VI x :: VI i :: VR (some k) :: st) S M) κ := by
  subst hN
  refine s_if fun hi => s_wr (st' := st) hS mupd_off (fun p l e R s m args below meth c H locs cells slots Q la b D dA hx hb hml hown hts hfr hlo hK hP hc hs kk => ?_) (fun h => kst_tl (kst_tl (kst_tl h))) (fun hc h => kcan_upd hc hS (kw8_R x)) kk
  obtain ⟨h1, h2⟩ := kin_of hi (kst_hI (kst_tl hs))
  refine W.bast (j := Int32.ofInt i) (x := Int32.ofInt x) hx hb (hP k _ (kws_get hS)) ((hK.2 2 _ rfl).1 n (fun j => .int (Int32.ofInt (M k j)))) (fun q => by cases q) (by show ¬ (_ ∨ (arrV _ _ _).slots.size ≤ _); rw [arrV_size]; exact h1) rfl rfl hd fun H1 e z oq => ?_
  refine kk H1 _ ?_ oq z (fun y hy => ?_)
  · show H1[b + k]? = some (vp_cell _ _)
    rw [e, h2]
    exact congrArg some (arrI_set (kw8_of x).symm)
  · rcases List.mem_append.mp hy with h | h
    · exact Or.inl h
    · rw [List.mem_singleton] at h; subst h; exact Or.inr rfl
theorem s_zast {k n : Nat} {i x N : Int} {rs : List (Option Nat)} (hd : decode Y.2.1 pc = .ok (.bastore, 1)) (hS : S[k]? = some ((23, n), rs)) (hN : N = (n : Int)) (kk : Sim G Y e (kC (pc + 1) ls st S (mupd M k i.toNat x)) κ) : Sim G Y (if (0 ≤ i ∧ i < N) ∧ (0 ≤ x ∧ x ≤ 1) then e else none) (kC pc ls (VI x :: VI i :: VR (some k) :: st) S M) κ := by
  subst hN
  refine s_if fun hi => s_wr (st' := st) hS mupd_off (fun p l e R s m args below meth c H locs cells slots Q la b D dA hx hb hml hown hts hfr hlo hK hP hc hs kk => ?_) (fun h => kst_tl (kst_tl (kst_tl h))) (fun hc h => kcan_upd hc hS hi.2) kk
  obtain ⟨h1, h2⟩ := kin_of hi.1 (kst_hI (kst_tl hs))
  refine W.zast (j := Int32.ofInt i) (x := Int32.ofInt x) hx hb (hP k _ (kws_get hS)) ((hK.2 3 _ rfl).1 n (fun j => .int (Int32.ofInt (M k j)))) (fun q => by cases q) (by show ¬ (_ ∨ (arrV _ _ _).slots.size ≤ _); rw [arrV_size]; exact h1) rfl rfl hd fun H1 e z oq => ?_
  refine kk H1 _ ?_ oq z (fun y hy => ?_)
  · show H1[b + k]? = some (vp_cell _ _)
    rw [e, h2]
    refine congrArg some ?_
    have : x = 0 ∨ x = 1 := by omega
    rcases this with rfl | rfl
    · exact arrI_set rfl
    · exact arrI_set rfl
  · rcases List.mem_append.mp hy with h | h
    · exact Or.inl h
    · rw [List.mem_singleton] at h; subst h; exact Or.inr rfl
theorem s_last {k n : Nat} {i x N : Int} {rs : List (Option Nat)} (hd : decode Y.2.1 pc = .ok (.lastore, 1)) (hS : S[k]? = some ((21, n), rs)) (hN : N = (n : Int)) (kk : Sim G Y e (kC (pc + 1) ls st S (mupd M k i.toNat x)) κ) : Sim G Y (if 0 ≤ i ∧ i < N then e else none) (kC pc ls (VJ x :: VI i :: VR (some k) :: st) S M) κ := by
  subst hN
  refine s_if fun hi => s_wr (st' := st) hS mupd_off (fun p l e R s m args below meth c H locs cells slots Q la b D dA hx hb hml hown hts hfr hlo hK hP hc hs kk => ?_) (fun h => kst_tl (kst_tl (kst_tl h))) (fun hc h => kcan_upd hc hS (kst_hd h : kvok (VJ x))) kk
  obtain ⟨h1, h2⟩ := kin_of hi (kst_hI (kst_tl hs))
  refine W.last (j := Int32.ofInt i) (x := Int64.ofInt x) hx hb (hP k _ (kws_get hS)) ((hK.2 1 _ rfl).1 n (fun j => .long (Int64.ofInt (M k j)))) (fun q => by cases q) (by show ¬ (_ ∨ (arrV _ _ _).slots.size ≤ _); rw [arrV_size]; exact h1) rfl rfl hd fun H1 e z oq => ?_
  refine kk H1 _ ?_ oq z (fun y hy => ?_)
  · show H1[b + k]? = some (vp_cell _ _)
    rw [e, h2]
    refine congrArg some ?_
    show (arrV (dA 1) n (fun j => .long (Int64.ofInt (M k j)))).setSlot i.toNat (.long (Int64.ofInt x)) = arrV (dA 1) n (fun j => .long (Int64.ofInt (mupd M k i.toNat x k j)))
    rw [arrV_store]
    congr 1
    funext j
    unfold updV mupd
    by_cases h : j = i.toNat
    · rw [if_pos h, if_pos ⟨rfl, h⟩]
    · rw [if_neg h, if_neg (fun q => h q.2)]
  · rcases List.mem_append.mp hy with h | h
    · exact Or.inl h
    · rw [List.mem_singleton] at h; subst h; exact Or.inr rfl
end KA
