/-! VALUES AND CELLS -/
abbrev KV : Type := (Int ⊕ Int) ⊕ (Option Nat ⊕ Nat)
abbrev VI (n : Int) : KV := .inl (.inl n)
abbrev VJ (n : Int) : KV := .inl (.inr n)
abbrev VR (o : Option Nat) : KV := .inr (.inl o)
abbrev VA (a : Nat) : KV := .inr (.inr a)
def kconv (b : Nat) : KV → Value
  | .inl (.inl n) => .int (Int32.ofInt n)
  | .inl (.inr n) => .long (Int64.ofInt n)
  | .inr (.inl o) => va_rf (o.map (b + ·))
  | .inr (.inr a) => .ref a
def kcat : KV → Nat
  | .inl (.inr _) => 2
  | _ => 1
theorem kconv_cat (b : Nat) (v : KV) : (kconv b v).category = kcat v := by
  rcases v with (n | n) | (o | a)
  · rfl
  · rfl
  · cases o <;> rfl
  · rfl
/-- a cell: its kind (below 13: an object of that class; 20 int[], 21 long[], 22 byte[], 23 boolean[], 24 State[]) and its length, the references it holds -/
abbrev KQ : Type := (Nat × Nat) × List (Option Nat)
abbrev KS : Type := List KQ
/-- what a type's cells may hold -/
def kbd : FieldType → Int → Prop
  | .long, n => R64 n
  | .boolean, n => 0 ≤ n ∧ n ≤ 1
  | .byte, n => -128 ≤ n ∧ n < 128
  | _, n => R32 n
def kir : FieldType → Bool
  | .object _ => true
  | .array _ => true
  | _ => false
def kval : FieldType → Int → Value
  | .long, n => .long (Int64.ofInt n)
  | _, n => .int (Int32.ofInt n)
def kety (kind j : Nat) : FieldType :=
  if kind = 20 then .int else if kind = 21 then .long else if kind = 22 then .byte else if kind = 23 then .boolean else if kind = 24 then .int else kTy kind j
def kfld (b c : Nat) (rs : List (Option Nat)) (mi : Nat → Int) (j : Nat) : Value :=
  if kir (kTy c j) = true then va_rf ((rs.getD j none).map (b + ·)) else kval (kTy c j) (mi j)
def kent (dA : Nat → ClassId) (b : Nat) (q : KQ) (mi : Nat → Int) : va_E :=
  if q.1.1 = 20 then .inl (dA 0, q.1.2, .inl fun j => Int32.ofInt (mi j))
  else if q.1.1 = 21 then .inl (dA 1, q.1.2, .inr (.inl fun j => Int64.ofInt (mi j)))
  else if q.1.1 = 22 then .inl (dA 2, q.1.2, .inl fun j => Int32.ofInt (mi j))
  else if q.1.1 = 23 then .inl (dA 3, q.1.2, .inl fun j => Int32.ofInt (mi j))
  else if q.1.1 = 24 then .inl (dA 4, q.1.2, .inr (.inr (.inr (.inr fun j => (q.2.getD j none).map (b + ·)))))
  else .inr (q.1.1, (List.range q.1.2).map (kfld b q.1.1 q.2 mi))
def kws (dA : Nat → ClassId) (b : Nat) (S : KS) (M : KM) : va_W := S.mapIdx fun k q => (b + k, kent dA b q (M k))
def ktys (dA : Nat → ClassId) : List (ClassId × FieldType) := [(dA 0, .int), (dA 1, .long), (dA 2, .byte), (dA 3, .boolean), (dA 4, .object "YearHands$State")]
theorem kws_get {dA : Nat → ClassId} {b : Nat} {S : KS} {M : KM} {k : Nat} {q : KQ} (h : S[k]? = some q) : (kws dA b S M)[k]? = some (b + k, kent dA b q (M k)) := by
  unfold kws
  rw [List.getElem?_mapIdx, h]
  rfl
theorem kws_of {dA : Nat → ClassId} {b : Nat} {S : KS} {M : KM} {k : Nat} {e : Nat × va_E} (h : (kws dA b S M)[k]? = some e) : ∃ q, S[k]? = some q ∧ e = (b + k, kent dA b q (M k)) := by
  unfold kws at h
  rw [List.getElem?_mapIdx] at h
  cases hq : S[k]? with
  | none => rw [hq] at h; cases h
  | some q => rw [hq] at h; exact ⟨q, rfl, (Option.some.inj h).symm⟩
theorem kws_D {dA : Nat → ClassId} {b : Nat} {S : KS} {M : KM} : va_D (fun q => b ≤ q) (kws dA b S M) := by
  refine ⟨fun i j p q hi hj he => ?_, fun k q h => ?_⟩
  · obtain ⟨_, -, rfl⟩ := kws_of hi
    obtain ⟨_, -, rfl⟩ := kws_of hj
    have he : b + i = b + j := he
    omega
  · obtain ⟨_, -, rfl⟩ := kws_of h
    exact Nat.le_add_right _ _
theorem kws_set {dA : Nat → ClassId} {b : Nat} {S : KS} {M : KM} {k i : Nat} {v : Int} {q : KQ} (h : S[k]? = some q) :
    (kws dA b S M).set k (b + k, kent dA b q (mupd M k i v k)) = kws dA b S (mupd M k i v) := by
  apply List.ext_getElem?
  intro j
  rw [List.getElem?_set]
  by_cases hj : k = j
  · subst hj
    have hl : k < (kws dA b S M).length := by
      have := kws_get (dA := dA) (b := b) (M := M) h
      exact (List.getElem?_eq_some_iff.mp this).1
    rw [if_pos rfl, if_pos hl, kws_get h]
  · rw [if_neg hj]
    unfold kws
    rw [List.getElem?_mapIdx, List.getElem?_mapIdx]
    cases S[j]? with
    | none => rfl
    | some q' =>
      simp only [Option.map_some]
      have : mupd M k i v j = M j := by
        funext x
        unfold mupd
        rw [if_neg (fun hh => hj hh.1.symm)]
      rw [this]
def kcan (S : KS) (M : KM) : Prop := ∀ (k : Nat) (q : KQ), S[k]? = some q → ∀ j, kbd (kety q.1.1 j) (M k j)
def kvok : KV → Prop
  | .inl (.inl n) => R32 n
  | .inl (.inr n) => R64 n
  | _ => True
def kst (st : List KV) : Prop := ∀ v ∈ st, kvok v
def klok (ls : List (Option KV)) : Prop := ∀ (i : Nat) (v : KV), ls[i]? = some (some v) → kvok v
theorem kst_nil : kst [] := fun _ h => by cases h
theorem kst_cons {v : KV} {st : List KV} (h1 : kvok v) (h : kst st) : kst (v :: st) := fun x hx => by
  rcases List.mem_cons.mp hx with rfl | hx
  · exact h1
  · exact h x hx
theorem kst_hd {v : KV} {st : List KV} (h : kst (v :: st)) : kvok v := h v List.mem_cons_self
theorem kst_tl {v : KV} {st : List KV} (h : kst (v :: st)) : kst st := fun x hx => h x (List.mem_cons_of_mem _ hx)
/-- the frame's locals, as far as they are known -/
def kloc (b : Nat) (ls : List (Option KV)) (la : Array Slot) (nL : Nat) : Prop := la.size = nL ∧ lv_wf la ∧ ∀ (i : Nat) (v : KV), ls[i]? = some (some v) → la[i]? = some (.val (kconv b v))
def ksz (S : KS) : Nat := (S.map fun q => q.1.2).sum
def kMem (D : va_G) (dA : Nat → ClassId) (b : Nat) (S : KS) (M : KM) (H : Heap) : Prop := va_P D kcl (kws dA b S M) H ∧ H.size = b + S.length
/-! A METHOD'S RUN -/
abbrev GA : Type := Program × Launch × Env × Room × State × MethodId × Array Value × List Frame × Method × Code
abbrev GB : Type := va_G × (Nat → ClassId) × Nat × (Nat → Nat) × (Nat → Nat)
abbrev KT : Type := Option KV × KS × KM
abbrev GN : Type := (Nat × Nat × Nat × Nat) × KT
abbrev Gam : Type := GA × GB × GN
abbrev KCf : Type := (Nat × List (Option KV) × List KV × KS × KM) ⊕ KT
abbrev kC (pc : Nat) (ls : List (Option KV)) (st : List KV) (S : KS) (M : KM) : KCf := .inl (pc, ls, st, S, M)
def krm (h mc ms : Nat) : Room := { frames := h, cells := mc, slots := ms, locals := 64 * h }
/-- what lies below the system's cells: the two texts, two statics -/
def ktL : List Nat := [kswords.length, kssigns.length]
def ktB : List (List Int32) := [kswords.map Int32.ofNat, kssigns.map Int32.ofNat]
def kLow (B : GB) (U : State) : Prop := B.2.2.1 ≤ U.heap.size ∧ va_AO "YearHands$State" U ∧ (vk_R "YearHands$Tokens" 69 "person age coin need family friend to price right odds ages draw or and not year " (B.2.2.2.1 0) U ∧ vk_R "YearHands$Tokens" 56 ";()<>=+-*/%" (B.2.2.2.1 1) U) ∧ vk_S 2 ktL ktB B.2.2.2.1 B.2.2.2.2 (fun q => B.2.2.1 ≤ q) U U.heap ∧ va_Z "java/lang/String" "COMPACT_STRINGS" "Z" (.int 1) (fun q => B.2.2.1 ≤ q) U U.heap ∧ va_Zq "jdk/internal/util/Preconditions" "SIOOBE_FORMATTER" "Ljava/util/function/BiFunction;" (fun q => B.2.2.1 ≤ q) U U.heap
theorem kLow.keep {B : GB} {s U : State} {H : Heap} {locs : List Loc} (h : kLow B s) (hW : s.WarmedH U.vm) (hU : U.heap = H) (hS : va_S (fun q => B.2.2.1 ≤ q) s.heap H locs) : kLow B U := by
  obtain ⟨h1, h2, ⟨h3, h4⟩, h5, h6, h7⟩ := h
  unfold kLow
  rw [hU]
  exact ⟨Nat.le_trans h1 hS.1, va_AO.moved hW.alike h2, ⟨h3.warm hW, h4.warm hW⟩, (vk_S.moved hW.alike h5).kept hS.2.1, (va_Z.moved hW.alike h6).kept hS.2.1, (va_Zq.moved hW.alike h7).kept hS.2.1⟩
def kPost (B : GB) (r : Option KV) (S : KS) (M : KM) (U : State) : Prop := kMem B.1 B.2.1 B.2.2.1 S M U.heap ∧ kcan S M ∧ kst r.toList
def kPre (B : GB) (as : List KV) (S : KS) (M : KM) (U : State) : Prop := kMem B.1 B.2.1 B.2.2.1 S M U.heap ∧ kcan S M ∧ kst as ∧ va_K B.1 kcl (ktys B.2.1) U ∧ kLow B U
def kQ (B : GB) (t : KT) : Array Value → State → Outcome → State → Prop := match t with
  | (none, S, M) => va_Qv (fun _ : Unit => True) (fun _ U => kPost B none S M U) (fun q => B.2.2.1 ≤ q)
  | (some (.inl (.inl n)), S, M) => va_Qi (fun r (_ : Unit) => r = Int32.ofInt n) (fun _ U => kPost B (some (VI n)) S M U) (fun q => B.2.2.1 ≤ q)
  | (some (.inl (.inr n)), S, M) => va_Ql (fun r (_ : Unit) => r = Int64.ofInt n) (fun _ U => kPost B (some (VJ n)) S M U) (fun q => B.2.2.1 ≤ q)
  | (some (.inr (.inl o)), S, M) => va_Qq (fun r (_ : Unit) => r = o.map (B.2.2.1 + ·)) (fun _ U => kPost B (some (VR o)) S M U) (fun q => B.2.2.1 ≤ q)
  | (some (.inr (.inr a)), S, M) => va_Qq (fun r (_ : Unit) => r = some a) (fun _ U => kPost B (some (VA a)) S M U) (fun q => B.2.2.1 ≤ q)
def GC (G : Gam) (cf : KCf) : Prop := match G, cf with
  | ((p, l, e, R, s, m, args, below, meth, c), (D, dA, b, aK, aV), (n0, z0, nc, nz), tg), .inl (pc, ls, st, S, M) =>
    ∀ (H : Heap) (locs : List Loc) (la : Array Slot), kMem D dA b S M H → kcan S M → klok ls → kst st → (n0 ≤ S.length ∧ S.length ≤ nc ∧ z0 ≤ ksz S ∧ ksz S ≤ nz) → va_S (fun q => b ≤ q) s.heap H locs → kloc b ls la c.maxLocals →
      W p l e R s m args below meth c H locs (S.length - n0) (ksz S - z0) (MQ below (kQ (D, dA, b, aK, aV) tg) args s (nc - n0) (nz - z0) (fun q => b ≤ q)) (F0 m pc la (st.map (kconv b)))
  | (_, _, _, tg), .inr t => t = tg
def GOK (G : Gam) (Y : KY) : Prop := match G with
  | ((p, l, e, R, s, m, args, below, meth, c), (D, dA, b, aK, aV), (n0, z0, nc, nz), tg) =>
    p.tables.exec = Jvm.exec ∧ c.code = Y.2.1 ∧ c.maxLocals = Y.2.2.1 ∧ s.vm.findClass Y.1 = some m.cls ∧ (∀ w ∈ tbg, w.before args s = true) ∧ meth.sig.returnType = Y.2.2.2.1 ∧ meth.locks = false ∧ va_K D kcl (ktys dA) s ∧ (Y.2.2.2.2 ≤ R.frames ∧ 64 * Y.2.2.2.2 ≤ R.locals ∧ nc - n0 ≤ R.cells ∧ nz - z0 ≤ R.slots) ∧ kLow (D, dA, b, aK, aV) s
def Sim {α : Type} (G : Gam) (Y : KY) (e : Option α) (cf : KCf) (κ : α → KCf) : Prop := GOK G Y → ∀ a, e = some a → GC G (κ a) → GC G cf
theorem s_ret0 {α : Type} {G : Gam} {Y : KY} {a : α} {cf : KCf} {κ : α → KCf} (h : κ a = cf) : Sim G Y (some a) cf κ := by
  intro _ x hx hk
  cases hx
  rw [← h]; exact hk
theorem s_bind {α β : Type} {G : Gam} {Y : KY} {e : Option α} {f : α → Option β} {cf : KCf} {κ : α → KCf} {κ' : β → KCf} (h : Sim G Y e cf κ) (k : ∀ a, Sim G Y (f a) (κ a) κ') : Sim G Y (e >>= f) cf κ' := by
  intro hG x hx hk
  cases he : e with
  | none => rw [he] at hx; cases hx
  | some a =>
    rw [he] at hx
    exact h hG a he (k a hG x hx hk)
section KP
variable {α : Type} {G : Gam} {Y : KY} {e e1 e2 : Option α} {κ : α → KCf} {pc : Nat} {ls : List (Option KV)} {st : List KV} {S : KS} {M : KM}
/-- rows that look at the stack alone -/
theorem s_pure {pc' : Nat} {st' : List KV} (h : ∀ (p : Program) (l : Launch) (e : Env) (R : Room) (s : State) (m : MethodId) (args : Array Value) (below : List Frame) (meth : Method) (c : Code) (H : Heap) (locs : List Loc) (cells slots : Nat) (Q : State → Prop) (la : Array Slot) (b : Nat), p.tables.exec = Jvm.exec → c.code = Y.2.1 → kst st → W p l e R s m args below meth c H locs cells slots Q (F0 m pc' la (st'.map (kconv b))) → W p l e R s m args below meth c H locs cells slots Q (F0 m pc la (st.map (kconv b))))
    (hok : kst st → kst st') (k : Sim G Y e (kC pc' ls st' S M) κ) : Sim G Y e (kC pc ls st S M) κ := by
  intro hG a ha hk
  have k1 := k hG a ha hk
  obtain ⟨⟨p, l, e, R, s, m, args, below, meth, c⟩, ⟨D, dA, b, aK, aV⟩, ⟨n0, z0, nc, nz⟩, tg⟩ := G
  obtain ⟨hx, hb, -⟩ := hG
  intro H locs la hM hc hl hs hn hS hlo
  exact h _ _ _ _ _ _ _ _ _ _ _ _ _ _ _ _ _ hx hb hs (k1 H locs la hM hc hl (hok hs) hn hS hlo)
/-- rows that may use the locals too -/
theorem s_pureL {pc' : Nat} {st' : List KV} (h : ∀ (p : Program) (l : Launch) (e : Env) (R : Room) (s : State) (m : MethodId) (args : Array Value) (below : List Frame) (meth : Method) (c : Code) (H : Heap) (locs : List Loc) (cells slots : Nat) (Q : State → Prop) (la : Array Slot) (b : Nat), p.tables.exec = Jvm.exec → c.code = Y.2.1 → kst st → kloc b ls la c.maxLocals → W p l e R s m args below meth c H locs cells slots Q (F0 m pc' la (st'.map (kconv b))) → W p l e R s m args below meth c H locs cells slots Q (F0 m pc la (st.map (kconv b))))
    (hok : klok ls → kst st → kst st') (k : Sim G Y e (kC pc' ls st' S M) κ) : Sim G Y e (kC pc ls st S M) κ := by
  intro hG a ha hk
  have k1 := k hG a ha hk
  obtain ⟨⟨p, l, e, R, s, m, args, below, meth, c⟩, ⟨D, dA, b, aK, aV⟩, ⟨n0, z0, nc, nz⟩, tg⟩ := G
  obtain ⟨hx, hb, -⟩ := hG
  intro H locs la hM hc hl hs hn hS hlo
  exact h _ _ _ _ _ _ _ _ _ _ _ _ _ _ _ _ _ hx hb hs hlo (k1 H locs la hM hc hl (hok hl hs) hn hS hlo)
/-- rows that branch on the stack -/
theorem s_br {pc1 pc2 : Nat} {st' : List KV} {P : Prop} {dP : Decidable P} (h : ∀ (p : Program) (l : Launch) (e : Env) (R : Room) (s : State) (m : MethodId) (args : Array Value) (below : List Frame) (meth : Method) (c : Code) (H : Heap) (locs : List Loc) (cells slots : Nat) (Q : State → Prop) (la : Array Slot) (b : Nat), p.tables.exec = Jvm.exec → c.code = Y.2.1 → kst st → (P → W p l e R s m args below meth c H locs cells slots Q (F0 m pc1 la (st'.map (kconv b)))) → (¬ P → W p l e R s m args below meth c H locs cells slots Q (F0 m pc2 la (st'.map (kconv b)))) → W p l e R s m args below meth c H locs cells slots Q (F0 m pc la (st.map (kconv b))))
    (hok : kst st → kst st') (k1 : Sim G Y e1 (kC pc1 ls st' S M) κ) (k2 : Sim G Y e2 (kC pc2 ls st' S M) κ) : Sim G Y (@ite (Option α) P dP e1 e2) (kC pc ls st S M) κ := by
  intro hG a ha hk
  have k1 := fun ha => k1 hG a ha hk
  have k2 := fun ha => k2 hG a ha hk
  obtain ⟨⟨p, l, e, R, s, m, args, below, meth, c⟩, ⟨D, dA, b, aK, aV⟩, ⟨n0, z0, nc, nz⟩, tg⟩ := G
  obtain ⟨hx, hb, -⟩ := hG
  intro H locs la hM hc hl hs hn hS hlo
  refine h _ _ _ _ _ _ _ _ _ _ _ _ _ _ _ _ _ hx hb hs (fun hP => ?_) (fun hP => ?_)
  · rw [if_pos hP] at ha
    exact k1 ha H locs la hM hc hl (hok hs) hn hS hlo
  · rw [if_neg hP] at ha
    exact k2 ha H locs la hM hc hl (hok hs) hn hS hlo
end KP
