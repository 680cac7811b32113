section KCALL
variable {α : Type} {G : Gam} {Y : KY} {e e1 e2 : Option α} {κ : α → KCf} {pc : Nat} {ls : List (Option KV)} {st : List KV} {S : KS} {M : KM}
/-! THE ENDS -/
theorem s_retG {v : List KV} {t : KT} {a : α} (hw : ∀ (p : Program) (l : Launch) (e : Env) (R : Room) (s : State) (m : MethodId) (args : Array Value) (below : List Frame) (meth : Method) (c : Code) (H : Heap) (locs : List Loc) (cells slots : Nat) (la : Array Slot) (B : GB) (t : KT) (hx : p.tables.exec = Jvm.exec) (hb : c.code = Y.2.1) (hr : meth.sig.returnType = Y.2.2.2.1) (hlk : meth.locks = false) (hs : kst v) (hq : ∀ T : State, T.heap = H → kPost B t.1 t.2.1 t.2.2 T) (hS : va_S (fun q => B.2.2.1 ≤ q) s.heap H locs), t.1 = v.head? → W p l e R s m args below meth c H locs cells slots (MQ below (kQ B t) args s cells slots (fun q => B.2.2.1 ≤ q)) (F0 m pc la (v.map (kconv B.2.2.1))))
    (hκ : κ a = .inr t) (ht : t = (v.head?, S, M)) (hv : v.head?.toList = v) : Sim G Y (some a) (kC pc ls v S M) κ := by
  intro hG x hx0 hk
  cases hx0
  rw [hκ] at hk
  obtain ⟨⟨p, l, e, R, s, m, args, below, meth, c⟩, ⟨D, dA, b, aK, aV⟩, ⟨n0, z0, nc, nz⟩, tg⟩ := G
  obtain ⟨hx, hb, hml, hown, hts, hr, hlk, hK, hR, hlow⟩ := hG
  have hk : t = tg := hk
  subst hk
  intro H locs la hM hc hl hs hn hSS hlo
  refine W.widen (k := nc - n0) (n := nz - z0) (by omega) (by omega) ?_
  subst ht
  exact hw _ _ _ _ _ _ _ _ _ _ _ _ _ _ _ (D, dA, b, aK, aV) _ hx hb hr hlk hs (fun T hT => ⟨by rw [hT]; exact hM, hc, by show kst (v.head?).toList; rw [hv]; exact hs⟩) hSS rfl
theorem s_iret {n : Int} {a : α} (hd : decode Y.2.1 pc = .ok (.ireturn, 1)) (hr0 : Y.2.2.2.1 = some .int) (hκ : κ a = .inr (some (VI n), S, M)) : Sim G Y (some a) (kC pc ls [VI n] S M) κ :=
  s_retG (t := (some (VI n), S, M)) (fun _ _ _ _ _ _ _ _ _ _ _ _ _ _ _ B t hx hb hr hlk hs hq hS ht => by
    obtain ⟨r, S', M'⟩ := t
    have ht : r = some (VI n) := ht
    subst ht
    exact W.iret (v := Int32.ofInt n) hx hb (by rw [hr, hr0]) (fun T hT hW => ⟨⟨_, (), rfl, rfl, hq T hT⟩, hS.F hT⟩) hS.2.2 hd hlk) hκ rfl rfl
theorem s_zret {n : Int} {a : α} (hd : decode Y.2.1 pc = .ok (.ireturn, 1)) (hr0 : Y.2.2.2.1 = some .boolean) (hκ : κ a = .inr (some (VI n), S, M)) : Sim G Y (if 0 ≤ n ∧ n ≤ 1 then some a else none) (kC pc ls [VI n] S M) κ :=
  s_if fun hn => s_retG (t := (some (VI n), S, M)) (fun _ _ _ _ _ _ _ _ _ _ _ _ _ _ _ B t hx hb hr hlk hs hq hS ht => by
    obtain ⟨r, S', M'⟩ := t
    have ht : r = some (VI n) := ht
    subst ht
    exact W.zret (v := Int32.ofInt n) hx hb (by rw [hr, hr0]) (by
      have : n = 0 ∨ n = 1 := by omega
      rcases this with rfl | rfl <;> rfl) (fun T hT hW => ⟨⟨_, (), rfl, rfl, hq T hT⟩, hS.F hT⟩) hS.2.2 hd hlk) hκ rfl rfl
theorem s_lret {n : Int} {a : α} (hd : decode Y.2.1 pc = .ok (.lreturn, 1)) (hr0 : Y.2.2.2.1 = some .long) (hκ : κ a = .inr (some (VJ n), S, M)) : Sim G Y (some a) (kC pc ls [VJ n] S M) κ :=
  s_retG (t := (some (VJ n), S, M)) (fun _ _ _ _ _ _ _ _ _ _ _ _ _ _ _ B t hx hb hr hlk hs hq hS ht => by
    obtain ⟨r, S', M'⟩ := t
    have ht : r = some (VJ n) := ht
    subst ht
    exact W.lret (v := Int64.ofInt n) hx hb (by rw [hr, hr0]) (fun T hT hW => ⟨⟨_, (), rfl, rfl, hq T hT⟩, hS.F hT⟩) hS.2.2 hd hlk) hκ rfl rfl
theorem s_vret {a : α} (hd : decode Y.2.1 pc = .ok (.return_, 1)) (hr0 : Y.2.2.2.1 = none) (hκ : κ a = .inr (none, S, M)) : Sim G Y (some a) (kC pc ls [] S M) κ :=
  s_retG (t := (none, S, M)) (fun _ _ _ _ _ _ _ _ _ _ _ _ _ _ _ B t hx hb hr hlk hs hq hS ht => by
    obtain ⟨r, S', M'⟩ := t
    have ht : r = none := ht
    subst ht
    exact W.vret hx hb (by rw [hr, hr0]) (fun T hT hW => ⟨⟨(), rfl, trivial, hq T hT⟩, hS.F hT⟩) hS.2.2 hd hlk) hκ rfl rfl
theorem s_aret {o : Option Nat} {a : α} {C : String} (hd : decode Y.2.1 pc = .ok (.areturn, 1)) (hr0 : Y.2.2.2.1 = some (.object C)) (hκ : κ a = .inr (some (VR o), S, M)) : Sim G Y (some a) (kC pc ls [VR o] S M) κ :=
  s_retG (t := (some (VR o), S, M)) (fun _ _ _ _ _ _ _ _ _ _ _ _ _ _ _ B t hx hb hr hlk hs hq hS ht => by
    obtain ⟨r, S', M'⟩ := t
    have ht : r = some (VR o) := ht
    subst ht
    exact W.aret (v := va_rf (o.map (B.2.2.1 + ·))) hx hb (by rw [hr, hr0]) (Or.inl ⟨_, rfl⟩) (match o with | none => Or.inl rfl | some _ => Or.inr ⟨_, rfl⟩) (fun T hT hW => ⟨⟨_, (), rfl, rfl, hq T hT⟩, hS.F hT⟩) hS.2.2 hd hlk) hκ rfl rfl
/-! A METHOD'S CONTRACT -/
def Ctr (y : MethodName) (Y : KY) (as : List KV) (S : KS) (M : KM) (r : Option KV) (S' : KS) (M' : KM) : Prop :=
  ∀ (l : Launch) (B : GB), Met l y (.code y Y.2.1 Y.2.2.1 Y.2.2.2.1 :: tbg) (krm Y.2.2.2.2 (S'.length - S.length) (ksz S' - ksz S)) (va_Pc (as.map (kconv B.2.2.1)) (kPre B as S M)) (kQ B (r, S', M')) (S'.length - S.length) (ksz S' - ksz S) (fun q => B.2.2.1 ≤ q)
/-- the locals at a method's entry -/
def kent0 : List KV → List (Option KV)
  | [] => []
  | v :: vs => if kcat v = 2 then some v :: none :: kent0 vs else some v :: kent0 vs
theorem kent0_args (b : Nat) : ∀ (as : List KV) (i j : Nat) (v : KV), (kent0 as)[j]? = some (some v) → (i + j, kconv b v) ∈ lv_args i (as.map (kconv b)) := by
  intro as
  induction as with
  | nil => intro i j v h; cases h
  | cons a as ih =>
    intro i j v h
    unfold kent0 at h
    simp only [List.map_cons, lv_args, kconv_cat]
    split at h
    · rename_i hc
      rw [if_pos hc]
      match j, h with
      | 0, h => cases h; exact List.mem_cons_self
      | 1, h => cases h
      | j + 2, h =>
        refine List.mem_cons_of_mem _ ?_
        have := ih (i + 2) j v h
        rwa [show i + 2 + j = i + (j + 2) by omega] at this
    · rename_i hc
      rw [if_neg hc]
      match j, h with
      | 0, h => cases h; exact List.mem_cons_self
      | j + 1, h =>
        refine List.mem_cons_of_mem _ ?_
        have := ih (i + 1) j v h
        rwa [show i + 1 + j = i + (j + 1) by omega] at this
theorem klok_ent0 : ∀ {as : List KV}, kst as → klok (kent0 as) := by
  intro as
  induction as with
  | nil => intro _ i v h; cases h
  | cons a as ih =>
    intro h i v hv
    unfold kent0 at hv
    split at hv
    · match i, hv with
      | 0, hv => cases hv; exact kst_hd h
      | 1, hv => cases hv
      | i + 2, hv => exact ih (kst_tl h) i v hv
    · match i, hv with
      | 0, hv => cases hv; exact kst_hd h
      | i + 1, hv => exact ih (kst_tl h) i v hv
/-- a method's contract from its walk -/
theorem ctr_of {y : MethodName} {np : Nat} {as : List KV} {r : Option KV} {S' : KS} {M' : KM} {a : α} (hm : KMd y Y np) (hlen : (lg_sl (as.map (kconv 0))).length ≤ Y.2.2.1) (hS' : S.length ≤ S'.length ∧ ksz S ≤ ksz S') (pad : Nat) (he : e = some a) (hκ : κ a = .inr (r, S', M'))
    (h : kst as → ∀ G : Gam, Sim G Y e (kC 0 (kent0 as ++ List.replicate pad none) [] S M) κ) : Ctr y Y as S M r S' M' := by
  intro l B
  obtain ⟨D, dA, b, aK, aV⟩ := B
  obtain ⟨⟨hcode, hini⟩, hcls, ⟨hp1, hp2, hp⟩, hnp, hnL⟩ := hm
  refine Met.ofW (cc := Y.2.1) (maxL := Y.2.2.1) (ret := Y.2.2.2.1) hp rfl ?_
  intro p e' s m args below meth c s₁ B hml hv
  obtain ⟨rfl, hM, hc, hs, hK, hlow⟩ := hv
  have hts := atoms_spec (ws := .code y Y.2.1 Y.2.2.1 Y.2.2.2.1 :: tbg) B.pre
  have hown : s.vm.findClass Y.1 = some m.cls := by rw [← hcls]; exact findClass_of_methodNamed B.named
  have key := h hs ((p, l, e', krm Y.2.2.2.2 (S'.length - S.length) (ksz S' - ksz S), s, m, (as.map (kconv b)).toArray, below, meth, c), (D, dA, b, aK, aV), (S.length, ksz S, S'.length, ksz S'), (r, S', M'))
    ⟨B.exec, B.bytes, hml, hown, fun w hw => hts w (List.mem_cons_of_mem _ hw), B.returns, B.notSynchronized, hK, ⟨Nat.le_refl _, Nat.le_refl _, Nat.le_refl _, Nat.le_refl _⟩, hlow⟩ a he (by rw [hκ]; exact rfl)
  have hsl : ∀ b', (lg_sl (as.map (kconv b'))).length = (lg_sl (as.map (kconv 0))).length := by
    intro b'
    unfold lg_sl
    rw [List.length_flatMap, List.length_flatMap, List.map_map, List.map_map]
    congr 1
    apply List.map_congr_left
    intro v _
    simp only [Function.comp, kconv_cat]
    split <;> rfl
  have hl := lv_entry (as.map (kconv b)) (n := Y.2.2.1) (by rw [hsl]; exact hlen)
  rw [lg_entry_eq]
  have hpad : ∀ (i : Nat) (v : KV), (kent0 as ++ List.replicate pad none)[i]? = some (some v) → (kent0 as)[i]? = some (some v) := by
    intro i v h
    rw [List.getElem?_append] at h
    split at h
    · exact h
    · rw [List.getElem?_replicate] at h
      split at h <;> cases h
  have k1 := key s.heap [] _ hM hc (fun i v h => klok_ent0 hs i v (hpad i v h)) kst_nil ⟨Nat.le_refl _, hS'.1, Nat.le_refl _, hS'.2⟩ va_S.rf ⟨by rw [hml]; exact hl.1, hl.2.1, fun i v hiv => hl.2.2 _ (by have := kent0_args b as 0 i v (hpad i v hiv); rwa [Nat.zero_add] at this)⟩
  rw [Nat.sub_self, Nat.sub_self] at k1
  exact k1
end KCALL
