/-! WHAT MAKES CELLS: new, newarray, anewarray; what constructors write: final fields, rows of references -/
def kokT : FieldType → Bool
  | .int => true
  | .boolean => true
  | .long => true
  | .byte => true
  | .object _ => true
  | .array _ => true
  | _ => false
theorem kTy_ok : ∀ c, c < 13 → ∀ j, j < kN c → kokT (kTy c j) = true := k_all (by decide +kernel) (by decide +kernel) (by decide +kernel) (by decide +kernel) (by decide +kernel) (by decide +kernel) (by decide +kernel) (by decide +kernel) (by decide +kernel) (by decide +kernel) (by decide +kernel) (by decide +kernel) (by decide +kernel)
theorem kdef_val {ty : FieldType} (h : kokT ty = true) : defaultValue ty = (if kir ty = true then va_rf none else kval ty 0) := by
  cases ty <;> first | rfl | (simp [kokT] at h)
section KNEW
variable {α : Type} {G : Gam} {Y Y' : KY} {e : Option α} {κ : α → KCf} {pc : Nat} {ls : List (Option KV)} {st : List KV} {S : KS} {M : KM}
/-- the room that is left -/
def kFits (G : Gam) (n z : Nat) : Prop := n ≤ G.2.2.1.2.2.1 ∧ z ≤ G.2.2.1.2.2.2
theorem kws_push {dA : Nat → ClassId} {b : Nat} {q : KQ} : kws dA b (S ++ [q]) M = kws dA b S M ++ [(b + S.length, kent dA b q (M S.length))] := by
  unfold kws
  rw [List.mapIdx_append]
  simp
theorem ksz_push {q : KQ} : ksz (S ++ [q]) = ksz S + q.1.2 := by
  unfold ksz
  simp
theorem kMem_push {D : va_G} {dA : Nat → ClassId} {b : Nat} {H H1 : Heap} {q : KQ} (hM : kMem D dA b S M H) (he : va_at D kcl (b + S.length, kent dA b q (M S.length)) H1) (hz : H1.size = H.size + 1) (ho : ∀ q : Nat, q < H.size → H1[q]? = H[q]?) : kMem D dA b (S ++ [q]) M H1 := by
  refine ⟨?_, by rw [hz, hM.2, List.length_append]; rfl⟩
  rw [kws_push]
  refine (hM.1.kept fun k x hx => ho x.1 ((hM.1 k x hx).lt)).app (fun k x hx => ?_)
  have hz : k < 1 := (List.getElem?_eq_some_iff.mp hx).1
  rw [show k = 0 by omega] at hx
  cases hx
  exact he
theorem kcan_push {q : KQ} (hc : kcan S M) (hz : ∀ j, M S.length j = 0) : kcan (S ++ [q]) M := by
  intro k q' hq' j
  rw [List.getElem?_append] at hq'
  split at hq'
  · exact hc k q' hq' j
  · rename_i hk
    have : k - S.length < 1 := (List.getElem?_eq_some_iff.mp hq').1
    have hk : k = S.length := by omega
    rw [hk, hz]
    unfold kbd
    split
    · exact ⟨by decide, by decide⟩
    · exact ⟨by decide, by decide⟩
    · exact ⟨by decide, by decide⟩
    · exact R32_0
/-- a row that makes one cell -/
theorem s_mk {pc' : Nat} {st' : List KV} {q : KQ} (hz : ∀ j, M S.length j = 0) (hlim : kFits G (S.length + 1) (ksz S + q.1.2))
    (h : ∀ (p : Program) (l : Launch) (e : Env) (R : Room) (s : State) (m : MethodId) (args : Array Value) (below : List Frame) (meth : Method) (c : Code) (H : Heap) (locs : List Loc) (cells slots : Nat) (Q : State → Prop) (la : Array Slot) (b : Nat) (D : va_G) (dA : Nat → ClassId), p.tables.exec = Jvm.exec → c.code = Y.2.1 → s.vm.findClass Y.1 = some m.cls → (∀ w ∈ tbg, w.before args s = true) → va_AO "YearHands$State" s → va_K D kcl (ktys dA) s → H.size = b + S.length → cells + 1 ≤ R.cells → slots + q.1.2 ≤ R.slots → kst st →
      (∀ (H1 : Heap), va_at D kcl (b + S.length, kent dA b q (M S.length)) H1 → (∀ q : Nat, q < H.size → H1[q]? = H[q]?) → H1.size = H.size + 1 → W p l e R s m args below meth c H1 locs (cells + 1) (slots + q.1.2) Q (F0 m pc' la (st'.map (kconv b)))) → W p l e R s m args below meth c H locs cells slots Q (F0 m pc la (st.map (kconv b))))
    (hok : kst st → kst st') (k : Sim G Y e (kC pc' ls st' (S ++ [q]) M) κ) : Sim G Y e (kC pc ls st S M) κ := by
  intro hG a ha hk
  have k1 := k hG a ha hk
  obtain ⟨⟨p, l, e, R, s, m, args, below, meth, c⟩, ⟨D, dA, b, aK, aV⟩, ⟨n0, z0, nc, nz⟩, tg⟩ := G
  obtain ⟨hx, hb, hml, hown, hts, hr, hlk, hK, hR, hlow⟩ := hG
  have hlim : S.length + 1 ≤ nc ∧ ksz S + q.1.2 ≤ nz := hlim
  intro H locs la hM hc hl hs hn hSS hlo
  refine h _ _ _ _ _ _ _ _ _ _ _ _ _ _ _ _ _ _ _ hx hb hown hts hlow.2.1 hK hM.2 (by omega) (by omega) hs (fun H1 he ho hz1 => ?_)
  refine W.cs (cells' := (S ++ [q]).length - n0) (slots' := ksz (S ++ [q]) - z0) (by rw [List.length_append]; show _ = S.length + 1 - n0; omega) (by rw [ksz_push]; omega) ?_
  refine k1 H1 locs la (kMem_push hM he hz1 ho) (kcan_push hc hz) hl (hok hs) (by rw [List.length_append, ksz_push]; show n0 ≤ S.length + 1 ∧ S.length + 1 ≤ nc ∧ _; omega) ⟨by rw [hz1]; exact Nat.le_trans hSS.1 (by omega), fun x g1 g2 => (ho x (Nat.lt_of_lt_of_le g1 hSS.1)).trans (hSS.2.1 x g1 g2), hSS.2.2⟩ hlo
theorem s_new {c idx : Nat} (hd : decode Y.2.1 pc = .ok (.new idx, 3)) (hc : c < 13) (hcl : Cond.classLink Y.1 idx (kCn c) ∈ tbg) (hz : ∀ j, M S.length j = 0) (hlim : kFits G (S.length + 1) (ksz S + kN c)) (k : Sim G Y e (kC (pc + 3) ls (VR (some S.length) :: st) (S ++ [((c, kN c), List.replicate (kN c) none)]) M) κ) : Sim G Y e (kC pc ls st S M) κ := by
  refine s_mk (q := ((c, kN c), List.replicate (kN c) none)) (st' := VR (some S.length) :: st) hz hlim (fun p l e R s m args below meth c0 H locs cells slots Q la b D dA hx hb hown hts hAO hK hH hcells hslots hs kk => ?_) kst_R k
  have hKn := hK.1 c _ (kcl_at hc)
  refine W.newcK hx hb hown (hts _ hcl) (hts _ (kI_cls c hc)) (hts _ (kI_ini c hc)) rfl hd hcells hslots hKn.2.1 rfl fun H1 kC hkC e1 z1 o1 => ?_
  have k2 := kk H1 (by
    rw [kent_obj hc]
    rw [← hH]
    refine ⟨_, kcl_at hc, (u_born (kTy c) hts (kT_in c hc) hKn hkC e1 (kT_ty c hc)).to (fun j hj => ?_)⟩
    have h1 := kflds_at (b := b) (c := c) (rs := List.replicate (kN c) none) (mi := M S.length) hj
    unfold vp_V
    rw [List.getD_eq_getElem?_getD, h1]
    show _ = kfld _ _ _ _ _
    rw [kdef_val (kTy_ok c hc j hj)]
    unfold kfld
    rw [hz]
    have : (List.replicate (kN c) (none : Option Nat)).getD j none = none := by
      rw [List.getD_eq_getElem?_getD, List.getElem?_replicate]
      split <;> rfl
    rw [this]
    rfl) o1 z1
  have e2 : kconv b (VR (some S.length)) = Value.ref H.size := by rw [hH]; rfl
  rw [List.map_cons, e2] at k2
  exact k2
theorem s_newaI {n : Nat} {N : Int} (hd : decode Y.2.1 pc = .ok (.newarray .int, 2)) (hN : N = (n : Int)) (hn : n < 60000) (hw : Cond.arrayClass .int ∈ tbg) (hz : ∀ j, M S.length j = 0) (hlim : kFits G (S.length + 1) (ksz S + n)) (k : Sim G Y e (kC (pc + 2) ls (VR (some S.length) :: st) (S ++ [((20, n), [])]) M) κ) : Sim G Y e (kC pc ls (VI N :: st) S M) κ := by
  subst hN
  refine s_mk (q := ((20, n), [])) (st' := VR (some S.length) :: st) hz hlim (fun p l e R s m args below meth c0 H locs cells slots Q la b D dA hx hb hown hts hAO hK hH hcells hslots hs kk => ?_) (fun h => kst_R (kst_tl h)) k
  have hr : R32 (n : Int) := by constructor <;> omega
  have en : (Int32.ofInt (n : Int)).toNatClampNeg = n := by rw [Int32.toNatClampNeg_ofInt_of_le hr.1 hr.2]; omega
  refine va_newaK (atype := .int) (n := Int32.ofInt (n : Int)) hx hb (hts _ hw) rfl hd rfl (fun q => by have := (i32_lt hr R32_0).mp q; omega) en (by show n * 4 ≤ _; omega) hcells hslots rfl fun H1 cA e1 z1 o1 hAr hNm => ?_
  have hcA : cA = dA 0 := Option.some.inj (hNm.symm.trans (hK.2 0 _ rfl).2)
  subst hcA
  have k2 := kk H1 (by
    rw [← hH]
    show H1[H.size]? = some (vp_cell _ _)
    rw [e1]
    show some (arrV _ _ _) = some (arrV _ n (fun j => .int (Int32.ofInt (M S.length j))))
    congr 2
    funext j
    rw [hz]
    rfl) o1 z1
  have e2 : kconv b (VR (some S.length)) = Value.ref H.size := by rw [hH]; rfl
  rw [List.map_cons, e2] at k2
  exact k2
theorem s_newaJ {n : Nat} {N : Int} (hd : decode Y.2.1 pc = .ok (.newarray .long, 2)) (hN : N = (n : Int)) (hn : n < 60000) (hw : Cond.arrayClass .long ∈ tbg) (hz : ∀ j, M S.length j = 0) (hlim : kFits G (S.length + 1) (ksz S + n)) (k : Sim G Y e (kC (pc + 2) ls (VR (some S.length) :: st) (S ++ [((21, n), [])]) M) κ) : Sim G Y e (kC pc ls (VI N :: st) S M) κ := by
  subst hN
  refine s_mk (q := ((21, n), [])) (st' := VR (some S.length) :: st) hz hlim (fun p l e R s m args below meth c0 H locs cells slots Q la b D dA hx hb hown hts hAO hK hH hcells hslots hs kk => ?_) (fun h => kst_R (kst_tl h)) k
  have hr : R32 (n : Int) := by constructor <;> omega
  have en : (Int32.ofInt (n : Int)).toNatClampNeg = n := by rw [Int32.toNatClampNeg_ofInt_of_le hr.1 hr.2]; omega
  refine va_newaK (atype := .long) (n := Int32.ofInt (n : Int)) hx hb (hts _ hw) rfl hd rfl (fun q => by have := (i32_lt hr R32_0).mp q; omega) en (by show n * 8 ≤ _; omega) hcells hslots rfl fun H1 cA e1 z1 o1 hAr hNm => ?_
  have hcA : cA = dA 1 := Option.some.inj (hNm.symm.trans (hK.2 1 _ rfl).2)
  subst hcA
  have k2 := kk H1 (by
    rw [← hH]
    show H1[H.size]? = some (vp_cell _ _)
    rw [e1]
    show some (arrV _ _ _) = some (arrV _ n (fun j => .long (Int64.ofInt (M S.length j))))
    congr 2
    funext j
    rw [hz]
    rfl) o1 z1
  have e2 : kconv b (VR (some S.length)) = Value.ref H.size := by rw [hH]; rfl
  rw [List.map_cons, e2] at k2
  exact k2
theorem s_newaB {n : Nat} {N : Int} (hd : decode Y.2.1 pc = .ok (.newarray .byte, 2)) (hN : N = (n : Int)) (hn : n < 60000) (hw : Cond.arrayClass .byte ∈ tbg) (hz : ∀ j, M S.length j = 0) (hlim : kFits G (S.length + 1) (ksz S + n)) (k : Sim G Y e (kC (pc + 2) ls (VR (some S.length) :: st) (S ++ [((22, n), [])]) M) κ) : Sim G Y e (kC pc ls (VI N :: st) S M) κ := by
  subst hN
  refine s_mk (q := ((22, n), [])) (st' := VR (some S.length) :: st) hz hlim (fun p l e R s m args below meth c0 H locs cells slots Q la b D dA hx hb hown hts hAO hK hH hcells hslots hs kk => ?_) (fun h => kst_R (kst_tl h)) k
  have hr : R32 (n : Int) := by constructor <;> omega
  have en : (Int32.ofInt (n : Int)).toNatClampNeg = n := by rw [Int32.toNatClampNeg_ofInt_of_le hr.1 hr.2]; omega
  refine va_newaK (atype := .byte) (n := Int32.ofInt (n : Int)) hx hb (hts _ hw) rfl hd rfl (fun q => by have := (i32_lt hr R32_0).mp q; omega) en (by show n * 1 ≤ _; omega) hcells hslots rfl fun H1 cA e1 z1 o1 hAr hNm => ?_
  have hcA : cA = dA 2 := Option.some.inj (hNm.symm.trans (hK.2 2 _ rfl).2)
  subst hcA
  have k2 := kk H1 (by
    rw [← hH]
    show H1[H.size]? = some (vp_cell _ _)
    rw [e1]
    show some (arrV _ _ _) = some (arrV _ n (fun j => .int (Int32.ofInt (M S.length j))))
    congr 2
    funext j
    rw [hz]
    rfl) o1 z1
  have e2 : kconv b (VR (some S.length)) = Value.ref H.size := by rw [hH]; rfl
  rw [List.map_cons, e2] at k2
  exact k2
theorem s_newaZ {n : Nat} {N : Int} (hd : decode Y.2.1 pc = .ok (.newarray .boolean, 2)) (hN : N = (n : Int)) (hn : n < 60000) (hw : Cond.arrayClass .boolean ∈ tbg) (hz : ∀ j, M S.length j = 0) (hlim : kFits G (S.length + 1) (ksz S + n)) (k : Sim G Y e (kC (pc + 2) ls (VR (some S.length) :: st) (S ++ [((23, n), [])]) M) κ) : Sim G Y e (kC pc ls (VI N :: st) S M) κ := by
  subst hN
  refine s_mk (q := ((23, n), [])) (st' := VR (some S.length) :: st) hz hlim (fun p l e R s m args below meth c0 H locs cells slots Q la b D dA hx hb hown hts hAO hK hH hcells hslots hs kk => ?_) (fun h => kst_R (kst_tl h)) k
  have hr : R32 (n : Int) := by constructor <;> omega
  have en : (Int32.ofInt (n : Int)).toNatClampNeg = n := by rw [Int32.toNatClampNeg_ofInt_of_le hr.1 hr.2]; omega
  refine va_newaK (atype := .boolean) (n := Int32.ofInt (n : Int)) hx hb (hts _ hw) rfl hd rfl (fun q => by have := (i32_lt hr R32_0).mp q; omega) en (by show n * 1 ≤ _; omega) hcells hslots rfl fun H1 cA e1 z1 o1 hAr hNm => ?_
  have hcA : cA = dA 3 := Option.some.inj (hNm.symm.trans (hK.2 3 _ rfl).2)
  subst hcA
  have k2 := kk H1 (by
    rw [← hH]
    show H1[H.size]? = some (vp_cell _ _)
    rw [e1]
    show some (arrV _ _ _) = some (arrV _ n (fun j => .int (Int32.ofInt (M S.length j))))
    congr 2
    funext j
    rw [hz]
    rfl) o1 z1
  have e2 : kconv b (VR (some S.length)) = Value.ref H.size := by rw [hH]; rfl
  rw [List.map_cons, e2] at k2
  exact k2
theorem s_newq {n idx : Nat} {N : Int} (hd : decode Y.2.1 pc = .ok (.anewarray idx, 3)) (hN : N = (n : Int)) (hn : n < 60000) (hcl : Cond.classLink Y.1 idx "YearHands$State" ∈ tbg) (hz : ∀ j, M S.length j = 0) (hlim : kFits G (S.length + 1) (ksz S + n)) (k : Sim G Y e (kC (pc + 3) ls (VR (some S.length) :: st) (S ++ [((24, n), List.replicate n none)]) M) κ) : Sim G Y e (kC pc ls (VI N :: st) S M) κ := by
  subst hN
  refine s_mk (q := ((24, n), List.replicate n none)) (st' := VR (some S.length) :: st) hz hlim (fun p l e R s m args below meth c0 H locs cells slots Q la b D dA hx hb hown hts hAO hK hH hcells hslots hs kk => ?_) (fun h => kst_R (kst_tl h)) k
  have hr : R32 (n : Int) := by constructor <;> omega
  have en : (Int32.ofInt (n : Int)).toNatClampNeg = n := by rw [Int32.toNatClampNeg_ofInt_of_le hr.1 hr.2]; omega
  refine W.anew (n := Int32.ofInt (n : Int)) hx hb hown (hts _ hcl) (va_AO.use hAO) rfl hd rfl (fun q => by have := (i32_lt hr R32_0).mp q; omega) (by rw [en]; omega) hcells (by rw [en]; exact hslots) fun cA kA comp f1 f2 f3 f4 => ?_
  rw [en]
  obtain ⟨kA', comp', -, -, -, g4⟩ := (hK.2 4 _ rfl).2
  have hcA : cA = dA 4 := Option.some.inj (f1.symm.trans g4)
  subst hcA
  generalize hH1 : H.push ({ cls := dA 4, slots := Array.replicate n .null, vm := .none } : Cell) = H1
  have z1 : H1.size = H.size + 1 := by rw [← hH1, Array.size_push]
  have e1 : H1[H.size]? = some (arrV (dA 4) n (fun _ => .null)) := by rw [← hH1, Array.getElem?_push_size, ← arrV_new]
  have o1 : ∀ q : Nat, q < H.size → H1[q]? = H[q]? := fun q hq => by rw [← hH1, Array.getElem?_push, if_neg (Nat.ne_of_lt hq)]
  have k2 := kk H1 (by
    rw [← hH]
    show H1[H.size]? = some (vp_cell _ _)
    rw [e1]
    show some (arrV _ _ _) = some (arrV _ n (fun j => va_rf (((List.replicate n (none : Option Nat)).getD j none).map (b + ·))))
    congr 2
    funext j
    have : (List.replicate n (none : Option Nat)).getD j none = none := by
      rw [List.getD_eq_getElem?_getD, List.getElem?_replicate]
      split <;> rfl
    rw [this]
    rfl) o1 z1
  have e2 : kconv b (VR (some S.length)) = Value.ref H.size := by rw [hH]; rfl
  rw [List.map_cons, e2] at k2
  exact k2
theorem s_objInit {idx k0 : Nat} (hd : decode Y.2.1 pc = .ok (.invokespecial idx, 3)) (hl : Cond.methodLink Y.1 idx Lib.objectInit ∈ tbg) (hw : Cond.instanceMethod Lib.objectInit ∈ tbg ∧ Cond.code Lib.objectInit ⟨#[0xb1]⟩ 1 none ∈ tbg) (hh : (Nat.ble 1 Y.2.2.2.2 && Nat.ble (kwords st) 8) = true) (k : Sim G Y e (kC (pc + 3) ls st S M) κ) : Sim G Y e (kC pc ls (VR (some k0) :: st) S M) κ := by
  simp only [Bool.and_eq_true] at hh
  have hh1 := Nat.le_of_ble_eq_true hh.1
  have hh2 := Nat.le_of_ble_eq_true hh.2
  refine s_pureG (st' := st) (fun p l e R s m args below meth c H locs cells slots Q la b hx hb hml hown hts hf hlo hc hz hs k => ?_) kst_tl k
  exact W.objInit (rest := st.map (kconv b)) hx hb hown (hts _ hl) (hts _ hw.1) (hts _ hw.2) rfl hml.symm rfl hd (Nat.le_trans hh1 hf) (by rw [kwords_map]; show 2 * 0 + _ + 12 ≤ _; omega) k
theorem ksz_set {k : Nat} {q q' : KQ} (hS : S[k]? = some q) (hq : q'.1 = q.1) : (S.set k q').length = S.length ∧ ksz (S.set k q') = ksz S := by
  refine ⟨List.length_set, ?_⟩
  unfold ksz
  congr 1
  apply List.ext_getElem?
  intro i
  rw [List.getElem?_map, List.getElem?_map, List.getElem?_set]
  by_cases hi : k = i
  · subst hi
    rw [if_pos rfl, if_pos (List.getElem?_eq_some_iff.mp hS).1, hS]
    show some q'.1.2 = some q.1.2
    rw [hq]
  · rw [if_neg hi]
theorem kws_setS {dA : Nat → ClassId} {b k : Nat} {q q' : KQ} (hS : S[k]? = some q) : (kws dA b S M).set k (b + k, kent dA b q' (M k)) = kws dA b (S.set k q') M := by
  apply List.ext_getElem?
  intro j
  have hl : k < (kws dA b S M).length := (List.getElem?_eq_some_iff.mp (kws_get (dA := dA) (b := b) (M := M) hS)).1
  have hl2 : k < S.length := (List.getElem?_eq_some_iff.mp hS).1
  by_cases hj : k = j
  · subst hj
    rw [List.getElem?_set, if_pos rfl, if_pos hl]
    unfold kws
    rw [List.getElem?_mapIdx, List.getElem?_set, if_pos rfl, if_pos hl2]
    rfl
  · rw [List.getElem?_set, if_neg hj]
    unfold kws
    rw [List.getElem?_mapIdx, List.getElem?_mapIdx, List.getElem?_set, if_neg hj]
theorem kcan_setS {k : Nat} {q q' : KQ} (hc : kcan S M) (hS : S[k]? = some q) (hq : q'.1 = q.1) : kcan (S.set k q') M := by
  intro k' p hp j
  rw [List.getElem?_set] at hp
  split at hp
  · rename_i hk
    subst hk
    split at hp
    · cases hp
      rw [hq]
      exact hc _ _ hS j
    · cases hp
  · exact hc _ _ hp j
def kIni (G : Gam) : Prop := match G with
  | ((_, _, _, _, _, _, _, _, meth, _), _, _) => meth.name = "<init>"
/-- a row that writes a reference -/
theorem s_wrS {pc' k : Nat} {st' : List KV} {q q' : KQ} (hS : S[k]? = some q) (hq : q'.1 = q.1)
    (h : ∀ (p : Program) (l : Launch) (e : Env) (R : Room) (s : State) (m : MethodId) (args : Array Value) (below : List Frame) (meth : Method) (c : Code) (H : Heap) (locs : List Loc) (cells slots : Nat) (Q : State → Prop) (la : Array Slot) (b : Nat) (D : va_G) (dA : Nat → ClassId), p.tables.exec = Jvm.exec → c.code = Y.2.1 → (kIni G → meth.name = "<init>") → s.vm.findClass Y.1 = some m.cls → (∀ w ∈ tbg, w.before args s = true) → va_K D kcl (ktys dA) s → va_P D kcl (kws dA b S M) H → kst st →
      (∀ (H1 : Heap) (locs1 : List Loc), va_at D kcl (b + k, kent dA b q' (M k)) H1 → (∀ q : Nat, q ≠ b + k → H1[q]? = H[q]?) → H1.size = H.size → (∀ x ∈ locs1, x ∈ locs ∨ x.base = b + k) → W p l e R s m args below meth c H1 locs1 cells slots Q (F0 m pc' la (st'.map (kconv b)))) → W p l e R s m args below meth c H locs cells slots Q (F0 m pc la (st.map (kconv b))))
    (hok : kst st → kst st') (k : Sim G Y e (kC pc' ls st' (S.set k q') M) κ) : Sim G Y e (kC pc ls st S M) κ := by
  intro hG a ha hk
  have k1 := k hG a ha hk
  obtain ⟨⟨p, l, e, R, s, m, args, below, meth, c⟩, ⟨D, dA, b, aK, aV⟩, ⟨n0, z0, nc, nz⟩, tg⟩ := G
  obtain ⟨hx, hb, hml, hown, hts, hr, hlk, hK, hR, hlow⟩ := hG
  intro H locs la hM hc hl hs hn hSS hlo
  obtain ⟨z1, z2⟩ := ksz_set hS hq
  refine h _ _ _ _ _ _ _ _ _ _ _ _ _ _ _ _ _ _ _ hx hb (fun q => q) hown hts hK hM.1 hs (fun H1 locs1 he oq hz hL => ?_)
  refine W.cs (congrArg (· - n0) z1.symm) (congrArg (· - z0) z2.symm) ?_
  refine k1 H1 locs1 la ⟨?_, by rw [hz, hM.2, z1]⟩ (kcan_setS hc hS hq) hl (hok hs) (by rw [z1, z2]; exact hn) ⟨by rw [hz]; exact hSS.1, fun q g1 g2 => ?_, fun x hx => ?_⟩ hlo
  · rw [← kws_setS hS]
    exact hM.1.set (kws_D (dA := dA) (b := b)) (kws_get hS) he oq
  · rw [oq q (fun e => g2 (by show b ≤ q; omega))]
    exact hSS.2.1 q g1 g2
  · rcases hL x hx with h | h
    · exact hSS.2.2 x h
    · show b ≤ x.base
      rw [h]
      exact Nat.le_add_right _ _
theorem kfld_setS {b c n j : Nat} {rs : List (Option Nat)} {mi : Nat → Int} {r : Nat} (ht : kir (kTy c j) = true) (hj : j < n) (hl : j < rs.length) :
    ((List.range n).map (kfld b c rs mi)).set j (.ref (b + r)) = (List.range n).map (kfld b c (rs.set j (some r)) mi) := by
  apply List.ext_getElem?
  intro i
  rw [List.getElem?_set, List.getElem?_map, List.getElem?_map]
  by_cases hi : j = i
  · subst hi
    rw [if_pos rfl, if_pos (by simpa using hj), List.getElem?_range hj]
    simp only [Option.map_some, kfld, ht]
    rw [List.getD_eq_getElem?_getD, List.getElem?_set, if_pos rfl, if_pos hl]
    rfl
  · rw [if_neg hi]
    by_cases hin : i < n
    · rw [List.getElem?_range hin]
      simp only [Option.map_some, kfld]
      rw [List.getD_eq_getElem?_getD, List.getD_eq_getElem?_getD, List.getElem?_set, if_neg hi]
    · have : (List.range n)[i]? = none := by simpa using hin
      rw [this]; rfl
theorem s_putR {idx c j k r : Nat} {rs : List (Option Nat)} (hini : kIni G) (hd : decode Y.2.1 pc = .ok (.putfield idx, 3)) (hF : (c < 13 ∧ j < kN c) ∧ Cond.fieldLink Y.1 idx (kT c j).1 (kT c j).2.1 (kT c j).2.2.1 ∈ tbg) (hown0 : Y.1 = kCn c) (hS : S[k]? = some ((c, kN c), rs)) (ht : (kT c j).2.2.2 = true ∧ kir (kTy c j) = true) (hlr : j < rs.length)
    (kk : Sim G Y e (kC (pc + 3) ls st (S.set k ((c, kN c), rs.set j (some r))) M) κ) : Sim G Y e (kC pc ls (VR (some r) :: VR (some k) :: st) S M) κ := by
  obtain ⟨⟨hc13, hj⟩, hlink⟩ := hF
  refine s_wrS (q' := ((c, kN c), rs.set j (some r))) (st' := st) hS rfl (fun p l e R s m args below meth c0 H locs cells slots Q la b D dA hx hb hnm hown hts hK hP hs kk => ?_) (fun h => kst_tl (kst_tl h)) kk
  have hw : (kws dA b S M)[k]? = some (b + k, .inr (c, (List.range (kN c)).map (kfld b c rs (M k)))) := by
    rw [kws_get hS, kent_obj hc13]
  have hin := kT_in c hc13
  have hap := va_apart (own := Y.1) hts hin (kTy c) (kT_ty c hc13) (kT_nm c hc13) hK (kcl_at hc13)
  obtain ⟨r0, h1, cell, q1, q2, q3, q4⟩ := hP k _ hw
  have hr : r0 = (kCn c, kT c, kN c) := Option.some.inj (h1.symm.trans (kcl_at hc13))
  subst hr
  obtain ⟨hS0, hfc, kC, hkC, hkind⟩ := hK.1 c _ (kcl_at hc13)
  obtain ⟨cf, kf, fi, f, hi, hsl⟩ := hS0 j hj
  have hlay := hts _ (hin _ (u_in_lay hj))
  unfold u_lay at hlay
  rw [if_pos ht.1] at hlay
  have hst := (u_facts hfc hkC (u_lays hts hin hj) hi).1
  have hcf : m.cls = cf := by
    obtain ⟨_, _, c', _, _, _, -, -, hf', -, -, -, hown2, -⟩ := Cond.laysFinal_spec hlay
    have e1 : c' = cf := by have := hi.symm.trans hf'; simp at this; exact this.1.symm
    rw [kT_own c hc13 j hj, ← hown0] at hown2
    rw [← e1]; exact Option.some.inj (hown.symm.trans hown2)
  have hn : narrow (kTy c j) (.ref (b + r)) = .ref (b + r) ∧ fits (kTy c j) (.ref (b + r)) = true := by
    have h := ht.2
    cases hh : kTy c j <;> rw [hh] at h <;> first | exact ⟨rfl, rfl⟩ | cases h
  have h6 := u_fits (v := .ref (b + r)) hfc hkC hkind (Or.inr hlay) hi (kT_ty c hc13 j hj) hn.1 hn.2
  refine W.putFinK hx hb hown (hts _ hlink) hi hst hcf (hnm hini) (by rw [q2]; exact h6) q1 q3 (by rw [hsl]; exact k2_hasslot (q4 j hj)) rfl rfl hd fun H' e1 e2 e3 => ?_
  rw [hsl] at e1 ⊢
  refine kk H' _ ?_ e3 e2 (fun y hy => ?_)
  · rw [kent_obj hc13, ← kfld_setS ht.2 hj hlr]
    exact ⟨_, kcl_at hc13, t_OB.to (V := updV (vp_V _) j (.ref (b + r))) ⟨_, e1, q2, q3, t_set q4 hap hj _⟩ (fun i _ => vp_updV_set (by simpa using hj) _ i)⟩
  · rcases List.mem_append.mp hy with h | h
    · exact Or.inl h
    · rw [List.mem_singleton] at h; subst h; exact Or.inr rfl
theorem s_aastq {k n r n2 : Nat} {i N : Int} {rs rs2 : List (Option Nat)} (hd : decode Y.2.1 pc = .ok (.aastore, 1)) (hS : S[k]? = some ((24, n), rs)) (hR : S[r]? = some ((10, n2), rs2)) (hN : N = (n : Int)) (hlr : rs.length = n) (kk : Sim G Y e (kC (pc + 1) ls st (S.set k ((24, n), rs.set i.toNat (some r))) M) κ) : Sim G Y (if 0 ≤ i ∧ i < N then e else none) (kC pc ls (VR (some r) :: VI i :: VR (some k) :: st) S M) κ := by
  subst hN
  refine s_if fun hi => s_wrS (q' := ((24, n), rs.set i.toNat (some r))) (st' := st) hS rfl (fun p l e R s m args below meth c0 H locs cells slots Q la b D dA hx hb hnm hown hts hK hP hs kk => ?_) (fun h => kst_tl (kst_tl (kst_tl h))) kk
  obtain ⟨h1, h2⟩ := kin_of hi (kst_hI (kst_tl hs))
  have hlt : i.toNat < n := by omega
  have hw := kws_get (dA := dA) (b := b) (M := M) hR
  rw [kent_obj (by decide)] at hw
  obtain ⟨r', hr', cellV, g1, g2, g3, -⟩ := hP r _ hw
  have hr10 : r' = (kCn 10, kT 10, kN 10) := Option.some.inj (hr'.symm.trans (kcl_at (show 10 < 13 by decide)))
  subst hr10
  have hcls := (hK.1 10 _ (kcl_at (by decide))).2
  obtain ⟨kA, comp, k1, k2, k3, -⟩ := (hK.2 4 _ rfl).2
  have hcomp : comp = D.1 10 := Option.some.inj (k3.symm.trans hcls.1)
  subst hcomp
  obtain ⟨kC, hkC, -⟩ := hcls.2
  refine W.aast (j := Int32.ofInt i) hx hb (hP k _ (kws_get hS)) (fun q h => by cases h) (fun h => by cases h) k1 k2 rfl hkC ⟨fun q => h1 (Or.inl q), by show _ < (arrV _ _ _).slots.size; rw [arrV_size, h2]; exact hlt⟩ g1 (fun q h => by rw [g3] at h; cases h) (by rw [g2]; exact hkC) (by rw [g2]; exact va_assign hcls) rfl rfl hd fun H1 e z oq => ?_
  refine kk H1 _ ?_ oq z (fun y hy => ?_)
  · show H1[b + k]? = some (vp_cell _ _)
    rw [e, h2]
    refine congrArg some ?_
    show (arrV (dA 4) n (fun j => va_rf ((rs.getD j none).map (b + ·)))).setSlot i.toNat (.ref (b + r)) = arrV (dA 4) n (fun j => va_rf (((rs.set i.toNat (some r)).getD j none).map (b + ·)))
    rw [arrV_store]
    congr 1
    funext j
    unfold updV
    rw [List.getD_eq_getElem?_getD, List.getElem?_set]
    by_cases h : j = i.toNat
    · rw [if_pos h, if_pos h.symm, if_pos (by rw [hlr]; exact hlt)]
      rfl
    · rw [if_neg h, if_neg (fun q => h q.symm), ← List.getD_eq_getElem?_getD]
  · rcases List.mem_append.mp hy with h | h
    · exact Or.inl h
    · rw [List.mem_singleton] at h; subst h; exact Or.inr rfl
end KNEW
section KCALL2
variable {α : Type} {G : Gam} {Y : KY} {e e1 e2 : Option α} {κ : α → KCf} {pc : Nat} {ls : List (Option KV)} {st : List KV} {S : KS} {M : KM}
/-- a contract from a walk, for methods that make cells: the room is known, the method's name too -/
theorem ctr_ofL {y : MethodName} {np : Nat} {as : List KV} {r : Option KV} {S' : KS} {M' : KM} {a : α} (hm : KMd y Y np) (hlen : (lg_sl (as.map (kconv 0))).length ≤ Y.2.2.1) (hS' : S.length ≤ S'.length ∧ ksz S ≤ ksz S') (pad : Nat) (he : e = some a) (hκ : κ a = .inr (r, S', M'))
    (h : kst as → ∀ G : Gam, G.2.2.1 = (S.length, ksz S, S'.length, ksz S') → (y.name = "<init>" → kIni G) → Sim G Y e (kC 0 (kent0 as ++ List.replicate pad none) [] S M) κ) : Ctr y Y as S M r S' M' := by
  intro l B
  obtain ⟨D, dA, b, aK, aV⟩ := B
  obtain ⟨⟨hcode, hini⟩, hcls, ⟨hp1, hp2, hp⟩, hnp, hnL⟩ := hm
  refine Met.ofW (cc := Y.2.1) (maxL := Y.2.2.1) (ret := Y.2.2.2.1) hp rfl ?_
  intro p e' s m args below meth c s₁ B hml hv
  obtain ⟨rfl, hM, hc, hs, hK, hlow⟩ := hv
  have hts := atoms_spec (ws := .code y Y.2.1 Y.2.2.1 Y.2.2.2.1 :: tbg) B.pre
  have hown : s.vm.findClass Y.1 = some m.cls := by rw [← hcls]; exact findClass_of_methodNamed B.named
  have key := h hs ((p, l, e', krm Y.2.2.2.2 (S'.length - S.length) (ksz S' - ksz S), s, m, (as.map (kconv b)).toArray, below, meth, c), (D, dA, b, aK, aV), (S.length, ksz S, S'.length, ksz S'), (r, S', M')) rfl (fun hn => ((name_of_methodNamed B.named B.method).1.trans hn))
    ⟨B.exec, B.bytes, hml, hown, fun w hw => hts w (List.mem_cons_of_mem _ hw), B.returns, B.notSynchronized, hK, ⟨Nat.le_refl _, Nat.le_refl _, Nat.le_refl _, Nat.le_refl _⟩, hlow⟩ a he (by rw [hκ]; exact rfl)
  have hsl : ∀ b', (lg_sl (as.map (kconv b'))).length = (lg_sl (as.map (kconv 0))).length := by
    intro b'
    unfold lg_sl
    rw [List.length_flatMap, List.length_flatMap, List.map_map, List.map_map]
    congr 1
    apply List.map_congr_left
    intro v _
    simp only [Function.comp, kconv_cat]
    split <;> rfl
  have hl := lv_entry (as.map (kconv b)) (n := Y.2.2.1) (by rw [hsl]; exact hlen)
  rw [lg_entry_eq]
  have hpad : ∀ (i : Nat) (v : KV), (kent0 as ++ List.replicate pad none)[i]? = some (some v) → (kent0 as)[i]? = some (some v) := by
    intro i v h
    rw [List.getElem?_append] at h
    split at h
    · exact h
    · rw [List.getElem?_replicate] at h
      split at h <;> cases h
  have k1 := key s.heap [] _ hM hc (fun i v h => klok_ent0 hs i v (hpad i v h)) kst_nil ⟨Nat.le_refl _, hS'.1, Nat.le_refl _, hS'.2⟩ va_S.rf ⟨by rw [hml]; exact hl.1, hl.2.1, fun i v hiv => hl.2.2 _ (by have := kent0_args b as 0 i v (hpad i v hiv); rwa [Nat.zero_add] at this)⟩
  rw [Nat.sub_self, Nat.sub_self] at k1
  exact k1
end KCALL2
