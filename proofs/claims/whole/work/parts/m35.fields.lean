section KH
variable {α : Type} {G : Gam} {Y : KY} {e e1 e2 : Option α} {κ : α → KCf} {pc : Nat} {ls : List (Option KV)} {st : List KV} {S : KS} {M : KM}
def kini : FieldType → Bool
  | .int => true
  | .boolean => true
  | _ => false
theorem kent_obj {dA : Nat → ClassId} {b c n : Nat} {rs : List (Option Nat)} {mi : Nat → Int} (hc : c < 13) : kent dA b ((c, n), rs) mi = .inr (c, (List.range n).map (kfld b c rs mi)) := by
  unfold kent
  dsimp only
  rw [if_neg (by omega), if_neg (by omega), if_neg (by omega), if_neg (by omega), if_neg (by omega)]
theorem kflds_at {b c n j : Nat} {rs : List (Option Nat)} {mi : Nat → Int} (h : j < n) : ((List.range n).map (kfld b c rs mi))[j]? = some (kfld b c rs mi j) := by
  rw [List.getElem?_map, List.getElem?_range h]
  rfl
theorem kety_obj {c j : Nat} (hc : c < 13) : kety c j = kTy c j := by
  unfold kety
  rw [if_neg (by omega), if_neg (by omega), if_neg (by omega), if_neg (by omega), if_neg (by omega)]
/-- a field's value comes on the stack -/
theorem s_getG {idx c j k : Nat} {rs : List (Option Nat)} {v : KV} (hd : decode Y.2.1 pc = .ok (.getfield idx, 3)) (hF : kFL Y.1 idx c j) (hS : S[k]? = some ((c, kN c), rs)) (hv : ∀ b, kfld b c rs (M k) j = kconv b v) (hok : kbd (kety c j) (M k j) → kvok v)
    (kk : Sim G Y e (kC (pc + 3) ls (v :: st) S M) κ) : Sim G Y e (kC pc ls (VR (some k) :: st) S M) κ := by
  intro hG a ha hk
  have k1 := kk hG a ha hk
  obtain ⟨⟨p, l, e, R, s, m, args, below, meth, c0⟩, ⟨D, dA, b, aK, aV⟩, ⟨n0, z0, nc, nz⟩, tg⟩ := G
  obtain ⟨hx, hb, hml, hown, hts, hr, hlk, hK, hR, hlow⟩ := hG
  intro H locs la hM hc hl hs hn hSS hlo
  obtain ⟨⟨hc13, hj⟩, hlink⟩ := hF
  have hw : (kws dA b S M)[k]? = some (b + k, .inr (c, (List.range (kN c)).map (kfld b c rs (M k)))) := by
    rw [kws_get hS, kent_obj hc13]
  have k2 := k1 H locs la hM hc hl (kst_cons (hok (hc k _ hS j)) (kst_tl hs)) hn hSS hlo
  rcases hlink with hlink | ⟨host, hlink⟩
  · exact va_get hx hb hts (kT_in c hc13) hown hK hM.1 k hw (kcl_at hc13) j hj (hts _ hlink) (fun _ h => h) ((kflds_at hj).trans (congrArg some (hv b))) hd k2
  · exact va_getN hx hb hts (kT_in c hc13) hown hK hM.1 k hw (kcl_at hc13) j hj (hts _ hlink) (fun _ h => h) ((kflds_at hj).trans (congrArg some (hv b))) hd k2
theorem kini_val {ty : FieldType} (h : kini ty = true) : kir ty = false ∧ (∀ n, kval ty n = .int (Int32.ofInt n)) ∧ ∀ n, kbd ty n → R32 n := by
  cases ty <;> first | cases h | skip
  · exact ⟨rfl, fun _ => rfl, fun n h => h⟩
  · refine ⟨rfl, fun _ => rfl, fun n h => ?_⟩
    have h : 0 ≤ n ∧ n ≤ 1 := h
    constructor <;> omega
theorem s_getI {idx c j k : Nat} {rs : List (Option Nat)} (hd : decode Y.2.1 pc = .ok (.getfield idx, 3)) (hF : kFL Y.1 idx c j) (hS : S[k]? = some ((c, kN c), rs)) (ht : kini (kTy c j) = true)
    (kk : Sim G Y e (kC (pc + 3) ls (VI (M k j) :: st) S M) κ) : Sim G Y e (kC pc ls (VR (some k) :: st) S M) κ :=
  s_getG hd hF hS (fun b => by unfold kfld; rw [if_neg (by rw [(kini_val ht).1]; decide), (kini_val ht).2.1]; rfl) (fun h => by rw [kety_obj hF.1.1] at h; exact (kini_val ht).2.2 _ h) kk
theorem s_getJ {idx c j k : Nat} {rs : List (Option Nat)} (hd : decode Y.2.1 pc = .ok (.getfield idx, 3)) (hF : kFL Y.1 idx c j) (hS : S[k]? = some ((c, kN c), rs)) (ht : kTy c j = .long)
    (kk : Sim G Y e (kC (pc + 3) ls (VJ (M k j) :: st) S M) κ) : Sim G Y e (kC pc ls (VR (some k) :: st) S M) κ :=
  s_getG hd hF hS (fun b => by unfold kfld; rw [ht]; rfl) (fun h => by rw [kety_obj hF.1.1, ht] at h; exact h) kk
theorem s_getR {idx c j k : Nat} {rs : List (Option Nat)} {o : Option Nat} (hd : decode Y.2.1 pc = .ok (.getfield idx, 3)) (hF : kFL Y.1 idx c j) (hS : S[k]? = some ((c, kN c), rs)) (ht : kir (kTy c j) = true) (ho : rs.getD j none = o)
    (kk : Sim G Y e (kC (pc + 3) ls (VR o :: st) S M) κ) : Sim G Y e (kC pc ls (VR (some k) :: st) S M) κ :=
  s_getG (v := VR o) hd hF hS (fun b => by unfold kfld; rw [if_pos ht, ho]; rfl) (fun _ => trivial) kk
theorem kfld_upd {b c n j k : Nat} {rs : List (Option Nat)} {M : KM} {x : Int} (ht : kir (kTy c j) = false) (hj : j < n) :
    ((List.range n).map (kfld b c rs (M k))).set j (kval (kTy c j) x) = (List.range n).map (kfld b c rs (mupd M k j x k)) := by
  apply List.ext_getElem?
  intro i
  rw [List.getElem?_set, List.getElem?_map, List.getElem?_map]
  by_cases hi : j = i
  · subst hi
    rw [if_pos rfl, if_pos (by simpa using hj), List.getElem?_range hj]
    simp only [Option.map_some, kfld, ht, mupd]
    simp
  · rw [if_neg hi]
    by_cases hin : i < n
    · rw [List.getElem?_range hin]
      have hm : mupd M k j x k i = M k i := by
        unfold mupd
        rw [if_neg (fun h => hi h.2.symm)]
      simp only [Option.map_some, kfld, hm]
    · have : (List.range n)[i]? = none := by simpa using hin
      rw [this]; rfl
theorem kcan_upd {k j : Nat} {q : KQ} {x : Int} (h : kcan S M) (hS : S[k]? = some q) (hx : kbd (kety q.1.1 j) x) : kcan S (mupd M k j x) := by
  intro k' q' hq' j'
  unfold mupd
  split
  · rename_i hh
    obtain ⟨rfl, rfl⟩ := hh
    rw [hS] at hq'
    cases hq'
    exact hx
  · exact h k' q' hq' j'
theorem kMem_set {D : va_G} {dA : Nat → ClassId} {b k j : Nat} {H H1 : Heap} {q : KQ} {x : Int} {e0 : va_E} (hM : kMem D dA b S M H) (hS : S[k]? = some q) (he0 : kent dA b q (mupd M k j x k) = e0) (he : va_at D kcl (b + k, e0) H1) (oq : ∀ q : Nat, q ≠ b + k → H1[q]? = H[q]?) (hz : H1.size = H.size) : kMem D dA b S (mupd M k j x) H1 := by
  refine ⟨?_, hz.trans hM.2⟩
  have h := hM.1.set (kws_D (dA := dA) (b := b)) (kws_get hS) he oq
  rw [← he0, kws_set hS] at h
  exact h
theorem knar {ty : FieldType} {x : Int} (h : kini ty = true ∨ ty = .long) (hb : kbd ty x) : narrow ty (kval ty x) = kval ty x ∧ fits ty (kval ty x) = true := by
  rcases h with h | rfl
  · cases ty <;> first | cases h | skip
    · exact ⟨rfl, rfl⟩
    · have hb : 0 ≤ x ∧ x ≤ 1 := hb
      have : x = 0 ∨ x = 1 := by omega
      rcases this with rfl | rfl
      · exact ⟨rfl, rfl⟩
      · exact ⟨rfl, rfl⟩
  · exact ⟨rfl, rfl⟩
theorem s_putG {idx c j k : Nat} {rs : List (Option Nat)} {v : KV} {x : Int} (hd : decode Y.2.1 pc = .ok (.putfield idx, 3)) (hF : (c < 13 ∧ j < kN c) ∧ Cond.fieldLink Y.1 idx (kT c j).1 (kT c j).2.1 (kT c j).2.2.1 ∈ tbg) (hS : S[k]? = some ((c, kN c), rs)) (hfin : (kT c j).2.2.2 = false) (hty : kini (kTy c j) = true ∨ kTy c j = .long) (hv : ∀ b, kconv b v = kval (kTy c j) x) (hb0 : kvok v → kbd (kTy c j) x)
    (kk : Sim G Y e (kC (pc + 3) ls st S (mupd M k j x)) κ) : Sim G Y e (kC pc ls (v :: VR (some k) :: st) S M) κ := by
  intro hG a ha hk
  have k1 := kk hG a ha hk
  obtain ⟨⟨p, l, e, R, s, m, args, below, meth, c0⟩, ⟨D, dA, b, aK, aV⟩, ⟨n0, z0, nc, nz⟩, tg⟩ := G
  obtain ⟨hx, hb, hml, hown, hts, hr, hlk, hK, hR, hlow⟩ := hG
  intro H locs la hM hc hl hs hn hSS hlo
  obtain ⟨⟨hc13, hj⟩, hlink⟩ := hF
  have hbd := hb0 (kst_hd hs)
  have hkir : kir (kTy c j) = false := by
    rcases hty with h | h
    · exact (kini_val h).1
    · rw [h]; rfl
  have hw : (kws dA b S M)[k]? = some (b + k, .inr (c, (List.range (kN c)).map (kfld b c rs (M k)))) := by
    rw [kws_get hS, kent_obj hc13]
  have hin := kT_in c hc13
  have hap := va_apart (own := Y.1) hts hin (kTy c) (kT_ty c hc13) (kT_nm c hc13) hK (kcl_at hc13)
  obtain ⟨r, h1, cell, q1, q2, q3, q4⟩ := hM.1 k _ hw
  have hr : r = (kCn c, kT c, kN c) := Option.some.inj (h1.symm.trans (kcl_at hc13))
  subst hr
  obtain ⟨hS0, hfc, kC, hkC, hkind⟩ := hK.1 c _ (kcl_at hc13)
  obtain ⟨cf, kf, fi, f, hi, hsl⟩ := hS0 j hj
  have hlay := hts _ (hin _ (u_in_lay hj))
  unfold u_lay at hlay
  rw [if_neg (by rw [hfin]; decide)] at hlay
  have hst := (u_facts hfc hkC (u_lays hts hin hj) hi).1
  have h6 := u_store (v := kval (kTy c j) x) hfc hkC hkind hlay hi (kT_ty c hc13 j hj) (knar hty hbd).1 (knar hty hbd).2
  rw [List.map_cons, hv]
  refine W.putK hx hb (f := f) ⟨hown, hts _ hlink, ⟨_, _, _, hi⟩, hst⟩ (by rw [q2]; exact h6) q1 q3 (by rw [hsl]; exact k2_hasslot (q4 j hj)) rfl rfl hd fun H' e1 e2 e3 => ?_
  rw [hsl] at e1 ⊢
  refine k1 H' _ la (kMem_set (e0 := .inr (c, ((List.range (kN c)).map (kfld b c rs (M k))).set j (kval (kTy c j) x))) hM hS (by rw [kent_obj hc13, ← kfld_upd (M := M) (x := x) hkir hj]) ⟨_, kcl_at hc13, t_OB.to (V := updV (vp_V _) j (kval (kTy c j) x)) ⟨_, e1, q2, q3, t_set q4 hap hj _⟩ (fun i _ => vp_updV_set (by simpa using hj) _ i)⟩ e3 e2) (kcan_upd hc hS (by rw [kety_obj hc13]; exact hbd)) hl (kst_tl (kst_tl hs)) hn (hSS.put e2 e3 (Nat.le_add_right _ _)) hlo
theorem s_putI {idx c j k : Nat} {rs : List (Option Nat)} {x : Int} (hd : decode Y.2.1 pc = .ok (.putfield idx, 3)) (hF : (c < 13 ∧ j < kN c) ∧ Cond.fieldLink Y.1 idx (kT c j).1 (kT c j).2.1 (kT c j).2.2.1 ∈ tbg) (hS : S[k]? = some ((c, kN c), rs)) (ht : (kT c j).2.2.2 = false ∧ kTy c j = .int)
    (kk : Sim G Y e (kC (pc + 3) ls st S (mupd M k j x)) κ) : Sim G Y e (kC pc ls (VI x :: VR (some k) :: st) S M) κ :=
  s_putG hd hF hS ht.1 (Or.inl (by rw [ht.2]; rfl)) (fun b => by rw [ht.2]; rfl) (fun h => by rw [ht.2]; exact h) kk
theorem s_putZ {idx c j k : Nat} {rs : List (Option Nat)} {x : Int} (hd : decode Y.2.1 pc = .ok (.putfield idx, 3)) (hF : (c < 13 ∧ j < kN c) ∧ Cond.fieldLink Y.1 idx (kT c j).1 (kT c j).2.1 (kT c j).2.2.1 ∈ tbg) (hS : S[k]? = some ((c, kN c), rs)) (ht : (kT c j).2.2.2 = false ∧ kTy c j = .boolean)
    (kk : Sim G Y e (kC (pc + 3) ls st S (mupd M k j x)) κ) : Sim G Y (if 0 ≤ x ∧ x ≤ 1 then e else none) (kC pc ls (VI x :: VR (some k) :: st) S M) κ := by
  intro hG a ha
  by_cases hy : 0 ≤ x ∧ x ≤ 1
  · rw [if_pos hy] at ha
    exact s_putG hd hF hS ht.1 (Or.inl (by rw [ht.2]; rfl)) (fun b => by rw [ht.2]; rfl) (fun h => by rw [ht.2]; exact hy) kk hG a ha
  · rw [if_neg hy] at ha; cases ha
theorem s_putJ {idx c j k : Nat} {rs : List (Option Nat)} {x : Int} (hd : decode Y.2.1 pc = .ok (.putfield idx, 3)) (hF : (c < 13 ∧ j < kN c) ∧ Cond.fieldLink Y.1 idx (kT c j).1 (kT c j).2.1 (kT c j).2.2.1 ∈ tbg) (hS : S[k]? = some ((c, kN c), rs)) (ht : (kT c j).2.2.2 = false ∧ kTy c j = .long)
    (kk : Sim G Y e (kC (pc + 3) ls st S (mupd M k j x)) κ) : Sim G Y e (kC pc ls (VJ x :: VR (some k) :: st) S M) κ :=
  s_putG hd hF hS ht.1 (Or.inr ht.2) (fun b => by rw [ht.2]; rfl) (fun h => by rw [ht.2]; exact h) kk
end KH
