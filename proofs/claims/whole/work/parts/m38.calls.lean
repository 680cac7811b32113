section KINV
variable {α : Type} {G : Gam} {Y Y' : KY} {e e1 e2 : Option α} {κ : α → KCf} {pc : Nat} {ls : List (Option KV)} {st : List KV} {S : KS} {M : KM}
/-- behind a call: its answer on the stack, its cells in the world -/
theorem kw_back {p : Program} {l : Launch} {e' : Env} {R : Room} {s : State} {m : MethodId} {args : Array Value} {below : List Frame} {meth : Method} {c : Code} {H : Heap} {locs : List Loc} {cells slots mc ms : Nat} {Q : State → Prop} {la : Array Slot} {st0 rest : List Value} {B : GB} {r : Option KV} {S' : KS} {M' : KM} {a : Array Value}
    (hr : va_Run p l e' R s m args below meth c H locs cells slots mc ms (F0 m pc la st0) rest (kQ B (r, S', M') a) (fun q => B.2.2.1 ≤ q)) (hS : va_S (fun q => B.2.2.1 ≤ q) s.heap H locs)
    (kk : ∀ (H1 : Heap) (locs1 : List Loc), kMem B.1 B.2.1 B.2.2.1 S' M' H1 → kcan S' M' → kst r.toList → va_S (fun q => B.2.2.1 ≤ q) s.heap H1 locs1 → W p l e' R s m args below meth c H1 locs1 (cells + mc) (slots + ms) Q (F0 m (pc + 3) la (r.toList.map (kconv B.2.2.1) ++ rest))) :
    W p l e' R s m args below meth c H locs cells slots Q (F0 m pc la st0) := by
  obtain _ | (⟨n⟩ | ⟨n⟩) | (⟨o⟩ | ⟨x⟩) := r
  · refine va_callv (S := Unit) (a := a) hr hS (fun _ _ h => h) (fun _ h => h) (fun _ t H1 locs1 ht hvm hp hB hz ho hS1 => ?_)
    have hB : kPost B none S' M' t := hB
    rw [kPost, ht] at hB
    exact kk H1 locs1 hB.1 hB.2.1 hB.2.2 hS1
  · refine va_calli (S := Unit) (a := a) hr hS (fun _ _ h => h) (fun _ h => h) (fun r _ t H1 locs1 ht hvm hp hB hz ho hS1 => ?_)
    have hB : kPost B (some (VI n)) S' M' t := hB
    have hp : r = Int32.ofInt n := hp
    subst hp
    rw [kPost, ht] at hB
    exact kk H1 locs1 hB.1 hB.2.1 hB.2.2 hS1
  · refine va_calll (S := Unit) (a := a) hr hS (fun _ _ h => h) (fun _ h => h) (fun r _ t H1 locs1 ht hvm hp hB hz ho hS1 => ?_)
    have hB : kPost B (some (VJ n)) S' M' t := hB
    have hp : r = Int64.ofInt n := hp
    subst hp
    rw [kPost, ht] at hB
    exact kk H1 locs1 hB.1 hB.2.1 hB.2.2 hS1
  · refine va_callq (S := Unit) (a := a) hr hS (fun _ _ h => h) (fun _ h => h) (fun r _ t H1 locs1 ht hvm hp hB hz ho hS1 => ?_)
    have hB : kPost B (some (VR o)) S' M' t := hB
    have hp : r = o.map (B.2.2.1 + ·) := hp
    subst hp
    rw [kPost, ht] at hB
    exact kk H1 locs1 hB.1 hB.2.1 hB.2.2 hS1
  · refine va_callq (S := Unit) (a := a) hr hS (fun _ _ h => h) (fun _ h => h) (fun r _ t H1 locs1 ht hvm hp hB hz ho hS1 => ?_)
    have hB : kPost B (some (VA x)) S' M' t := hB
    have hp : r = some x := hp
    subst hp
    rw [kPost, ht] at hB
    exact kk H1 locs1 hB.1 hB.2.1 hB.2.2 hS1
/-- how a method is called: 0 static, 1 by its object, 2 a constructor -/
def kInv (Y : KY) (S : KS) (idx pc : Nat) (y : MethodName) (as : List KV) (ret : Option FieldType) (np : Nat) : Prop :=
  (decode Y.2.1 pc = .ok (.invokestatic idx, 3) ∧ Cond.static y ∈ tbg ∧ as.length = np) ∨
  (decode Y.2.1 pc = .ok (.invokevirtual idx, 3) ∧ Cond.instanceMethod y ∈ tbg ∧ ∃ (c k n : Nat) (rs : List (Option Nat)) (as' : List KV), c < 13 ∧ S[k]? = some ((c, n), rs) ∧ Cond.selects (kCn c) y y ∈ tbg ∧ as = VR (some k) :: as' ∧ as'.length = np) ∨
  (decode Y.2.1 pc = .ok (.invokespecial idx, 3) ∧ y.name = "<init>" ∧ Cond.instanceMethod y ∈ tbg ∧ ret = none ∧ ∃ (k : Nat) (as' : List KV), as = VR (some k) :: as' ∧ as'.length = np)
def kwords (st : List KV) : Nat := (st.map kcat).sum
theorem kwords_map (b : Nat) (st : List KV) : ((st.map (kconv b)).map fun v => v.category).sum = kwords st := by
  unfold kwords
  rw [List.map_map]
  congr 1
  apply List.map_congr_left
  intro v _
  exact kconv_cat b v
theorem kwarm {s U : State} (hW : s.WarmedH U.vm) : s.vm.Alike U.vm := hW.alike
theorem kw_fit {Y Y' : KY} (h : Y'.2.2.2.2 + 1 ≤ Y.2.2.2.2) (h2 : Y'.2.2.1 ≤ 45) : 8 + (Y'.2.2.1 + 11) + 64 * Y'.2.2.2.2 ≤ 64 * Y.2.2.2.2 := by omega
theorem s_invG {y : MethodName} {np idx : Nat} {as st0 : List KV} {r : Option KV} {S' : KS} {M' : KM} (hi : kInv Y S idx pc y as Y'.2.2.2.1 np) (hl : kML Y.1 idx y) (hm : KMd y Y' np) (hst : st0 = as.reverse ++ st) (hh : Y'.2.2.2.2 + 1 ≤ Y.2.2.2.2) (hw : kwords st ≤ 8) (hC : Ctr y Y' as S M r S' M') (hgr : S.length ≤ S'.length ∧ ksz S ≤ ksz S') (hlim : S'.length ≤ G.2.2.1.2.2.1 ∧ ksz S' ≤ G.2.2.1.2.2.2 ∨ S' = S)
    (k : Sim G Y e (kC (pc + 3) ls (r.toList ++ st) S' M') κ) : Sim G Y e (kC pc ls st0 S M) κ := by
  intro hG a ha hk
  have k1 := k hG a ha hk
  obtain ⟨⟨p, l, e', R, s, m, args, below, meth, c⟩, ⟨D, dA, b, aK, aV⟩, ⟨n0, z0, nc, nz⟩, tg⟩ := G
  obtain ⟨hx, hb, hml, hown, hts, hr, hlk, hK, hR, hlow⟩ := hG
  obtain ⟨⟨hcode, hini⟩, hcls, ⟨hp1, hp2, hp⟩, hnp, hnL⟩ := hm
  intro H locs la hM hc hls hs hn0 hSS hlo
  have hlim2 : S'.length ≤ nc ∧ ksz S' ≤ nz := by
    rcases hlim with h | h
    · exact h
    · subst h; exact ⟨hn0.2.1, hn0.2.2.2⟩
  have hst1 : kst as := fun v hv => hs v (by rw [hst]; exact List.mem_append_left _ (List.mem_reverse.mpr hv))
  have hst2 : kst st := fun v hv => hs v (by rw [hst]; exact List.mem_append_right _ hv)
  have hMet := hC l (D, dA, b, aK, aV)
  have hgood : ∀ w ∈ (Cond.code y Y'.2.1 Y'.2.2.1 Y'.2.2.2.1 :: tbg), ∀ (a' : Array Value) (U : State), s.WarmedH U.vm → w.before a' U = true := by
    intro w hw a' U hW
    rcases List.mem_cons.mp hw with rfl | hw
    · exact tb_warm hcode hW (hts _ hcode)
    · exact tb_warm hw hW (hts _ hw)
  have hpre : ∀ U : State, U.heap = H → s.WarmedH U.vm → va_Pc (as.map (kconv b)) (kPre (D, dA, b, aK, aV) as S M) (as.map (kconv b)).toArray U := by
    intro U hU hW
    refine ⟨rfl, ?_, hc, hst1, hK.moved (kwarm hW), ?_⟩
    · rw [hU]; exact hM
    · exact kLow.keep hlow hW hU hSS
  have hblind : FrameBlind (va_Pc (as.map (kconv b)) (kPre (D, dA, b, aK, aV) as S M)) := fun a U g mk q => by
    obtain ⟨q0, q1, q2, q3, q4, q5⟩ := q
    exact ⟨q0, q1, q2, q3, va_K.moved (u := U) (U := U.calling g mk a) (Vm.Alike.refl U.vm) q4, q5⟩
  have hnpar : ∀ sig, parseMethodDescriptor y.desc = some sig → np = sig.parameters.length := by
    intro sig h
    rw [h] at hnp
    exact (Option.some.inj hnp).symm
  have hbase : (krm Y'.2.2.2.2 (S'.length - S.length) (ksz S' - ksz S)).cells = S'.length - S.length ∧ (krm Y'.2.2.2.2 (S'.length - S.length) (ksz S' - ksz S)).slots = ksz S' - ksz S ∧ (krm Y'.2.2.2.2 (S'.length - S.length) (ksz S' - ksz S)).frames + 1 ≤ R.frames ∧ 8 + (Y'.2.2.1 + 11) + (krm Y'.2.2.2.2 (S'.length - S.length) (ksz S' - ksz S)).locals ≤ R.locals ∧ (∀ w ∈ (Cond.code y Y'.2.1 Y'.2.2.1 Y'.2.2.2.1 :: tbg), ∀ (a' : Array Value) (U : State), s.WarmedH U.vm → w.before a' U = true) ∧ Cond.code y Y'.2.1 Y'.2.2.1 Y'.2.2.2.1 ∈ (Cond.code y Y'.2.1 Y'.2.2.1 Y'.2.2.2.1 :: tbg) :=
    ⟨rfl, rfl, Nat.le_trans hh hR.1, Nat.le_trans (kw_fit hh hnL) hR.2.1, hgood, List.mem_cons_self⟩
  have hroom : 2 * (F0 m pc la (st0.map (kconv b))).monitorRoom + ((st.map (kconv b)).map fun v => v.category).sum ≤ 8 := by
    rw [kwords_map]
    show 2 * 0 + _ ≤ 8
    omega
  have hcs : (S.length - n0) + (S'.length - S.length) = S'.length - n0 ∧ (ksz S - z0) + (ksz S' - ksz S) = ksz S' - z0 := by omega
  have hcap : (S.length - n0) + (S'.length - S.length) ≤ R.cells ∧ (ksz S - z0) + (ksz S' - ksz S) ≤ R.slots := by
    rw [hcs.1, hcs.2]; omega
  have hback : ∀ (H1 : Heap) (locs1 : List Loc), kMem D dA b S' M' H1 → kcan S' M' → kst r.toList → va_S (fun q => b ≤ q) s.heap H1 locs1 → W p l e' R s m args below meth c H1 locs1 ((S.length - n0) + (S'.length - S.length)) ((ksz S - z0) + (ksz S' - ksz S)) (MQ below (kQ (D, dA, b, aK, aV) tg) args s (nc - n0) (nz - z0) (fun q => b ≤ q)) (F0 m (pc + 3) la (r.toList.map (kconv b) ++ st.map (kconv b))) := by
    intro H1 locs1 h1 h2 h3 h4
    refine W.cs hcs.1 hcs.2 ?_
    have k2 := k1 H1 locs1 la h1 h2 hls (fun v hv => (List.mem_append.mp hv).elim (h3 v) (hst2 v)) (by omega) h4 hlo
    rwa [List.map_append] at k2
  have hstk : st0.map (kconv b) = (as.map (kconv b)).reverse ++ st.map (kconv b) := by
    rw [hst, List.map_append, List.map_reverse]
  have hfix : CallFix p m c Y.2.1 c.maxLocals s args tbg Y.1 := ⟨hx, hb, rfl, hown, hts⟩
  rcases hi with ⟨hd, hsta, hn⟩ | ⟨hd, hins, c1, k0, n1, rs, as', hc1, hS1, hsel, has, hn⟩ | ⟨hd, hnm, hins, hret, k0, as', has, hn⟩
  · rcases hl with hl | ⟨host, hl⟩
    · exact kw_back (va_runS (As := as.map (kconv b)) (rest := st.map (kconv b)) hfix hMet ⟨⟨hbase.1, hbase.2.1, hbase.2.2.1, hbase.2.2.2.1, hbase.2.2.2.2.1, hbase.2.2.2.2.2, hts _ hcode, hts _ hini, ⟨hp1, hp2⟩, hnpar, hts _ hl⟩, hts _ hsta⟩ ⟨hblind, hpre⟩ rfl (by rw [List.length_map]; exact hn) hlo.1 hstk hroom hd hcap) hSS hback
    · exact kw_back (va_runSN (As := as.map (kconv b)) (rest := st.map (kconv b)) hfix hMet ⟨⟨hbase, hts _ hcode, hts _ hini, ⟨hp1, hp2⟩, hnpar, hts _ hl⟩, hts _ hsta, trivial⟩ ⟨hblind, hpre⟩ rfl (by rw [List.length_map]; exact hn) hlo.1 hstk hroom hd hcap) hSS hback
  · subst has
    have hrecv : ∃ cellB : Cell, H[b + k0]? = some cellB ∧ cellB.vm.isStatics = false ∧ s.vm.findClass (kCn c1) = some cellB.cls := by
      have hw := kws_get (dA := dA) (b := b) (M := M) hS1
      rw [kent_obj hc1] at hw
      obtain ⟨r0, h1, cell, q1, q2, q3, -⟩ := hM.1 k0 _ hw
      have := (hK.1 c1 _ (kcl_at hc1)).2.1
      exact ⟨cell, q1, by rw [q3]; rfl, by rw [q2]; exact this⟩
    have hlen : (as'.map (kconv b)).length = np := by rw [List.length_map]; exact hn
    have hstk' : st0.map (kconv b) = (as'.map (kconv b)).reverse ++ Value.ref (b + k0) :: st.map (kconv b) := by
      rw [hstk, List.map_cons, List.reverse_cons, List.append_assoc]; rfl
    rcases hl with hl | ⟨host, hl⟩
    · exact kw_back (va_runV (As := as'.map (kconv b)) (rest := st.map (kconv b)) hfix hMet ⟨⟨hbase.1, hbase.2.1, hbase.2.2.1, hbase.2.2.2.1, hbase.2.2.2.2.1, hbase.2.2.2.2.2, hts _ hcode, hts _ hini, ⟨hp1, hp2⟩, hnpar, hts _ hl⟩, hts _ hins, hts _ hsel⟩ ⟨hblind, hrecv, hpre⟩ rfl hlen hlo.1 hstk' hroom hd hcap) hSS hback
    · exact kw_back (va_runVN (As := as'.map (kconv b)) (rest := st.map (kconv b)) hfix hMet ⟨⟨hbase, hts _ hcode, hts _ hini, ⟨hp1, hp2⟩, hnpar, hts _ hl⟩, hts _ hins, hts _ hsel⟩ ⟨hblind, hrecv, hpre⟩ rfl hlen hlo.1 hstk' hroom hd hcap) hSS hback
  · subst has
    rw [hret] at hbase hMet hcode
    have hlen : (as'.map (kconv b)).length = np := by rw [List.length_map]; exact hn
    have hstk' : st0.map (kconv b) = (as'.map (kconv b)).reverse ++ Value.ref (b + k0) :: st.map (kconv b) := by
      rw [hstk, List.map_cons, List.reverse_cons, List.append_assoc]; rfl
    rcases hl with hl | ⟨host, hl⟩
    · exact kw_back (va_runI (As := as'.map (kconv b)) (rest := st.map (kconv b)) hfix hMet ⟨⟨hbase.1, hbase.2.1, hbase.2.2.1, hbase.2.2.2.1, hbase.2.2.2.2.1, hbase.2.2.2.2.2, hts _ hcode, hts _ hini, ⟨hp1, hp2⟩, hnpar, hts _ hl⟩, hnm, hts _ hins⟩ ⟨hblind, hpre⟩ rfl hlen hlo.1 hstk' hroom hd hcap) hSS hback
    · exact kw_back (va_runIN (As := as'.map (kconv b)) (rest := st.map (kconv b)) hfix hMet ⟨⟨hbase, hts _ hcode, hts _ hini, ⟨hp1, hp2⟩, hnpar, hts _ hl⟩, hnm, hts _ hins⟩ ⟨hblind, hpre⟩ rfl hlen hlo.1 hstk' hroom hd hcap) hSS hback
/-- a call of a method that makes nothing -/
theorem s_inv {y : MethodName} {np idx : Nat} {as st0 : List KV} {r : Option KV} {M' : KM} (hi : kInv Y S idx pc y as Y'.2.2.2.1 np) (hl : kML Y.1 idx y) (hm : KMd y Y' np) (hst : st0 = as.reverse ++ st) (hh : (Nat.ble (Y'.2.2.2.2 + 1) Y.2.2.2.2 && Nat.ble (kwords st) 8) = true) (hC : Ctr y Y' as S M r S M')
    (k : Sim G Y e (kC (pc + 3) ls (r.toList ++ st) S M') κ) : Sim G Y e (kC pc ls st0 S M) κ := by
  simp only [Bool.and_eq_true] at hh
  exact s_invG hi hl hm hst (Nat.le_of_ble_eq_true hh.1) (Nat.le_of_ble_eq_true hh.2) hC ⟨Nat.le_refl _, Nat.le_refl _⟩ (Or.inr rfl) k
/-- as an expression: 'f' tells answer and cells -/
theorem s_callE {β : Type} {f : Option β} {g : β → Option α} {y : MethodName} {np idx : Nat} {as st0 : List KV} {r : β → Option KV} {M' : β → KM} (hi : kInv Y S idx pc y as Y'.2.2.2.1 np) (hl : kML Y.1 idx y) (hm : KMd y Y' np) (hst : st0 = as.reverse ++ st) (hh : (Nat.ble (Y'.2.2.2.2 + 1) Y.2.2.2.2 && Nat.ble (kwords st) 8) = true) (hC : ∀ q, f = some q → Ctr y Y' as S M (r q) S (M' q))
    (k : ∀ q, Sim G Y (g q) (kC (pc + 3) ls ((r q).toList ++ st) S (M' q)) κ) : Sim G Y (f >>= g) (kC pc ls st0 S M) κ := by
  intro hG a ha
  cases hf : f with
  | none => rw [hf] at ha; cases ha
  | some q =>
    rw [hf] at ha
    exact s_inv hi hl hm hst hh (hC q hf) (k q) hG a ha
end KINV
