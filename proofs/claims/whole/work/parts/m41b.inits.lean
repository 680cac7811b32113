/-! CONSTRUCTORS: the object is the newest cell; what it makes comes behind it -/
theorem in_len {S1 R : KS} {o : KQ} {j : Nat} (hR : R.length = j) : (S1 ++ (o :: R)).length = S1.length + (1 + j) := by
  rw [List.length_append, List.length_cons, hR]; omega
theorem ksz_app {A B : KS} : ksz (A ++ B) = ksz A + ksz B := by
  unfold ksz
  rw [List.map_append, List.sum_append]
theorem ksz_cons {o : KQ} {R : KS} : ksz (o :: R) = o.1.2 + ksz R := by
  unfold ksz
  rw [List.map_cons, List.sum_cons]
theorem in_ksz {S1 R : KS} {o : KQ} {z w : Nat} (hR : ksz R = z ∧ o.1.2 = w) : ksz (S1 ++ (o :: R)) = ksz S1 + (w + z) := by
  rw [ksz_app, ksz_cons, hR.1, hR.2]
theorem in_get {S1 R : KS} {o : KQ} : (S1 ++ (o :: R))[S1.length]? = some o := by
  rw [List.getElem?_append_right (Nat.le_refl _), Nat.sub_self]; rfl
theorem in_set {S1 R : KS} {o o' : KQ} : (S1 ++ (o :: R)).set S1.length o' = S1 ++ (o' :: R) := by
  rw [List.set_append_right _ _ (Nat.le_refl _), Nat.sub_self]; rfl
theorem in_app {S1 R A : KS} {o : KQ} : (S1 ++ (o :: R)) ++ A = S1 ++ (o :: (R ++ A)) := by
  rw [List.append_assoc]; rfl
section KINI
variable {α : Type} {G : Gam} {Y Y' : KY} {e : Option α} {κ : α → KCf} {pc : Nat} {ls : List (Option KV)} {st : List KV} {S1 R : KS} {o : KQ} {M : KM} {j z w : Nat}
/-- behind the object all is kblk -/
def kblk (M : KM) (n : Nat) : Prop := ∀ c, n ≤ c → ∀ i, M c i = 0
theorem i_newI {n : Nat} {N : Int} (hd : decode Y.2.1 pc = .ok (.newarray .int, 2)) (hN : N = (n : Int)) (hn : n < 60000) (hw : Cond.arrayClass .int ∈ tbg) (hR : R.length = j ∧ ksz R = z ∧ o.1.2 = w) (hz : kblk M (S1.length + (1 + j))) (hlim : kFits G (S1.length + (1 + j) + 1) (ksz S1 + (w + z) + n)) (k : Sim G Y e (kC (pc + 2) ls (VR (some (S1.length + (1 + j))) :: st) (S1 ++ (o :: (R ++ [((20, n), [])]))) M) κ) : Sim G Y e (kC pc ls (VI N :: st) (S1 ++ (o :: R)) M) κ := by
  refine s_newaI hd hN hn hw ?_ ?_ ?_
  · rw [in_len hR.1]; exact hz _ (Nat.le_refl _)
  · rw [in_len hR.1, in_ksz hR.2]; exact hlim
  · rw [in_len hR.1, in_app]; exact k
theorem i_newJ {n : Nat} {N : Int} (hd : decode Y.2.1 pc = .ok (.newarray .long, 2)) (hN : N = (n : Int)) (hn : n < 60000) (hw : Cond.arrayClass .long ∈ tbg) (hR : R.length = j ∧ ksz R = z ∧ o.1.2 = w) (hz : kblk M (S1.length + (1 + j))) (hlim : kFits G (S1.length + (1 + j) + 1) (ksz S1 + (w + z) + n)) (k : Sim G Y e (kC (pc + 2) ls (VR (some (S1.length + (1 + j))) :: st) (S1 ++ (o :: (R ++ [((21, n), [])]))) M) κ) : Sim G Y e (kC pc ls (VI N :: st) (S1 ++ (o :: R)) M) κ := by
  refine s_newaJ hd hN hn hw ?_ ?_ ?_
  · rw [in_len hR.1]; exact hz _ (Nat.le_refl _)
  · rw [in_len hR.1, in_ksz hR.2]; exact hlim
  · rw [in_len hR.1, in_app]; exact k
theorem i_newB {n : Nat} {N : Int} (hd : decode Y.2.1 pc = .ok (.newarray .byte, 2)) (hN : N = (n : Int)) (hn : n < 60000) (hw : Cond.arrayClass .byte ∈ tbg) (hR : R.length = j ∧ ksz R = z ∧ o.1.2 = w) (hz : kblk M (S1.length + (1 + j))) (hlim : kFits G (S1.length + (1 + j) + 1) (ksz S1 + (w + z) + n)) (k : Sim G Y e (kC (pc + 2) ls (VR (some (S1.length + (1 + j))) :: st) (S1 ++ (o :: (R ++ [((22, n), [])]))) M) κ) : Sim G Y e (kC pc ls (VI N :: st) (S1 ++ (o :: R)) M) κ := by
  refine s_newaB hd hN hn hw ?_ ?_ ?_
  · rw [in_len hR.1]; exact hz _ (Nat.le_refl _)
  · rw [in_len hR.1, in_ksz hR.2]; exact hlim
  · rw [in_len hR.1, in_app]; exact k
theorem i_newZ {n : Nat} {N : Int} (hd : decode Y.2.1 pc = .ok (.newarray .boolean, 2)) (hN : N = (n : Int)) (hn : n < 60000) (hw : Cond.arrayClass .boolean ∈ tbg) (hR : R.length = j ∧ ksz R = z ∧ o.1.2 = w) (hz : kblk M (S1.length + (1 + j))) (hlim : kFits G (S1.length + (1 + j) + 1) (ksz S1 + (w + z) + n)) (k : Sim G Y e (kC (pc + 2) ls (VR (some (S1.length + (1 + j))) :: st) (S1 ++ (o :: (R ++ [((23, n), [])]))) M) κ) : Sim G Y e (kC pc ls (VI N :: st) (S1 ++ (o :: R)) M) κ := by
  refine s_newaZ hd hN hn hw ?_ ?_ ?_
  · rw [in_len hR.1]; exact hz _ (Nat.le_refl _)
  · rw [in_len hR.1, in_ksz hR.2]; exact hlim
  · rw [in_len hR.1, in_app]; exact k
theorem i_newQ {n idx : Nat} {N : Int} (hd : decode Y.2.1 pc = .ok (.anewarray idx, 3)) (hN : N = (n : Int)) (hn : n < 60000) (hcl : Cond.classLink Y.1 idx "YearHands$State" ∈ tbg) (hR : R.length = j ∧ ksz R = z ∧ o.1.2 = w) (hz : kblk M (S1.length + (1 + j))) (hlim : kFits G (S1.length + (1 + j) + 1) (ksz S1 + (w + z) + n)) (k : Sim G Y e (kC (pc + 3) ls (VR (some (S1.length + (1 + j))) :: st) (S1 ++ (o :: (R ++ [((24, n), List.replicate n none)]))) M) κ) : Sim G Y e (kC pc ls (VI N :: st) (S1 ++ (o :: R)) M) κ := by
  refine s_newq hd hN hn hcl ?_ ?_ ?_
  · rw [in_len hR.1]; exact hz _ (Nat.le_refl _)
  · rw [in_len hR.1, in_ksz hR.2]; exact hlim
  · rw [in_len hR.1, in_app]; exact k
theorem i_new {c idx : Nat} (hd : decode Y.2.1 pc = .ok (.new idx, 3)) (hc : c < 13) (hcl : Cond.classLink Y.1 idx (kCn c) ∈ tbg) (hR : R.length = j ∧ ksz R = z ∧ o.1.2 = w) (hz : kblk M (S1.length + (1 + j))) (hlim : kFits G (S1.length + (1 + j) + 1) (ksz S1 + (w + z) + kN c)) (k : Sim G Y e (kC (pc + 3) ls (VR (some (S1.length + (1 + j))) :: st) (S1 ++ (o :: (R ++ [((c, kN c), List.replicate (kN c) none)]))) M) κ) : Sim G Y e (kC pc ls st (S1 ++ (o :: R)) M) κ := by
  refine s_new hd hc hcl ?_ ?_ ?_
  · rw [in_len hR.1]; exact hz _ (Nat.le_refl _)
  · rw [in_len hR.1, in_ksz hR.2]; exact hlim
  · rw [in_len hR.1, in_app]; exact k
theorem i_putR {idx c i r : Nat} {rs : List (Option Nat)} (hini : kIni G) (hd : decode Y.2.1 pc = .ok (.putfield idx, 3)) (hF : (c < 13 ∧ i < kN c) ∧ Cond.fieldLink Y.1 idx (kT c i).1 (kT c i).2.1 (kT c i).2.2.1 ∈ tbg) (hown0 : Y.1 = kCn c) (ht : (kT c i).2.2.2 = true ∧ kir (kTy c i) = true) (hlr : Nat.ble (i + 1) rs.length = true) (k : Sim G Y e (kC (pc + 3) ls st (S1 ++ (((c, kN c), rs.set i (some r)) :: R)) M) κ) : Sim G Y e (kC pc ls (VR (some r) :: VR (some S1.length) :: st) (S1 ++ (((c, kN c), rs) :: R)) M) κ := by
  refine s_putR hini hd hF hown0 in_get ht (Nat.le_of_ble_eq_true hlr) ?_
  rw [in_set]; exact k
theorem i_putI {idx c i : Nat} {rs : List (Option Nat)} {x : Int} (hd : decode Y.2.1 pc = .ok (.putfield idx, 3)) (hF : (c < 13 ∧ i < kN c) ∧ Cond.fieldLink Y.1 idx (kT c i).1 (kT c i).2.1 (kT c i).2.2.1 ∈ tbg) (ht : (kT c i).2.2.2 = false ∧ kTy c i = .int) (k : Sim G Y e (kC (pc + 3) ls st (S1 ++ (((c, kN c), rs) :: R)) (mupd M S1.length i x)) κ) : Sim G Y e (kC pc ls (VI x :: VR (some S1.length) :: st) (S1 ++ (((c, kN c), rs) :: R)) M) κ := s_putI hd hF in_get ht k
theorem mupd_0 {M : KM} {k i : Nat} {x : Int} (h : M k i = x) : mupd M k i x = M := by
  funext k' i'
  rw [mupd_at]
  split
  · rename_i q; rw [q.1, q.2, h]
  · rfl
theorem i_put0 {idx c i : Nat} {rs : List (Option Nat)} {x : Int} (hd : decode Y.2.1 pc = .ok (.putfield idx, 3)) (hF : (c < 13 ∧ i < kN c) ∧ Cond.fieldLink Y.1 idx (kT c i).1 (kT c i).2.1 (kT c i).2.2.1 ∈ tbg) (ht : (kT c i).2.2.2 = false ∧ kTy c i = .int) (h0 : M S1.length i = x) (k : Sim G Y e (kC (pc + 3) ls st (S1 ++ (((c, kN c), rs) :: R)) M) κ) : Sim G Y e (kC pc ls (VI x :: VR (some S1.length) :: st) (S1 ++ (((c, kN c), rs) :: R)) M) κ := i_putI hd hF ht (by rw [mupd_0 h0]; exact k)
theorem i_putZ0 {idx c i : Nat} {rs : List (Option Nat)} (hd : decode Y.2.1 pc = .ok (.putfield idx, 3)) (hF : (c < 13 ∧ i < kN c) ∧ Cond.fieldLink Y.1 idx (kT c i).1 (kT c i).2.1 (kT c i).2.2.1 ∈ tbg) (ht : (kT c i).2.2.2 = false ∧ kTy c i = .boolean) (h0 : M S1.length i = 0) (k : Sim G Y e (kC (pc + 3) ls st (S1 ++ (((c, kN c), rs) :: R)) M) κ) : Sim G Y e (kC pc ls (VI 0 :: VR (some S1.length) :: st) (S1 ++ (((c, kN c), rs) :: R)) M) κ :=
  s_putG hd hF in_get ht.1 (Or.inl (by rw [ht.2]; rfl)) (fun b => by rw [ht.2]; rfl) (fun h => by rw [ht.2]; exact ⟨by decide, by decide⟩) (by rw [mupd_0 h0]; exact k)
/-- what a constructor does: the object, newest, becomes the block A -/
def Cin (y : MethodName) (Y : KY) (S : KS) (o : KQ) (M : KM) (A : KS) (M' : KM) : Prop := Ctr y Y [VR (some S.length)] (S ++ [o]) M none (S ++ A) M'
theorem i_call {y : MethodName} {idx ja za : Nat} {o' : KQ} {A : KS} {M' : KM} (hd : decode Y.2.1 pc = .ok (.invokespecial idx, 3)) (hy : y.name = "<init>") (hin : Cond.instanceMethod y ∈ tbg) (hrt : Y'.2.2.2.1 = none) (hl : kML Y.1 idx y) (hm : KMd y Y' 0) (hh : Nat.ble (Y'.2.2.2.2 + 1) Y.2.2.2.2 = true) (hw : Nat.ble (kwords st) 8 = true) (hR : R.length = j ∧ ksz R = z ∧ o.1.2 = w) (hA : A.length = ja ∧ ksz A = za) (h1 : 1 ≤ ja ∧ o'.1.2 ≤ za) (hC : Cin y Y' (S1 ++ (o :: R)) o' M A M') (hlim : kFits G (S1.length + (1 + j) + ja) (ksz S1 + (w + z) + za)) (k : Sim G Y e (kC (pc + 3) ls st (S1 ++ (o :: (R ++ A))) M') κ) : Sim G Y e (kC pc ls (VR (some (S1.length + (1 + j))) :: st) (S1 ++ (o :: (R ++ [o']))) M) κ := by
  unfold Cin at hC
  rw [in_len hR.1] at hC
  rw [← in_app]
  have l1 : ((S1 ++ (o :: R)) ++ [o']).length = S1.length + (1 + j) + 1 := by rw [List.length_append, in_len hR.1]; rfl
  have l2 : ((S1 ++ (o :: R)) ++ A).length = S1.length + (1 + j) + ja := by rw [List.length_append, in_len hR.1, hA.1]
  have z1 : ksz ((S1 ++ (o :: R)) ++ [o']) = ksz S1 + (w + z) + o'.1.2 := by rw [ksz_app, in_ksz hR.2, ksz_cons]; rfl
  have z2 : ksz ((S1 ++ (o :: R)) ++ A) = ksz S1 + (w + z) + za := by rw [ksz_app, in_ksz hR.2, hA.2]
  refine s_invG (y := y) (np := 0) (as := [VR (some (S1.length + (1 + j)))]) (r := none) (Or.inr (Or.inr ⟨hd, hy, hin, hrt, _, [], rfl, rfl⟩)) hl hm rfl (Nat.le_of_ble_eq_true hh) (Nat.le_of_ble_eq_true hw) hC (by rw [l1, l2, z1, z2]; omega) (Or.inl (by rw [l2, z2]; exact hlim)) ?_
  rw [in_app]
  exact k
end KINI
theorem ap0 {R : KS} {q : KQ} {j z j' z' w : Nat} (hw : q.1.2 = w) (h : R.length = j ∧ ksz R = z) (hj : 1 + j = j') (hz : w + z = z') : (q :: R).length = j' ∧ ksz (q :: R) = z' := ⟨by rw [List.length_cons, h.1]; omega, by rw [ksz_cons, h.2, hw, hz]⟩
theorem ap1 {R : KS} {q : KQ} {j z j' z' : Nat} (h : R.length = j ∧ ksz R = z) (hj : j + 1 = j') (hz : z + q.1.2 = z') : (R ++ [q]).length = j' ∧ ksz (R ++ [q]) = z' := ⟨by rw [List.length_append, h.1]; exact hj, by rw [ksz_app, h.2, ksz_cons]; exact hz⟩
theorem apB {R A : KS} {j z ja za j' z' : Nat} (h : R.length = j ∧ ksz R = z) (hA : A.length = ja ∧ ksz A = za) (hj : j + ja = j') (hz : z + za = z') : (R ++ A).length = j' ∧ ksz (R ++ A) = z' := ⟨by rw [List.length_append, h.1, hA.1]; exact hj, by rw [ksz_app, h.2, hA.2]; exact hz⟩
theorem kblk.up {M : KM} {n m : Nat} (h : kblk M n) (hm : n ≤ m) : kblk M m := fun c hc i => h c (Nat.le_trans hm hc) i
theorem kblk.upd {M : KM} {m k i : Nat} {x : Int} (h : kblk M m) (hk : k < m) : kblk (mupd M k i x) m := fun c hc z => by rw [mupd_ne _ _ (by omega)]; exact h c hc z
theorem apN : ([] : KS).length = 0 ∧ ksz [] = 0 := ⟨rfl, rfl⟩
