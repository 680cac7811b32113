/-! LOOPS, JOINS, NAMES -/
def maskL : List Bool → List (Option KV) → List (Option KV)
  | true :: bs, v :: vs => v :: maskL bs vs
  | false :: bs, _ :: vs => none :: maskL bs vs
  | _, _ => []
theorem maskL_le : ∀ {bs : List Bool} {ls : List (Option KV)} {i : Nat} {v : KV}, (maskL bs ls)[i]? = some (some v) → ls[i]? = some (some v) := by
  intro bs
  induction bs with
  | nil => intro ls i v h; cases ls <;> cases h
  | cons b bs ih =>
    intro ls i v h
    cases ls with
    | nil => cases b <;> cases h
    | cons w ls =>
      cases b
      · cases i with
        | zero => cases h
        | succ i => exact ih (ls := ls) (i := i) h
      · cases i with
        | zero => exact h
        | succ i => exact ih (ls := ls) (i := i) h
section KL
variable {α : Type} {G : Gam} {Y : KY} {e e1 e2 : Option α} {κ : α → KCf} {pc : Nat} {ls : List (Option KV)} {st : List KV} {S : KS} {M : KM}
theorem s_mask (bs : List Bool) (k : Sim G Y e (kC pc (maskL bs ls) st S M) κ) : Sim G Y e (kC pc ls st S M) κ := by
  intro hG a ha hk
  have k1 := k hG a ha hk
  obtain ⟨⟨p, l, e, R, s, m, args, below, meth, c⟩, ⟨D, dA, b, aK, aV⟩, ⟨n0, z0, nc, nz⟩, tg⟩ := G
  intro H locs la hM hc hl hs hn hS hlo
  exact k1 H locs la hM hc (fun i v h => hl i v (maskL_le h)) hs hn hS ⟨hlo.1, hlo.2.1, fun i v h => hlo.2.2 i v (maskL_le h)⟩
theorem s_while {σ ε : Type} {body : σ → Option (σ ⊕ ε)} {c : σ → KCf} {κ' : ε → KCf} (h : ∀ s, Sim G Y (body s) (c s) (Sum.elim c κ')) (s : σ) : Sim G Y (whileO body s) (c s) κ' := by
  intro hG e he hk
  obtain ⟨n, hn⟩ := whileO_iff.mp he
  clear he
  induction n generalizing s with
  | zero => cases hn
  | succ n ih =>
    unfold iterO at hn
    cases hb : body s with
    | none => rw [hb] at hn; cases hn
    | some q =>
      rw [hb] at hn
      refine h s hG q hb ?_
      cases q with
      | inl s' => exact ih s' hn
      | inr e' => cases hn; exact hk
theorem s_elim {A B : Type} {f : A → Option α} {g : B → Option α} {κa : A → KCf} {κb : B → KCf} (ha : ∀ a, Sim G Y (f a) (κa a) κ) (hb : ∀ b, Sim G Y (g b) (κb b) κ) (x : A ⊕ B) : Sim G Y (Sum.elim f g x) (Sum.elim κa κb x) κ := by
  cases x with
  | inl a => exact ha a
  | inr b => exact hb b
/-- from here on the cells, the top number, have a name -/
theorem s_letM {f : KM → Option α} (k : ∀ M1, Sim G Y (f M1) (kC pc ls st S M1) κ) : Sim G Y (letM_ M f) (kC pc ls st S M) κ := k M
theorem s_letI {x : Int} {f : Int → Option α} (k : ∀ v, Sim G Y (f v) (kC pc ls (VI v :: st) S M) κ) : Sim G Y (letI_ x f) (kC pc ls (VI x :: st) S M) κ := k x
theorem s_acopy {k0 k1 n0 n1 idx : Nat} {n N0 N1 : Int} {rs0 rs1 : List (Option Nat)} (hd : decode Y.2.1 pc = .ok (.invokestatic idx, 3)) (hl : Cond.methodLink Y.1 idx arraycopyName ∈ tbg) (hw : Cond.native arraycopyName ∈ tbg ∧ Cond.static arraycopyName ∈ tbg ∧ Cond.initialized "java/lang/System" ∈ tbg) (hS0 : S[k0]? = some ((20, n0), rs0)) (hS1 : S[k1]? = some ((20, n1), rs1)) (hN : N0 = (n0 : Int) ∧ N1 = (n1 : Int)) (hh : (Nat.ble 1 Y.2.2.2.2 && Nat.ble (kwords st) 8) = true)
    (kk : Sim G Y e (kC (pc + 3) ls st S (mcp M k0 k1 n.toNat)) κ) : Sim G Y (if 0 ≤ n ∧ n ≤ N0 ∧ n ≤ N1 then e else none) (kC pc ls (VI n :: VI 0 :: VR (some k1) :: VI 0 :: VR (some k0) :: st) S M) κ := by
  obtain ⟨rfl, rfl⟩ := hN
  simp only [Bool.and_eq_true] at hh
  have hh1 := Nat.le_of_ble_eq_true hh.1
  have hh2 := Nat.le_of_ble_eq_true hh.2
  refine s_if fun hn => s_wr (k := k1) (st' := st) hS1 (fun k' hk' => by funext i; unfold mcp; rw [if_neg (fun q => hk' q.1)]) (fun p l e R s m args below meth c H locs cells slots Q la b D dA hx hb hml hown hts hfr hlo hK hP hc hs kk => ?_) (fun h => kst_tl (kst_tl (kst_tl (kst_tl (kst_tl h))))) (fun hc h => ?_) kk
  · have hnw : nativeFrameWords "java/lang/System" "arraycopy" 5 ≤ 45 := by decide +kernel
    have hr := kst_hI hs
    have en : (Int32.ofInt n).toNatClampNeg = n.toNat := Int32.toNatClampNeg_ofInt_of_le hr.1 hr.2
    have ent : (Int32.ofInt n).toInt = n := R32_toInt hr
    intro T hT X
    have hc0 : H[b + k0]? = some (vp_cell (dA 0) (n0, .inl fun j => Int32.ofInt (M k0 j))) := hP k0 _ (kws_get hS0)
    have hc1 : H[b + k1]? = some (vp_cell (dA 0) (n1, .inl fun j => Int32.ofInt (M k1 j))) := hP k1 _ (kws_get hS1)
    obtain ⟨-, q0, hq0, cm0, hqq0⟩ := (hK.2 0 _ rfl).1 n0 (fun j => .int (Int32.ofInt (M k0 j)))
    obtain ⟨-, q1, hq1, cm1, hqq1⟩ := (hK.2 0 _ rfl).1 n1 (fun j => .int (Int32.ofInt (M k1 j)))
    have z0 : (Int32.ofInt 0).toInt = 0 := rfl
    obtain ⟨vm', X', step⟩ := X.arraycopy hx hown (hts _ hl) (hts _ hw.1) (hts _ hw.2.1) (hts _ hw.2.2) (src := b + k0) (dst := b + k1) (cs := vp_cell (dA 0) (n0, .inl fun j => Int32.ofInt (M k0 j))) (cd := vp_cell (dA 0) (n1, .inl fun j => Int32.ofInt (M k1 j))) (srcPos := Int32.ofInt 0) (destPos := Int32.ofInt 0) (n := Int32.ofInt n) (by rw [hT]; exact hc0) (by rw [hT]; exact hc1)
      (fun _ h => by cases h) (fun _ h => by cases h) (fun h => by cases h) (fun h => by cases h) hq0 hq1 hqq0 hqq1 (by simp [refKind]) (by decide) (by decide) (fun q => by have := (i32_lt hr R32_0).mp q; omega)
      (by rw [z0, ent]; show ¬ _ > ((arrV (dA 0) n0 (fun j => .int (Int32.ofInt (M k0 j)))).slots.size : Int); rw [arrV_size]; omega)
      (by rw [z0, ent]; show ¬ _ > ((arrV (dA 0) n1 (fun j => .int (Int32.ofInt (M k1 j)))).slots.size : Int); rw [arrV_size]; omega)
      (fun vm₁ _ i hi => by
        have e : (vp_cell (dA 0) (n0, .inl fun j => Int32.ofInt (M k0 j))).slots.getD ((Int32.ofInt 0).toNatClampNeg + i) .null = .int (Int32.ofInt (M k0 ((Int32.ofInt 0).toNatClampNeg + i))) := by
          show (arrV (dA 0) n0 (fun j => .int (Int32.ofInt (M k0 j)))).slots.getD _ _ = _
          rw [Array.getD_eq_getD_getElem?, arrV_read _ _ (by rw [en] at hi; show 0 + i < n0; omega)]
          rfl
        refine ⟨?_, ?_⟩
        · rw [e]; rfl
        · rw [e]; exact trivial)
      (g := F0 m pc la ((VI n :: VI 0 :: VR (some k1) :: VI 0 :: VR (some k0) :: st).map (kconv b))) rfl (by rw [← hml]) (rest := st.map (kconv b)) rfl (by rw [hb]; exact hd) (Nat.le_trans hh1 hfr) (by rw [kwords_map]; show 2 * 0 + _ + (_ + 11) ≤ _; omega)
    have e1 := va_copied (fun z => Value.int z) (dA 0) (dA 0) (n0 := n0) (n1 := n1) (sp := (Int32.ofInt 0).toNatClampNeg) (dp := (Int32.ofInt 0).toNatClampNeg) (n := (Int32.ofInt n).toNatClampNeg) (fun j => Int32.ofInt (M k0 j)) (fun j => Int32.ofInt (M k1 j)) (by rw [en]; show 0 + _ ≤ _; omega)
    have e2 : copied (vp_cell (dA 0) (n0, .inl fun j => Int32.ofInt (M k0 j))) (vp_cell (dA 0) (n1, .inl fun j => Int32.ofInt (M k1 j))) (Int32.ofInt 0) (Int32.ofInt 0) (Int32.ofInt n) = vp_cell (dA 0) (n1, .inl (va_cpy (fun j => Int32.ofInt (M k0 j)) (fun j => Int32.ofInt (M k1 j)) 0 0 n.toNat)) := by
      rw [← en]; exact e1
    rw [e2] at X' step
    have hlt : b + k1 < H.size := (Array.getElem?_eq_some_iff.mp hc1).1
    have e3 : va_cpy (fun j => Int32.ofInt (M k0 j)) (fun j => Int32.ofInt (M k1 j)) 0 0 n.toNat = fun j => Int32.ofInt (mcp M k0 k1 n.toNat k1 j) := by
      funext j
      unfold va_cpy mcp
      by_cases h : j < n.toNat
      · rw [if_pos ⟨Nat.zero_le _, by omega⟩, if_pos ⟨rfl, h⟩]
        simp
      · rw [if_neg (by omega), if_neg (fun q => h q.2)]
    rw [e3] at X' step
    obtain ⟨t, a1, b1⟩ := kk (H.setIfInBounds (b + k1) (vp_cell (dA 0) (n1, .inl fun j => Int32.ofInt (mcp M k0 k1 n.toNat k1 j)))) _ (show (H.setIfInBounds (b + k1) _)[b + k1]? = some _ by simp [Array.getElem?_setIfInBounds, hlt]) (fun q hq => by simp [Array.getElem?_setIfInBounds, Ne.symm hq]) (by simp) (fun x hx => by
        rcases List.mem_append.mp hx with h | h
        · exact Or.inl h
        · obtain ⟨z, -, hz⟩ := List.mem_map.mp h
          rw [← hz]
          exact Or.inr rfl) _ (by rw [← hT]; rfl) X'
    exact ⟨t, step t a1, b1⟩
  · intro k' q' hq' j'
    unfold mcp
    split
    · rename_i hh
      obtain ⟨rfl, -⟩ := hh
      rw [hS1] at hq'
      cases hq'
      exact hc k0 _ hS0 j'
    · exact hc k' q' hq' j'
end KL
