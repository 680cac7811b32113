/-! ALL GIFTS, the first side -/
def wrG (G : GS) (g : Nat → Int) (p : Nat) : Bool := G.1 p && decide (g p ≠ G.2.1 p)
def WG (T : TW) (G : GS) (g : Nat → Int) : Nat := cntN (wrG G g) (T 0 0).toNat
theorem cnt_one {h h' : Nat → Bool} {q : Nat} (he : ∀ p, p ≠ q → h' p = h p) : ∀ n, cntN h' n + (if q < n ∧ h q = true then 1 else 0) = cntN h n + (if q < n ∧ h' q = true then 1 else 0) := by
  intro n
  induction n with
  | zero => simp [cntN_0]
  | succ n ih =>
    rw [cntN_s, cntN_s]
    by_cases hq : q = n
    · subst hq
      have e1 : ∀ b : Bool, (if q < q + 1 ∧ b = true then 1 else 0) = (if b = true then 1 else 0 : Nat) := fun b => ifc ⟨fun z => z.2, fun z => ⟨by omega, z⟩⟩
      have e2 : ∀ b : Bool, (if q < q ∧ b = true then 1 else 0) = (0 : Nat) := fun b => if_neg (fun z => by omega)
      rw [e1, e1]
      rw [e2, e2] at ih
      omega
    · have e1 : ∀ b : Bool, (if q < n + 1 ∧ b = true then 1 else 0) = (if q < n ∧ b = true then 1 else 0 : Nat) := fun b => ifc ⟨fun z => ⟨by omega, z.2⟩, fun z => ⟨by omega, z.2⟩⟩
      rw [e1, e1, he n (by omega)]
      omega
def GX (T : TW) (G : GS) (g : Nat → Int) (M : KM) : Prop := (∀ p : Nat, (p : Int) < T 0 0 → M 358 p = g p) ∧ M 355 9 = (WG T G g : Int) ∧ (0 ≤ M 355 8 ∧ M 355 8 < 256 ∧ ∀ p, bt (M 355 8) p = G.1 p) ∧ ∀ p, p < 8 → M 359 p = G.2.1 p
theorem X_isWrong {T : TW} {G : GS} {g : Nat → Int} {M : KM} (hn : T 0 0 ≤ 8) (hA : 0 ≤ M 355 8 ∧ M 355 8 < 256 ∧ ∀ p, bt (M 355 8) p = G.1 p) (hW : ∀ p, p < 8 → M 359 p = G.2.1 p) {p : Nat} (hp : (p : Int) < T 0 0) (hg : M 358 p = g p) : f_Gifts_isWrong p M = some (if wrG G g p = true then 1 else 0) := by
  unfold f_Gifts_isWrong wrG
  rw [isInV_bt hA.1 (by omega), Int.toNat_natCast, hA.2.2, atM_nat _ _ _ (by omega), atM_nat _ _ _ (by omega), hg, hW p (by omega)]
  by_cases ha : G.1 p = true
  · by_cases he : g p = G.2.1 p
    · simp [ha, he]
    · simp [ha, he]
  · simp [ha]
def pGr (k j : Nat) : Prop := k = 358 ∨ (k = 355 ∧ j = 9)
theorem X_grow {T : TW} {G : GS} {g : Nat → Int} {M : KM} (hn : T 0 0 ≤ 8) (h : GX T G g M) {p : Nat} (hp : (p : Int) < T 0 0) {d : Int} (hb : -1000000 ≤ g p + d ∧ g p + d ≤ 1000000) : Ret (f_Gifts_grow p d M) (fun M' => GX T G (vset g p (g p + d)) M' ∧ Fp pGr M M') := by
  obtain ⟨h1, h2, h3, h4⟩ := h
  have hc := cnt_one (h := wrG G g) (h' := wrG G (vset g p (g p + d))) (q := p) (fun q hq => by unfold wrG; rw [vset_ne _ _ hq]) (T 0 0).toNat
  have e1 : ∀ b : Bool, (if p < (T 0 0).toNat ∧ b = true then 1 else 0) = (if b = true then 1 else 0 : Nat) := fun b => ifc ⟨fun z => z.2, fun z => ⟨by omega, z⟩⟩
  rw [e1, e1] at hc
  have hl1 := cntN_le (wrG G g) (T 0 0).toNat
  have hl2 := cntN_le (wrG G (vset g p (g p + d))) (T 0 0).toNat
  unfold f_Gifts_grow
  rw [X_isWrong hn h3 h4 hp (h1 p hp), ob_some]
  have e2 : ∀ b : Bool, (if (if b = true then (1 : Int) else 0) = 0 then some (0 : Int) else some 1) = some (if b = true then 1 else 0) := fun b => by cases b <;> rfl
  rw [e2, ob_some, h2, letM_e, atM_nat _ _ _ (by omega), mupd_ne _ _ (by omega), h1 p hp, w32e (n := g p + d) (by omega) (by omega), putM_nat _ _ _ _ (by omega), letM_e]
  generalize hM4 : mupd (mupd M 355 9 (w32 ((WG T G g : Int) - if wrG G g p = true then 1 else 0))) 358 p (g p + d) = M4
  have k8 : M4 355 8 = M 355 8 := by rw [← hM4, mupd_ne _ _ (by omega), mupd_ne2 _ _ (by omega)]
  have k359 : ∀ q, M4 359 q = M 359 q := fun q => by rw [← hM4, mupd_ne _ _ (by omega), mupd_ne _ _ (by omega)]
  have k358 : M4 358 p = vset g p (g p + d) p := by rw [← hM4, mupd_same, vset_same]
  have k9 : M4 355 9 = w32 ((WG T G g : Int) - if wrG G g p = true then 1 else 0) := by rw [← hM4, mupd_ne _ _ (by omega), mupd_same]
  have f4 : Fp pGr M M4 := by rw [← hM4]; exact (Fp.rf.upd (Or.inr ⟨rfl, rfl⟩)).upd (Or.inl rfl)
  rw [X_isWrong (g := vset g p (g p + d)) hn (by rw [k8]; exact h3) (fun q hq => by rw [k359]; exact h4 q hq) hp k358, ob_some, e2, ob_some, k9, letM_e]
  have eW : w32 (w32 ((WG T G g : Int) - if wrG G g p = true then 1 else 0) + if wrG G (vset g p (g p + d)) p = true then 1 else 0) = (WG T G (vset g p (g p + d)) : Int) := by
    unfold WG
    by_cases b1 : wrG G g p = true
    · by_cases b2 : wrG G (vset g p (g p + d)) p = true
      · rw [if_pos b1, if_pos b2] at hc
        rw [if_pos b1, if_pos b2, w32e (n := (cntN (wrG G g) (T 0 0).toNat : Int) - 1) (by omega) (by omega), w32e (by omega) (by omega)]; omega
      · rw [if_pos b1, if_neg b2] at hc
        rw [if_pos b1, if_neg b2, w32e (n := (cntN (wrG G g) (T 0 0).toNat : Int) - 1) (by omega) (by omega), w32e (by omega) (by omega)]; omega
    · by_cases b2 : wrG G (vset g p (g p + d)) p = true
      · rw [if_neg b1, if_pos b2] at hc
        rw [if_neg b1, if_pos b2, w32e (n := (cntN (wrG G g) (T 0 0).toNat : Int) - 0) (by omega) (by omega), w32e (by omega) (by omega)]; omega
      · rw [if_neg b1, if_neg b2] at hc
        rw [if_neg b1, if_neg b2, w32e (n := (cntN (wrG G g) (T 0 0).toNat : Int) - 0) (by omega) (by omega), w32e (by omega) (by omega)]; omega
  rw [eW]
  refine Ret.pure ⟨⟨fun q hq => ?_, mupd_same _ _ _ _, ?_, fun q hq => ?_⟩, f4.upd (Or.inr ⟨rfl, rfl⟩)⟩
  · rw [mupd_ne _ _ (by omega)]
    by_cases hqp : q = p
    · subst hqp; exact k358
    · rw [← hM4, mupd_ne2 _ _ hqp, mupd_ne _ _ (by omega), vset_ne _ _ hqp]; exact h1 q hq
  · rw [mupd_ne2 _ _ (by omega), k8]; exact h3
  · rw [mupd_ne _ _ (by omega), k359]; exact h4 q hq
theorem shG_vset {T : TW} {g : Nat → Int} {f : Nat} {d : Int} (hne : (T 5 f).toNat ≠ (T 6 f).toNat) : vset (vset g (T 5 f).toNat (g (T 5 f).toNat + -d)) (T 6 f).toNat (vset g (T 5 f).toNat (g (T 5 f).toNat + -d) (T 6 f).toNat + d) = shG T g f d := by
  funext p
  unfold shG
  by_cases h1 : p = (T 5 f).toNat
  · rw [if_pos h1, vset_ne _ _ (by omega), h1, vset_same]; omega
  · rw [if_neg h1]
    by_cases h2 : p = (T 6 f).toNat
    · rw [if_pos h2, h2, vset_same, vset_ne _ _ (by omega)]
    · rw [if_neg h2, vset_ne _ _ h2, vset_ne _ _ h1]
theorem shG_add (T : TW) (g : Nat → Int) (f : Nat) (d e : Int) (hne : (T 5 f).toNat ≠ (T 6 f).toNat) : shG T (shG T g f d) f e = shG T g f (d + e) := by
  funext p
  unfold shG
  by_cases h1 : p = (T 5 f).toNat
  · simp only [h1, if_true]; omega
  · by_cases h2 : p = (T 6 f).toNat
    · simp only [h2, if_true, if_neg (Ne.symm hne)]; omega
    · simp only [h1, h2, if_false]
theorem shG_0 (T : TW) (g : Nat → Int) (f : Nat) : shG T g f 0 = g := by
  funext p
  unfold shG
  split
  · omega
  · split <;> omega
def bdG (T : TW) (g : Nat → Int) (B : Int) : Prop := ∀ p : Nat, (p : Int) < T 0 0 → -B ≤ g p ∧ g p ≤ B
theorem bdG_sh {T : TW} {g : Nat → Int} {B d : Int} (h : bdG T g B) (f : Nat) (hd : -9 ≤ d ∧ d ≤ 9) : bdG T (shG T g f d) (B + 9) := by
  intro p hp
  have := h p hp
  unfold shG
  split
  · omega
  · split <;> omega
theorem X_shift {T : TW} {R : Nat → RL} {v : Nat → Int} {G : GS} {g : Nat → Int} {M : KM} (hw : WC T R v M) (ho : WO T R v) (h : GX T G g M) (hb : bdG T g 1000) {f : Nat} (hf : (f : Int) < T 0 1) {d : Int} (hd : -9 ≤ d ∧ d ≤ 9) : Ret (f_Gifts_shift f d M) (fun M' => GX T G (shG T g f d) M' ∧ Fp pGr M M') := by
  have o := ho.1.1
  obtain ⟨a1, a2, a3, a4, a5, -⟩ := ho.1.2.2.1 f hf
  unfold f_Gifts_shift
  rw [hw.from_ ho (by omega) hf, Int.toNat_natCast, w32e (by omega) (by omega)]
  have e5 : T 5 f = (((T 5 f).toNat : Nat) : Int) := by omega
  have e6 : T 6 f = (((T 6 f).toNat : Nat) : Int) := by omega
  have b5 := hb (T 5 f).toNat (by omega)
  have b6 := hb (T 6 f).toNat (by omega)
  rw [e5]
  refine Ret.bind (X_grow o.2.1 h (p := (T 5 f).toNat) (by omega) (d := -d) (by omega)) ?_
  rintro M1 ⟨h1, f1⟩
  have w1 : WC T R v M1 := hw.congr (fun k j hk => f1 k j (by unfold pN at hk; unfold pGr; omega))
  rw [w1.to ho (by omega) hf, Int.toNat_natCast, e6]
  refine Ret.bind (X_grow o.2.1 h1 (p := (T 6 f).toNat) (by omega) (d := d) (by rw [vset_ne _ _ (by omega)]; omega)) ?_
  rintro M2 ⟨h2, f2⟩
  rw [shG_vset (by omega)] at h2
  exact Ret.pure ⟨h2, f1.tr f2⟩
/-- what was noted so far -/
def NX (s : NS) (M : KM) : Prop := M 355 0 = (s.1 : Int) ∧ M 355 1 = (s.2.1.length : Int) ∧ (∀ (i : Nat) (x : Int), s.2.1[i]? = some x → M 356 i = x) ∧ M 355 3 = s.2.2.1 ∧ (M 355 4 = if s.2.2.2 = true then 1 else 0) ∧ (s.1 = 0 → s.2.1 = [])
def pNt (k j : Nat) : Prop := k = 356 ∨ (k = 355 ∧ (j = 0 ∨ j = 1 ∨ j = 3 ∨ j = 4))
theorem NX.congr {s : NS} {M M' : KM} (h : NX s M) (he : ∀ k j, pNt k j → M' k j = M k j) : NX s M' := by
  unfold NX at h ⊢
  rw [he 355 0 (by unfold pNt; omega), he 355 1 (by unfold pNt; omega), he 355 3 (by unfold pNt; omega), he 355 4 (by unfold pNt; omega)]
  refine ⟨h.1, h.2.1, fun i x hx => by rw [he 356 i (Or.inl rfl)]; exact h.2.2.1 i x hx, h.2.2.2⟩
theorem GX.congr {T : TW} {G : GS} {g : Nat → Int} {M M' : KM} (h : GX T G g M) (he : ∀ k j, (k = 358 ∨ k = 359 ∨ (k = 355 ∧ (j = 8 ∨ j = 9))) → M' k j = M k j) : GX T G g M' := by
  unfold GX at h ⊢
  rw [he 355 8 (by omega), he 355 9 (by omega)]
  exact ⟨fun p hp => by rw [he 358 p (by omega)]; exact h.1 p hp, h.2.1, h.2.2.1, fun p hp => by rw [he 359 p (by omega)]; exact h.2.2.2 p hp⟩
def goodG (T : TW) (G : GS) (x : IT) : Bool := !G.2.2 && decide (WG T G x.2 = 0)
def ageG (T : TW) (w : Int) (x : IT) : Int := if 0 ≤ w ∧ w < T 0 0 then x.2 w.toNat else 0
theorem X_note {T : TW} {G : GS} {g : Nat → Int} {M : KM} {s : NS} {l : List Int} {w : Int} (hn : T 0 0 ≤ 8) (hcl : G.2.2 = false) (hG : GX T G g M) (hN : NX s M) (hw : w = -1 ∨ (0 ≤ w ∧ w < T 0 0)) (hl4 : l.length ≤ 4) (hl : ∀ (i : Nat) (x : Int), l[i]? = some x → M 357 i = x) (hs : s.1 < 1000000) : Ret (f_Gifts_note l.length w M) (fun M' => NX (nst (goodG T G) (ageG T w) s (l, g)) M' ∧ Fp pNt M M') := by
  unfold f_Gifts_note nst
  obtain ⟨n1, n2, n3, n4, n5, n6⟩ := hN
  by_cases hz : WG T G g = 0
  · have hgood : goodG T G (l, g) = true := by unfold goodG; rw [hcl]; simp [hz]
    rw [if_pos hgood]
    refine Ret.t (by rw [hG.2.1]; omega) ?_
    have ea : atM M 358 8 w = ageG T w (l, g) := by
      unfold ageG
      rcases hw with hw | hw
      · rw [hw]; rfl
      · rw [if_pos hw, atM_in _ _ _ hw.1 (by omega)]
        exact hG.1 w.toNat (by omega)
    rw [ea, letI_e, n1, n4, n5]
    have et : (if (s.1 : Int) ≤ 0 then some (0 : Int) else (if ageG T w (l, g) = s.2.2.1 then some (0 : Int) else some (1 : Int))) = some (if (decide (s.1 ≠ 0) && decide (ageG T w (l, g) ≠ s.2.2.1)) = true then 1 else 0) := by
      by_cases h0 : s.1 = 0
      · rw [if_pos (by omega), if_neg (by simp [h0])]
      · rw [if_neg (by omega)]
        by_cases h1 : ageG T w (l, g) = s.2.2.1
        · rw [if_pos h1, if_neg (by simp [h1])]
        · rw [if_neg h1, if_pos (by simp [h0, h1])]
    rw [et, ob_some]
    have e2 : kior (if s.2.2.2 = true then 1 else 0) (if (decide (s.1 ≠ 0) && decide (ageG T w (l, g) ≠ s.2.2.1)) = true then 1 else 0) = if (s.2.2.2 || (decide (s.1 ≠ 0) && decide (ageG T w (l, g) ≠ s.2.2.1))) = true then 1 else 0 := by
      obtain ⟨q1, q2, q3, q4⟩ := kior01
      cases s.2.2.2 <;> cases (decide (s.1 ≠ 0) && decide (ageG T w (l, g) ≠ s.2.2.1)) <;> simp [q1, q2, q3, q4]
    rw [e2]
    refine Ret.t if01 (Ret.letM (Ret.letM ?_))
    generalize hM4 : mupd (mupd M 355 4 (if (s.2.2.2 || (decide (s.1 ≠ 0) && decide (ageG T w (l, g) ≠ s.2.2.1))) = true then 1 else 0)) 355 3 (ageG T w (l, g)) = M4
    have g4 : ∀ k j, ¬ (k = 355 ∧ (j = 3 ∨ j = 4)) → M4 k j = M k j := fun k j hk => by rw [← hM4, mupd_at, if_neg (by omega), mupd_at, if_neg (by omega)]
    have g43 : M4 355 3 = ageG T w (l, g) := by rw [← hM4, mupd_same]
    have g44 : M4 355 4 = if (s.2.2.2 || (decide (s.1 ≠ 0) && decide (ageG T w (l, g) ≠ s.2.2.1))) = true then 1 else 0 := by rw [← hM4, mupd_ne2 _ _ (by omega), mupd_same]
    have e40 : M4 355 0 = (s.1 : Int) := by rw [g4 355 0 (by omega)]; exact n1
    have e41 : M4 355 1 = (s.2.1.length : Int) := by rw [g4 355 1 (by omega)]; exact n2
    rw [e40, e41]
    refine Ret.bind (R := fun M5 => M5 355 1 = ((if s.1 = 0 ∨ l.length < s.2.1.length then l else s.2.1).length : Int) ∧ (∀ (i : Nat) (x : Int), (if s.1 = 0 ∨ l.length < s.2.1.length then l else s.2.1)[i]? = some x → M5 356 i = x) ∧ ∀ k j, ¬ (k = 356 ∨ (k = 355 ∧ j = 1)) → M5 k j = M4 k j) ?_ ?_
    · have hcopy : ∀ (i : Nat) (x : Int), l[i]? = some x → mcp (mupd M4 355 1 (l.length : Int)) 357 356 (min 4 4) 356 i = x := by
        intro i x hx
        have hi : i < l.length := (List.getElem?_eq_some_iff.mp hx).1
        rw [mcp_at, if_pos ⟨rfl, by omega⟩, mupd_ne _ _ (by omega), g4 357 i (by omega)]
        exact hl i x hx
      by_cases h0 : s.1 = 0
      · refine Ret.t (by omega) (Ret.letM (Ret.letM (Ret.pure ?_)))
        rw [if_pos (Or.inl h0)]
        refine ⟨?_, hcopy, fun k j hk => ?_⟩
        · rw [mcp_at, if_neg (by omega), mupd_same]
        · rw [mcp_at, if_neg (by omega), mupd_at, if_neg (by omega)]
      · refine Ret.f (by omega) ?_
        by_cases hlt : l.length < s.2.1.length
        · refine Ret.t (by omega) (Ret.letM (Ret.letM (Ret.pure ?_)))
          rw [if_pos (Or.inr hlt)]
          refine ⟨?_, hcopy, fun k j hk => ?_⟩
          · rw [mcp_at, if_neg (by omega), mupd_same]
          · rw [mcp_at, if_neg (by omega), mupd_at, if_neg (by omega)]
        · refine Ret.f (by omega) (Ret.pure ?_)
          rw [if_neg (fun q => q.elim h0 hlt)]
          exact ⟨e41, fun i x hx => by rw [g4 356 i (by omega)]; exact n3 i x hx, fun k j hk => rfl⟩
    · rintro M5 ⟨m1, m2, m3⟩
      have e50 : M5 355 0 = (s.1 : Int) := by rw [m3 355 0 (by omega)]; exact e40
      rw [e50, w32e (by omega) (by omega)]
      refine Ret.letM (Ret.pure ⟨⟨?_, ?_, fun i x hx => ?_, ?_, ?_, fun q => by dsimp only at q; omega⟩, fun k j hk => ?_⟩)
      · dsimp only; rw [mupd_same]; omega
      · dsimp only; rw [mupd_ne2 _ _ (by omega)]; exact m1
      · dsimp only at hx; rw [mupd_ne _ _ (by omega)]; exact m2 i x hx
      · dsimp only; rw [mupd_ne2 _ _ (by omega), m3 355 3 (by omega)]; exact g43
      · dsimp only; rw [mupd_ne2 _ _ (by omega), m3 355 4 (by omega)]; exact g44
      · unfold pNt at hk
        rw [mupd_at, if_neg (by omega), m3 k j (by omega), g4 k j (by omega)]
  · have hgood : ¬ goodG T G (l, g) = true := by unfold goodG; simp [hz]
    rw [if_neg hgood]
    exact Ret.f (by rw [hG.2.1]; omega) (Ret.pure ⟨⟨n1, n2, n3, n4, n5, n6⟩, Fp.rf⟩)
