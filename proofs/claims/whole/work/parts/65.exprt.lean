/-! RULES in the text: the second side reads them as they are read -/
noncomputable def eB : Int × KM → Option ((Int × KM) ⊕ KM) := fun s4 => Option.bind (f_M_isGood s4.2) (fun q5 => (if q5 = (0 : Int) then some (Sum.inr s4.2) else (if s4.2 382 41 ≤ (0 : Int) then some (Sum.inr s4.2) else Option.bind ((if s4.1 = (0 : Int) then Option.bind (f_M_behindUnit s4.2) (fun q6 => some (q6.1, q6.2)) else Option.bind (f_M_unit s4.2) (fun q7 => some (q7.1, q7.2))) : Option (Int × KM)) (fun t8 => some (Sum.inl (t8.1, t8.2))))))
theorem M_e_eB (M : KM) : f_M_e M = letM_ (mupd M 382 41 (0 : Int)) (fun M1 => letM_ (mupd M1 382 40 (0 : Int)) (fun M2 => Option.bind (f_M_pushE (8 : Int) (0 : Int) M2) (fun q3 => Option.bind (whileO (σ := Int × KM) (ε := KM) eB ((1 : Int), q3)) (fun e9 => some e9)))) := rfl
theorem eB_bad {x : Int} {M : KM} (h : M 382 4 ≠ 0) : whileO eB (x, M) = some M := by
  refine whileO_inr ?_
  unfold eB
  rw [M_isGood, ob_some, if_neg h]; rfl
theorem eB_end {x : Int} {M : KM} (h : M 382 41 ≤ 0) : whileO eB (x, M) = some M := by
  refine whileO_inr ?_
  unfold eB
  dsimp only
  by_cases hg : M 382 4 = 0
  · rw [M_isGood, ob_some, if_pos hg, if_neg (by decide), if_pos h]
  · rw [M_isGood, ob_some, if_neg hg]; rfl
theorem eB_unit {M : KM} {q : Int × KM} (h4 : M 382 4 = 0) (h : 0 < M 382 41) (hq : f_M_unit M = some q) : whileO eB (1, M) = whileO eB q := by
  refine whileO_inl ?_
  unfold eB
  dsimp only
  rw [M_isGood, ob_some, if_pos h4, if_neg (by decide), if_neg (by omega), if_neg (by decide), hq]; rfl
theorem eB_beh {M : KM} {q : Int × KM} (h4 : M 382 4 = 0) (h : 0 < M 382 41) (hq : f_M_behindUnit M = some q) : whileO eB (0, M) = whileO eB q := by
  refine whileO_inl ?_
  unfold eB
  dsimp only
  rw [M_isGood, ob_some, if_pos h4, if_neg (by decide), if_neg (by omega), if_pos rfl, hq]; rfl
def cmpd (L : STK) : Prop := ∃ A x B, L = A ++ ((4 : Int), x) :: B ∧ ∀ e, e ∈ B → e.1 = 5 ∨ e.1 = 6
def preLo (l : Nat) : Int := if l = 0 then 1 else if l = 1 then 2 else if l = 2 then 4 else if l = 3 then 5 else if l = 4 then 6 else 7
def posLo (l : Nat) : Int := if l = 0 then 1 else if l = 1 then 2 else if l = 2 then 3 else if l = 3 then 5 else if l = 4 then 6 else 7
/-- what can stand behind a part that is read -/
def rkOk (l : Nat) (k : Int) (pend : STK) : Prop := (l ≤ 4 → rkK k ≠ 6) ∧ (l ≤ 3 → rkK k ≠ 5) ∧ (l ≤ 2 → rkK k = 4 → cmpd pend) ∧ (l ≤ 1 → rkK k ≠ 2) ∧ (l ≤ 0 → rkK k ≠ 1)
def preX (W : Nat → Int) (n cb l a : Nat) (s : PSt) (tp : STK) (e : Int × Int) : Prop := (tp ++ [e]).length ≤ 1 + 6 * a + l ∧ (1 ≤ e.1 ∧ (e.1 < preLo l ∨ 7 ≤ e.1)) ∧ (3 ≤ l → (4 ≤ e.1 ∧ e.1 ≤ 6) ∨ kdJ W n s.1 ≠ 142) ∧ cb + s.2.2.2.length + opn (tp ++ [e]) ≤ 9 * s.2.2.1 + 1 + a ∧ s.2.1 ≤ 30 ∧ s.2.2.1 ≤ 60
/-- the outcome of a part of a rule on the second side -/
def oM (W : Nat → Int) (n rb bs cb l a : Nat) (tp : STK) (e : Int × Int) (x : Int) (M : KM) (y : PSt ⊕ (Int × Nat)) : Prop := Sum.elim
  (fun s' : PSt => ∃ pend cm' M', whileO eB (x, M) = whileO eB (0, M') ∧ MX W n rb bs s' (tp ++ [e] ++ pend) cm' (a + nots pend) M' ∧ s'.2.2.2 = cm' ++ emd pend ∧ (∀ z, z ∈ pend → posLo l ≤ z.1 ∧ z.1 ≤ 6) ∧ pend.length + l + a ≤ 12 ∧ rkOk l (kdJ W n s'.1) pend ∧ cb + s'.2.2.2.length + opn (tp ++ [e]) ≤ 9 * s'.2.2.1 ∧ Fp (pExm rb bs) M M')
  (fun f : Int × Nat => ∃ M', whileO eB (x, M) = some M' ∧ fM f.1 f.2 M' ∧ f.1 ≠ 0 ∧ Fp (pExm rb bs) M M') y
def SIM (W : Nat → Int) (n J rb bs cb d : Nat) : Prop := ∀ (l a : Nat) (s : PSt) (y : PSt ⊕ (Int × Nat)) (tp : STK) (e : Int × Int) (M : KM), exP W n d l a s = some y → l ≤ 5 → a ≤ 7 → s.1 ≤ J → MX W n rb bs s (tp ++ [e]) s.2.2.2 a M → preX W n cb l a s tp e → oM W n rb bs cb l a tp e 1 M y
theorem nots_le (L : STK) : nots L ≤ L.length := List.countP_le_length
theorem emd_len (L : STK) : (emd L).length = L.length := by unfold emd; rw [List.length_map, List.length_reverse]
theorem oM_tr {W : Nat → Int} {n rb bs cb l a : Nat} {tp : STK} {e : Int × Int} {x x' : Int} {M M1 : KM} {y : PSt ⊕ (Int × Nat)} (hw : whileO eB (x, M) = whileO eB (x', M1)) (hf : Fp (pExm rb bs) M M1) (h : oM W n rb bs cb l a tp e x' M1 y) : oM W n rb bs cb l a tp e x M y := by
  cases y with
  | inl s' =>
    obtain ⟨pend, cm', M', h1, h2, h3, h4, h5, h6, h7, h8⟩ := h
    exact ⟨pend, cm', M', hw.trans h1, h2, h3, h4, h5, h6, h7, hf.tr h8⟩
  | inr f =>
    obtain ⟨M', h1, h2, h3, h4⟩ := h
    exact ⟨M', hw.trans h1, h2, h3, hf.tr h4⟩
theorem MX_41 {W : Nat → Int} {n rb bs : Nat} {s : PSt} {tp : STK} {e : Int × Int} {pend : STK} {cm : RL} {wi : Nat} {M : KM} (h : MX W n rb bs s (tp ++ [e] ++ pend) cm wi M) : 0 < M 382 41 := by
  rw [h.2.2.2.1.1, List.length_append, List.length_append]
  show 0 < ((tp.length + 1 + pend.length : Nat) : Int)
  omega
/-- one more operator and its operand: r the operator's rank, l the operand's -/
theorem S_op {W : Nat → Int} {n J rb bs cb d l L0 r a : Nat} {s1 : PSt} {tp pend : STK} {e : Int × Int} {cm : RL} {M : KM} {y : PSt ⊕ (Int × Nat)} (hJ : lastT W n J) (hW : TXR W) (hrb : rb < 2) (hbs : bs = 560 * rb + cb) (ih : SIM W n J rb bs cb d) (hl5 : l ≤ 5) (ha : a ≤ 7) (hL : l = L0 + 1) (hs1 : s1.1 ≤ J)
    (h : MX W n rb bs s1 (tp ++ [e] ++ pend) cm (a + nots pend) M) (hcd : s1.2.2.2 = cm ++ emd pend) (hp : ∀ z, z ∈ pend → (r : Int) ≤ z.1 ∧ z.1 ≤ 6) (hpl : pend.length ≤ 12) (hb : cb + s1.2.2.2.length + opn (tp ++ [e]) ≤ 9 * s1.2.2.1) (hlen : (tp ++ [e]).length ≤ 1 + 6 * a + L0) (he : 1 ≤ e.1 ∧ (e.1 < (r : Int) ∨ 7 ≤ e.1)) (hu : s1.2.1 ≤ 30 ∧ s1.2.2.1 ≤ 60)
    (hr : rkK (kdJ W n s1.1) = r) (hr0 : 0 < r) (hrl : (r : Int) < preLo l) (hr3 : 3 ≤ l → 4 ≤ r) (h4 : r = 4 → f_M_isCompared M = some 0) (hy : exP W n d l a (nxS s1) = some y) :
    ∃ M1, whileO eB (0, M) = whileO eB (1, M1) ∧ Fp (pExm rb bs) M M1 ∧ oM W n rb bs cb l a (tp ++ [e]) ((r : Int), sgK (kdJ W n s1.1)) 1 M1 y := by
  have hR := rkK_R hr hr0
  have nl := nots_le pend
  have ll : (tp ++ [e] ++ pend).length ≤ 80 := by rw [List.length_append]; omega
  have lc : bs + (cm ++ emd pend).length ≤ 560 * rb + 560 := by rw [← hcd]; omega
  obtain ⟨q, q1, q2, q3, q4⟩ := M_beh_op hW hrb h ll hp he.2 lc (by omega) hr hr0 h4
  have hw := eB_beh h.1.2.2 (MX_41 h) q1
  rw [← hcd] at q3
  refine ⟨q.2, ?_, q4, ih l a (nxS s1) y (tp ++ [e]) _ q.2 hy hl5 ha (nxS_J hJ hs1 hR.1) q3 ⟨?_, ⟨by show (1 : Int) ≤ (r : Int); omega, Or.inl hrl⟩, fun h3 => Or.inl ⟨by show (4 : Int) ≤ (r : Int); have := hr3 h3; omega, by show (r : Int) ≤ 6; omega⟩, ?_, hu⟩⟩
  · rw [hw]
    have : q = (1, q.2) := Prod.ext q2 rfl
    rw [← this]
  · rw [List.length_append]
    show (tp ++ [e]).length + 1 ≤ _
    omega
  · rw [opn_app, opn_1, if_pos (by show (r : Int) ≤ 6; omega)]
    show cb + s1.2.2.2.length + (opn (tp ++ [e]) + 1) ≤ 9 * s1.2.2.1 + 1 + a
    omega
theorem S_lp {W : Nat → Int} {n J rb bs cb d l L0 r a : Nat} {tp : STK} {e : Int × Int} (hJ : lastT W n J) (hn : n ≤ 1600) (hV : ∀ p, tkK W n p = 2 → 0 ≤ tkV W n p ∧ tkV W n p ≤ 9999) (hW : TXR W) (hrb : rb < 2) (hbs : bs = 560 * rb + cb) (ih : SIM W n J rb bs cb d) (hl5 : l ≤ 5) (ha : a ≤ 7) (hL : l = L0 + 1) (hL0 : (r : Int) = preLo L0 ∧ (r : Int) = posLo L0) (hLr : (L0 = 0 ∧ r = 1) ∨ (L0 = 1 ∧ r = 2) ∨ (L0 = 3 ∧ r = 5) ∨ (L0 = 4 ∧ r = 6)) (hpo : (r : Int) ≤ posLo l) (hrl : (r : Int) < preLo l) (hlen : (tp ++ [e]).length ≤ 1 + 6 * a + L0) (he : 1 ≤ e.1 ∧ (e.1 < (r : Int) ∨ 7 ≤ e.1)) :
    ∀ (k : Nat) (s1 : PSt) (pend : STK) (cm : RL) (M : KM) (y : PSt ⊕ (Int × Nat)), lpP W n r (exP W n d l a) k s1 = some y → s1.1 ≤ J → 1600 ≤ s1.1 + k → s1.2.1 ≤ 30 ∧ s1.2.2.1 ≤ 60 → MX W n rb bs s1 (tp ++ [e] ++ pend) cm (a + nots pend) M → s1.2.2.2 = cm ++ emd pend → (∀ z, z ∈ pend → (r : Int) ≤ z.1 ∧ z.1 ≤ 6) → pend.length + L0 + a ≤ 12 → rkOk l (kdJ W n s1.1) pend → cb + s1.2.2.2.length + opn (tp ++ [e]) ≤ 9 * s1.2.2.1 → oM W n rb bs cb L0 a tp e 0 M y := by
  intro k
  induction k with
  | zero =>
    intro s1 pend cm M y hy hs hk hu h hcd hp hpl hok hb
    cases hy
    have hJn := lastT_n hJ
    have e1 : s1.1 = J := by omega
    have hng := hJ.2
    rw [← e1] at hng
    have hk0 : kdJ W n s1.1 = 0 ∨ kdJ W n s1.1 = 3 := by
      unfold good at hng
      show tkK W n (plS W n s1.1) = 0 ∨ _
      by_cases z : tkK W n (plS W n s1.1) = 0
      · exact Or.inl z
      · exact Or.inr (Classical.byContradiction fun z2 => hng ⟨z, z2⟩)
    have r0 : rkK (kdJ W n s1.1) = 0 := by rcases hk0 with z | z <;> rw [z] <;> rfl
    exact ⟨pend, cm, M, rfl, h, hcd, fun z hz => by have := hp z hz; omega, hpl, ⟨fun _ => by omega, fun _ => by omega, fun _ q => by omega, fun _ => by omega, fun _ => by omega⟩, hb, Fp.rf⟩
  | succ k ihk =>
    intro s1 pend cm M y hy hs hk hu h hcd hp hpl hok hb
    have hy : (if rkK (kdJ W n s1.1) = r then bP (exP W n d l a (nxS s1)) (fun s2 => lpP W n r (exP W n d l a) k (emt (sgK (kdJ W n s1.1), 0) s2)) else some (.inl s1)) = some y := hy
    by_cases hr : rkK (kdJ W n s1.1) = r
    · rw [if_pos hr] at hy
      have hr0 : 0 < r := by omega
      have step := fun y' hy' => S_op (y := y') hJ hW hrb hbs ih hl5 ha hL hs h hcd hp (by omega) hb hlen he hu hr hr0 hrl (by omega) (by omega) hy'
      rcases bP_inl hy with ⟨f, g1, g2⟩ | ⟨s2, g1, g2⟩
      · subst g2
        obtain ⟨M1, w1, w2, M', z1, z2, z3, z4⟩ := step _ g1
        exact ⟨M', w1.trans z1, z2, z3, w2.tr z4⟩
      · obtain ⟨M1, w1, w2, pend2, cm2, M', z1, z2, z3, z4, z5, z6, z7, z8⟩ := step _ g1
        have hK := exP_K hJ hV d l a (nxS s1) s2 (nxS_J hJ hs (rkK_R hr hr0).1) g1
        rw [List.append_assoc (tp ++ [e]) [((r : Int), sgK (kdJ W n s1.1))] pend2] at z2
        have en : nots (((r : Int), sgK (kdJ W n s1.1)) :: pend2) = nots pend2 := by rw [nots_c, if_neg (by show ¬ (r : Int) = 3; omega)]; rfl
        rw [opn_app, opn_1, if_pos (by show (r : Int) ≤ 6; omega)] at z7
        have := ihk (emt (sgK (kdJ W n s1.1), 0) s2) (((r : Int), sgK (kdJ W n s1.1)) :: pend2) cm2 M' y g2 hK.2.1 (by have := hK.1; unfold nxS at this; show 1600 ≤ s2.1 + k; dsimp only at this; omega) ⟨hK.2.2.2.2.2.1, hK.2.2.2.2.2.2.1⟩ (MX_s (by rw [en]; exact z2) rfl rfl rfl) (by show s2.2.2.2 ++ [(sgK (kdJ W n s1.1), 0)] = _; rw [emd_c, ← List.append_assoc, ← z3]) (fun z hz => ?_) (by rw [List.length_cons]; omega) ?_ (by show cb + (s2.2.2.2 ++ [(sgK (kdJ W n s1.1), 0)]).length + _ ≤ _; rw [List.length_append]; show cb + (s2.2.2.2.length + 1) + _ ≤ 9 * s2.2.2.1; omega)
        · exact oM_tr (w1.trans z1) (w2.tr z8) this
        · rcases List.mem_cons.mp hz with hz | hz
          · rw [hz]; exact ⟨Int.le_refl _, by show (r : Int) ≤ 6; omega⟩
          · have := z4 z hz; omega
        · obtain ⟨o1, o2, o3, o4, o5⟩ := z6
          refine ⟨o1, o2, fun q1 q2 => ?_, o4, o5⟩
          obtain ⟨A, x, B, c1, c2⟩ := o3 q1 q2
          exact ⟨((r : Int), sgK (kdJ W n s1.1)) :: A, x, B, by rw [c1]; rfl, c2⟩
    · rw [if_neg hr] at hy
      cases hy
      obtain ⟨o1, o2, o3, o4, o5⟩ := hok
      refine ⟨pend, cm, M, rfl, h, hcd, fun z hz => by have := hp z hz; omega, hpl, ⟨fun _ => ?_, fun _ => ?_, fun q1 q2 => ?_, fun _ => ?_, fun _ => ?_⟩, hb, Fp.rf⟩
      · rcases hLr with z | z | z | z
        · exact o1 (by omega)
        · exact o1 (by omega)
        · exact o1 (by omega)
        · rw [z.2] at hr; exact hr
      · rcases hLr with z | z | z | z
        · exact o2 (by omega)
        · exact o2 (by omega)
        · rw [z.2] at hr; exact hr
        · omega
      · exact o3 (by omega) q2
      · rcases hLr with z | z | z | z
        · exact o4 (by omega)
        · rw [z.2] at hr; exact hr
        · omega
        · omega
      · rcases hLr with z | z | z | z
        · rw [z.2] at hr; exact hr
        · omega
        · omega
        · omega
theorem S_2 {W : Nat → Int} {n J rb bs cb d l L0 r a : Nat} {s : PSt} {tp : STK} {e : Int × Int} {M : KM} {y : PSt ⊕ (Int × Nat)} (hJ : lastT W n J) (hn : n ≤ 1600) (hV : ∀ p, tkK W n p = 2 → 0 ≤ tkV W n p ∧ tkV W n p ≤ 9999) (hW : TXR W) (hrb : rb < 2) (hbs : bs = 560 * rb + cb) (ih : SIM W n J rb bs cb d) (hL : l = L0 + 1) (hLr : (L0 = 0 ∧ r = 1) ∨ (L0 = 1 ∧ r = 2) ∨ (L0 = 3 ∧ r = 5) ∨ (L0 = 4 ∧ r = 6)) (ha : a ≤ 7) (hs : s.1 ≤ J) (hM : MX W n rb bs s (tp ++ [e]) s.2.2.2 a M) (hp : preX W n cb L0 a s tp e) (hy : bP (exP W n d l a s) (lpP W n r (exP W n d l a) 1600) = some y) : oM W n rb bs cb L0 a tp e 1 M y := by
  obtain ⟨p1, ⟨p2, p3⟩, p4, p5, p6⟩ := hp
  have lo : (r : Int) = preLo L0 ∧ (r : Int) = posLo L0 ∧ (r : Int) ≤ posLo l ∧ (r : Int) < preLo l ∧ l ≤ 5 := by
    rcases hLr with ⟨z1, z2⟩ | ⟨z1, z2⟩ | ⟨z1, z2⟩ | ⟨z1, z2⟩ <;> subst z1 <;> subst z2 <;> subst hL <;> decide
  have pre : preX W n cb l a s tp e := by
    refine ⟨by omega, ⟨p2, by omega⟩, fun h3 => ?_, p5, p6⟩
    rcases hLr with ⟨z1, z2⟩ | ⟨z1, z2⟩ | ⟨z1, z2⟩ | ⟨z1, z2⟩
    · omega
    · omega
    · exact p4 (by omega)
    · exact p4 (by omega)
  rcases bP_inl hy with ⟨f, g1, g2⟩ | ⟨s1, g1, g2⟩
  · subst g2
    exact ih l a s _ tp e M g1 lo.2.2.2.2 ha hs hM pre
  · have K := exP_K hJ hV d l a s s1 hs g1
    obtain ⟨pend, cm', M', h1, h2, h3, h4, h5, h6, h7, h8⟩ := ih l a s _ tp e M g1 lo.2.2.2.2 ha hs hM pre
    exact oM_tr h1 h8 (S_lp hJ hn hV hW hrb hbs ih lo.2.2.2.2 ha hL ⟨lo.1, lo.2.1⟩ hLr lo.2.2.1 lo.2.2.2.1 p1 ⟨p2, by rw [lo.1]; exact p3⟩ 1600 s1 pend cm' M' y g2 K.2.1 (by omega) ⟨K.2.2.2.2.2.1, K.2.2.2.2.2.2.1⟩ h2 h3 (fun z hz => by have := h4 z hz; omega) (by omega) h6 h7)
theorem cmpd_56 {B : STK} {x : Int} (h : ∀ z, z ∈ B → (5 : Int) ≤ z.1 ∧ z.1 ≤ 6) : cmpd (((4 : Int), x) :: B) := ⟨[], x, B, rfl, fun z hz => by have := h z hz; omega⟩
theorem S_all {W : Nat → Int} {n J rb bs cb : Nat} (hJ : lastT W n J) (hn : n ≤ 1600) (hV : ∀ p, tkK W n p = 2 → 0 ≤ tkV W n p ∧ tkV W n p ≤ 9999) (hW : TXR W) (hrb : rb < 2) (hbs : bs = 560 * rb + cb) : ∀ d, SIM W n J rb bs cb d := by
  intro d
  induction d with
  | zero => intro l a s y tp e M h; cases h
  | succ d ih =>
    intro l a s y tp e M hy hl ha hs hM hp
    have hlen80 : (tp ++ [e]).length ≤ 80 := by have := hp.1; omega
    have h41 : 0 < M 382 41 := by
      have := MX_41 (pend := []) (by rw [List.append_nil]; exact hM)
      exact this
    have h5 : l = 0 ∨ l = 1 ∨ l = 2 ∨ l = 3 ∨ l = 4 ∨ l = 5 := by omega
    -- a fault at the unit
    have flt : y = .inr (f2 W n s.1, plS W n s.1) → Ret (f_M_unit M) (fun q => q.1 = 1 ∧ fM (f2 W n s.1) (plS W n s.1) q.2 ∧ Fp (pExm rb bs) M q.2) → oM W n rb bs cb l a tp e 1 M y := fun e1 h1 => by
      subst e1
      obtain ⟨q, q1, q2, q3, q4⟩ := h1
      have f0 := f2_R W n s.1
      have hw := eB_unit hM.1.2.2 h41 q1
      refine ⟨q.2, ?_, q3, by show f2 W n s.1 ≠ 0; omega, q4⟩
      rw [hw]
      exact eB_bad (fM_bad q3 (by omega))
    rcases h5 with z | z | z | z | z | z <;> subst z
    · exact S_2 hJ hn hV hW hrb hbs ih (l := 1) (r := 1) rfl (Or.inl ⟨rfl, rfl⟩) ha hs hM hp hy
    · exact S_2 hJ hn hV hW hrb hbs ih (l := 2) (r := 2) rfl (Or.inr (Or.inl ⟨rfl, rfl⟩)) ha hs hM hp hy
    · have hy : oneP W n (exP W n d) a s = some y := hy
      obtain ⟨p1, ⟨p2, p3⟩, p4, p5, p6, p7⟩ := hp
      have p3 : e.1 < 4 ∨ 7 ≤ e.1 := p3
      have hbeg : beg e := by unfold beg; omega
      unfold oneP at hy
      by_cases h142 : kdJ W n s.1 = 142
      · rw [if_pos h142] at hy
        by_cases ha6 : a ≤ 6
        · rw [if_pos ha6] at hy
          obtain ⟨q, q1, q2, q3, q4⟩ := M_unit_open hW hrb hM hlen80 p7 p6 ha6 (Or.inl ⟨hbeg, h142⟩)
          rw [if_pos h142] at q3
          have hw := eB_unit hM.1.2.2 h41 q1
          have hq : q = (1, q.2) := Prod.ext q2 rfl
          rw [hq] at hw
          have sJ := nxS_J hJ hs (good_of h142 (by decide))
          have pre2 : preX W n cb 2 (a + 1) (nxS s) (tp ++ [e]) (3, 126) := by
            refine ⟨by rw [List.length_append]; show (tp ++ [e]).length + 1 ≤ _; omega, ⟨by decide, Or.inl (by decide)⟩, fun h => by omega, ?_, p6, p7⟩
            rw [opn_app, opn_1, if_pos (by decide)]
            show cb + s.2.2.2.length + (opn (tp ++ [e]) + 1) ≤ 9 * s.2.2.1 + 1 + (a + 1)
            omega
          rcases bP_inl hy with ⟨f, g1, g2⟩ | ⟨s2, g1, g2⟩
          · subst g2
            obtain ⟨M', z1, z2, z3, z4⟩ := ih 2 (a + 1) (nxS s) _ (tp ++ [e]) (3, 126) q.2 g1 (by omega) (by omega) sJ q3 pre2
            exact ⟨M', hw.trans z1, z2, z3, q4.tr z4⟩
          · cases g2
            obtain ⟨pend2, cm2, M', z1, z2, z3, z4, z5, z6, z7, z8⟩ := ih 2 (a + 1) (nxS s) _ (tp ++ [e]) (3, 126) q.2 g1 (by omega) (by omega) sJ q3 pre2
            rw [List.append_assoc (tp ++ [e]) [((3 : Int), (126 : Int))] pend2] at z2
            have en : nots (((3 : Int), (126 : Int)) :: pend2) = nots pend2 + 1 := by rw [nots_c, if_pos rfl]
            rw [opn_app, opn_1, if_pos (by decide)] at z7
            refine ⟨((3 : Int), (126 : Int)) :: pend2, cm2, M', hw.trans z1, MX_s (by rw [en, show a + (nots pend2 + 1) = a + 1 + nots pend2 by omega]; exact z2) rfl rfl rfl, by show s2.2.2.2 ++ [(126, 0)] = _; rw [emd_c, ← List.append_assoc, ← z3], fun z hz => ?_, by rw [List.length_cons]; omega, ?_, by show cb + (s2.2.2.2 ++ [((126 : Int), (0 : Int))]).length + _ ≤ _; rw [List.length_append]; show cb + (s2.2.2.2.length + 1) + _ ≤ 9 * s2.2.2.1; omega, q4.tr z8⟩
            · rcases List.mem_cons.mp hz with hz | hz
              · rw [hz]; decide
              · exact z4 z hz
            · obtain ⟨o1, o2, o3, o4, o5⟩ := z6
              refine ⟨o1, o2, fun q1 q2 => ?_, o4, o5⟩
              obtain ⟨A, x, B, c1, c2⟩ := o3 q1 q2
              exact ⟨((3 : Int), (126 : Int)) :: A, x, B, by rw [c1]; rfl, c2⟩
        · rw [if_neg ha6] at hy
          exact flt (Option.some.inj hy).symm (M_unit_flt hrb hM hlen80 p7 p6 ha (Or.inl ⟨hbeg, h142, by omega⟩))
      · rw [if_neg h142] at hy
        have pre3 : preX W n cb 3 a s tp e := ⟨by omega, ⟨p2, by show e.1 < 5 ∨ 7 ≤ e.1; omega⟩, fun _ => Or.inr h142, p5, p6, p7⟩
        rcases bP_inl hy with ⟨f, g1, g2⟩ | ⟨s1, g1, g2⟩
        · subst g2
          exact ih 3 a s _ tp e M g1 (by omega) ha hs hM pre3
        · have K := exP_K hJ hV d 3 a s s1 hs g1
          obtain ⟨pend, cm', M', h1, h2, h3, h4, h5, h6, h7, h8⟩ := ih 3 a s _ tp e M g1 (by omega) ha hs hM pre3
          have h4 : ∀ z, z ∈ pend → (5 : Int) ≤ z.1 ∧ z.1 ≤ 6 := h4
          obtain ⟨o1, o2, o3, o4, o5⟩ := h6
          by_cases hr : rkK (kdJ W n s1.1) = 4
          · rw [if_pos hr] at g2
            have ll : (tp ++ [e] ++ pend).length ≤ 80 := by rw [List.length_append]; omega
            have hcmp : f_M_isCompared M' = some 0 := by
              rw [List.append_assoc] at h2 ll
              have := M_isCompared (A := tp) (e := e) (B := pend) h2 (by show (tp ++ ([e] ++ pend)).length ≤ 90; omega) (fun x hx => by have := h4 x hx; omega) (by omega)
              rw [this, if_neg (by omega)]
            have step := fun y' hy' => S_op (l := 3) (L0 := 2) (r := 4) (y := y') hJ hW hrb hbs ih (by omega) ha rfl K.2.1 h2 h3 (fun z hz => by have := h4 z hz; omega) (by omega) h7 p1 ⟨p2, by omega⟩ ⟨K.2.2.2.2.2.1, K.2.2.2.2.2.2.1⟩ hr (by omega) (by decide) (fun _ => by omega) (fun _ => hcmp) hy'
            rcases bP_inl g2 with ⟨f, i1, i2⟩ | ⟨s2, i1, i2⟩
            · subst i2
              obtain ⟨M1, w1, w2, M2, z1, z2, z3, z4⟩ := step _ i1
              exact ⟨M2, (h1.trans w1).trans z1, z2, z3, (h8.tr w2).tr z4⟩
            · cases i2
              obtain ⟨M1, w1, w2, pend2, cm2, M2, z1, z2, z3, z4, z5, z6, z7, z8⟩ := step _ i1
              have z4 : ∀ z, z ∈ pend2 → (5 : Int) ≤ z.1 ∧ z.1 ≤ 6 := z4
              rw [List.append_assoc (tp ++ [e]) [(((4 : Nat) : Int), sgK (kdJ W n s1.1))] pend2] at z2
              have en : nots (((4 : Int), sgK (kdJ W n s1.1)) :: pend2) = nots pend2 := by rw [nots_c, if_neg (show ¬ (4 : Int) = 3 by decide)]; rfl
              rw [opn_app, opn_1, if_pos (show ((4 : Nat) : Int) ≤ 6 by decide)] at z7
              obtain ⟨u1, u2, u3, u4, u5⟩ := z6
              refine ⟨((4 : Int), sgK (kdJ W n s1.1)) :: pend2, cm2, M2, (h1.trans w1).trans z1, MX_s (by rw [en]; exact z2) rfl rfl rfl, by show s2.2.2.2 ++ [(sgK (kdJ W n s1.1), 0)] = _; rw [emd_c, ← List.append_assoc, ← z3], fun z hz => ?_, by rw [List.length_cons]; omega, ⟨fun _ => u1 (by omega), fun _ => u2 (by omega), fun _ _ => cmpd_56 z4, fun q => by omega, fun q => by omega⟩, by show cb + (s2.2.2.2 ++ [(sgK (kdJ W n s1.1), 0)]).length + _ ≤ _; rw [List.length_append]; show cb + (s2.2.2.2.length + 1) + _ ≤ 9 * s2.2.2.1; omega, (h8.tr w2).tr z8⟩
              rcases List.mem_cons.mp hz with hz | hz
              · rw [hz]; exact ⟨show (3 : Int) ≤ 4 by decide, show (4 : Int) ≤ 6 by decide⟩
              · have := z4 z hz
                exact ⟨by show (3 : Int) ≤ z.1; omega, this.2⟩
          · rw [if_neg hr] at g2
            cases g2
            exact ⟨pend, cm', M', h1, h2, h3, fun z hz => by have := h4 z hz; exact ⟨by show (3 : Int) ≤ z.1; omega, this.2⟩, by omega, ⟨fun _ => o1 (by omega), fun _ => o2 (by omega), fun _ q => absurd q hr, fun q => by omega, fun q => by omega⟩, h7, h8⟩
    · exact S_2 hJ hn hV hW hrb hbs ih (l := 4) (r := 5) rfl (Or.inr (Or.inr (Or.inl ⟨rfl, rfl⟩))) ha hs hM hp hy
    · exact S_2 hJ hn hV hW hrb hbs ih (l := 5) (r := 6) rfl (Or.inr (Or.inr (Or.inr ⟨rfl, rfl⟩))) ha hs hM hp hy
    · have hy : untP W n (exP W n d) a s = some y := hy
      obtain ⟨p1, ⟨p2, p3⟩, p4, p5, p6, p7⟩ := hp
      have nb : ¬ (beg e ∧ kdJ W n s.1 = 142) := fun q => by
        rcases p4 (by omega) with z | z
        · unfold beg at q; omega
        · exact z q.2
      unfold untP at hy
      by_cases hc1 : lfK W n s.1 = none ∧ ¬ (kdJ W n s.1 = 40 ∧ a ≤ 6)
      · rw [if_pos hc1] at hy
        exact flt (Option.some.inj hy).symm (M_unit_flt hrb hM hlen80 p7 p6 ha (Or.inr ⟨nb, Or.inl hc1⟩))
      · rw [if_neg hc1] at hy
        by_cases hc2 : ¬ (s.2.1 < 30 ∧ s.2.2.1 < 60)
        · rw [if_pos hc2] at hy
          exact flt (Option.some.inj hy).symm (M_unit_flt hrb hM hlen80 p7 p6 ha (Or.inr ⟨nb, Or.inr hc2⟩))
        · rw [if_neg hc2] at hy
          have hc2' : s.2.1 < 30 ∧ s.2.2.1 < 60 := Classical.byContradiction hc2
          cases hlf : lfK W n s.1 with
          | some q =>
            rw [hlf] at hy
            cases hy
            have lr := lfK_R hV hlf
            have lb : bs + s.2.2.2.length < 560 * rb + 560 := by omega
            obtain ⟨r, r1, r2, r3, r4⟩ := M_unit_leaf hW hrb hM hlen80 hc2'.2 hc2'.1 hlf ⟨lr.2.2.2.1, lr.2.2.2.2⟩ lb
            have hw := eB_unit hM.1.2.2 h41 r1
            have hq : r = (0, r.2) := Prod.ext r2 rfl
            rw [hq] at hw
            refine ⟨[], s.2.2.2 ++ [q], r.2, hw, MX_s (by rw [List.append_nil]; exact r3) rfl rfl rfl, by show s.2.2.2 ++ [q] = s.2.2.2 ++ [q] ++ []; rw [List.append_nil], fun z hz => (by cases hz), by show 0 + 5 + a ≤ 12; omega, ⟨fun q => by omega, fun q => by omega, fun q => by omega, fun q => by omega, fun q => by omega⟩, ?_, r4⟩
            show cb + (s.2.2.2 ++ [q]).length + opn (tp ++ [e]) ≤ 9 * (s.2.2.1 + 1)
            rw [List.length_append]
            show cb + (s.2.2.2.length + 1) + opn (tp ++ [e]) ≤ 9 * (s.2.2.1 + 1)
            omega
          | none =>
            rw [hlf] at hy hc1
            have h40 : kdJ W n s.1 = 40 ∧ a ≤ 6 := Classical.byContradiction fun z => hc1 ⟨rfl, z⟩
            obtain ⟨q, q1, q2, q3, q4⟩ := M_unit_open hW hrb hM hlen80 p7 p6 h40.2 (Or.inr ⟨h40.1, hc2'⟩)
            rw [if_neg (by omega)] at q3
            have hw := eB_unit hM.1.2.2 h41 q1
            have hq : q = (1, q.2) := Prod.ext q2 rfl
            rw [hq] at hw
            have sJ : s.1 + 1 ≤ J := nxS_J hJ hs (good_of h40.1 (by decide))
            have pre0 : preX W n cb 0 (a + 1) (s.1 + 1, s.2.1 + 1, s.2.2.1 + 1, s.2.2.2) (tp ++ [e]) (7, 126) := by
              refine ⟨by rw [List.length_append]; show (tp ++ [e]).length + 1 ≤ _; omega, ⟨by decide, Or.inr (by decide)⟩, fun h => by omega, ?_, by show s.2.1 + 1 ≤ 30; omega, by show s.2.2.1 + 1 ≤ 60; omega⟩
              rw [opn_app, opn_1, if_neg (by decide)]
              show cb + s.2.2.2.length + (opn (tp ++ [e]) + 0) ≤ 9 * (s.2.2.1 + 1) + 1 + (a + 1)
              omega
            rcases bP_inl hy with ⟨f, g1, g2⟩ | ⟨s2, g1, g2⟩
            · subst g2
              obtain ⟨M', z1, z2, z3, z4⟩ := ih 0 (a + 1) (s.1 + 1, s.2.1 + 1, s.2.2.1 + 1, s.2.2.2) _ (tp ++ [e]) (7, 126) q.2 g1 (by omega) (by omega) sJ q3 pre0
              exact ⟨M', hw.trans z1, z2, z3, q4.tr z4⟩
            · have K := exP_K hJ hV d 0 (a + 1) _ s2 sJ g1
              obtain ⟨pend, cm', M', z1, z2, z3, z4, z5, z6, z7, z8⟩ := ih 0 (a + 1) (s.1 + 1, s.2.1 + 1, s.2.2.1 + 1, s.2.2.2) _ (tp ++ [e]) (7, 126) q.2 g1 (by omega) (by omega) sJ q3 pre0
              have z4 : ∀ z, z ∈ pend → (1 : Int) ≤ z.1 ∧ z.1 ≤ 6 := z4
              have nl := nots_le pend
              have ll : (tp ++ [e] ++ [((7 : Int), (126 : Int))] ++ pend).length ≤ 80 := by rw [List.length_append, List.length_append]; have : [((7 : Int), (126 : Int))].length = 1 := rfl; omega
              obtain ⟨o1, o2, o3, o4, o5⟩ := z6
              rw [opn_app, opn_1, if_neg (by decide)] at z7
              have hU2 := K.2.2.2.2.2.2.1
              have lc : bs + (cm' ++ emd pend).length ≤ 560 * rb + 560 := by rw [← z3]; omega
              by_cases hr4 : rkK (kdJ W n s2.1) = 4
              · -- a second relation
                have h41' : kdJ W n s2.1 ≠ 41 := fun q => by rw [q] at hr4; exact absurd hr4 (by decide)
                rw [if_neg h41'] at g2
                have g2 := Option.some.inj g2
                subst g2
                obtain ⟨A, x, B, c1, c2⟩ := o3 (by omega) hr4
                have hcm : f_M_isCompared M' = some 1 := by
                  rw [c1, ← List.append_assoc] at z2 ll
                  have := M_isCompared (A := tp ++ [e] ++ [((7 : Int), (126 : Int))] ++ A) (e := ((4 : Int), x)) (B := B) z2 (by omega) c2 ⟨show (4 : Int) ≠ 5 by decide, show (4 : Int) ≠ 6 by decide⟩
                  rw [this]; rfl
                obtain ⟨q', i1, i2, i3, i4⟩ := M_beh_cmp z2 hr4 hcm
                have hw2 := eB_beh z2.1.2.2 (MX_41 z2) i1
                have f0 := f2_R W n s2.1
                refine ⟨q'.2, ?_, i3, by show f2 W n s2.1 ≠ 0; omega, (q4.tr z8).tr i4⟩
                rw [hw, z1, hw2]
                exact eB_bad (fM_bad i3 (by omega))
              · have hr0 : rkK (kdJ W n s2.1) = 0 := by
                  have a1 := o1 (by omega)
                  have a2 := o2 (by omega)
                  have a3 := o4 (by omega)
                  have a4 := o5 (by omega)
                  apply Classical.byContradiction
                  intro hne
                  have := rkK_R (k := kdJ W n s2.1) rfl (by omega)
                  omega
                obtain ⟨q', i1, i2, i3, i4⟩ := M_beh_br hW hrb z2 ll (fun x hx => by have := z4 x hx; omega) lc (by omega) hr0
                have hw2 := eB_beh z2.1.2.2 (MX_41 z2) i1
                have hq' : q' = (0, q'.2) := Prod.ext i2 rfl
                rw [hq'] at hw2
                by_cases h41' : kdJ W n s2.1 = 41
                · rw [if_pos h41'] at g2 i3
                  cases g2
                  refine ⟨[], cm' ++ emd pend, q'.2, (hw.trans z1).trans hw2, MX_s (by rw [List.append_nil]; exact i3) rfl rfl rfl, by show s2.2.2.2 = cm' ++ emd pend ++ []; rw [List.append_nil]; exact z3, fun z hz => (by cases hz), by show 0 + 5 + a ≤ 12; omega, ⟨fun q => by omega, fun q => by omega, fun q => by omega, fun q => by omega, fun q => by omega⟩, ?_, (q4.tr z8).tr i4⟩
                  show cb + s2.2.2.2.length + opn (tp ++ [e]) ≤ 9 * s2.2.2.1
                  omega
                · rw [if_neg h41'] at g2 i3
                  have g2 := Option.some.inj g2
                  subst g2
                  have f0 := f2_R W n s2.1
                  refine ⟨q'.2, ?_, i3, by show f2 W n s2.1 ≠ 0; omega, (q4.tr z8).tr i4⟩
                  rw [hw, z1, hw2]
                  exact eB_bad (fM_bad i3 (by omega))
