/-! A TOWN is read: both sides -/
def rdP (W : Nat → Int) (n : Nat) : Nat → Nat → LST → (Int × Nat) ⊕ LST
  | 0, _, s => .inr s
  | k + 1, ln, s => if kdJ W n s.1 = 3 then .inr s else sB (lnP W n s.1 ln s.2.1 s.2.2.1 s.2.2.2.1 s.2.2.2.2.1 s.2.2.2.2.2) (fun s' => rdP W n k (ln + 1) s')
def empT : TW := fun a i => if a = 0 ∧ i = 4 then 120 else 0
def s0L : LST := (0, empT, fun _ => [], [], [], false)
def LTS (ln : Nat) (s : LST) : Prop := LTP s.2.1 s.2.2.1 s.2.2.2.1 s.2.2.2.2.1 ln
theorem okT_emp : okT empT (fun _ => []) := by
  refine ⟨⟨by decide, by decide, by decide, by decide, by decide, by decide, by decide, by decide, by decide, by decide, by decide, by decide, by decide, Or.inl rfl⟩, fun p hp => ?_, fun f hf => ?_, fun f g hf => ?_, fun r hr => ?_, fun q => ?_⟩
  · have hp : (p : Int) < 0 := hp
    omega
  · have hf : (f : Int) < 0 := hf
    omega
  · have hf : (f : Int) < 0 := hf
    omega
  · have hr : (r : Int) < 0 := hr
    omega
  · have q : (0 : Int) = 1 := q
    omega
theorem LTS_0 : LTS 0 s0L := ⟨okT_emp, rfl, rfl, fun u hu => (by cases hu), fun u hu => (by cases hu), fun _ => ⟨rfl, rfl⟩⟩
theorem tkV_R {W : Nat → Int} {n p : Nat} (h : tkK W n p = 2) : 0 ≤ tkV W n p ∧ tkV W n p ≤ 9999 := by
  rcases tkK_R W n p with ⟨z, _⟩ | ⟨hp, z | ⟨z, _⟩ | ⟨_, hl, hd, h4⟩ | ⟨z, _⟩ | ⟨q, _, z, _⟩⟩
  · omega
  · omega
  · omega
  · have eE : tkE W n p = rnE isDg W n p := by unfold tkE; rw [if_neg (by omega), if_neg (by rw [hl]; simp), if_pos hd]
    unfold tkV tkW
    rw [eE] at h4 ⊢
    have key : ∀ i : Nat, i ≤ rnE isDg W n p - p → i ≤ 4 → 0 ≤ numV (wrd W p i) ∧ numV (wrd W p i) ≤ 9999 ∧ (i ≤ 3 → numV (wrd W p i) ≤ 999) ∧ (i ≤ 2 → numV (wrd W p i) ≤ 99) ∧ (i ≤ 1 → numV (wrd W p i) ≤ 9) ∧ (i = 0 → numV (wrd W p i) = 0) := by
      intro i
      induction i with
      | zero =>
        intro _ _
        have : numV (wrd W p 0) = 0 := rfl
        rw [this]
        exact ⟨by omega, by omega, fun _ => by omega, fun _ => by omega, fun _ => by omega, fun _ => rfl⟩
      | succ i ih =>
        intro h1 h2
        obtain ⟨a2, a3, a4, a5, a6, a7⟩ := ih (by omega) (by omega)
        have g := (isDg_iff _).mp (rn_steps (f := isDg) (W := W) (n := n) (p := p) (i := i) (by omega)).1
        have := a4 (by omega)
        rw [numV_s]
        refine ⟨by omega, by omega, fun _ => ?_, fun _ => ?_, fun _ => ?_, fun _ => by omega⟩
        · have := a5 (by omega); omega
        · have := a6 (by omega); omega
        · have := a7 (by omega); omega
    have := key _ (Nat.le_refl _) h4
    exact ⟨this.1, this.2.1⟩
  · omega
  · omega
theorem rdP_ok {W : Nat → Int} {n J : Nat} (hJ : lastT W n J) : ∀ (k ln : Nat) (s s' : LST), LTS ln s → s.1 ≤ J → rdP W n k ln s = .inr s' → ∃ ln', LTS ln' s' := by
  intro k
  induction k with
  | zero => intro ln s s' h _ hs; cases hs; exact ⟨ln, h⟩
  | succ k ih =>
    intro ln s s' h hj hs
    have hs : (if kdJ W n s.1 = 3 then .inr s else sB (lnP W n s.1 ln s.2.1 s.2.2.1 s.2.2.2.1 s.2.2.2.2.1 s.2.2.2.2.2) (fun s' => rdP W n k (ln + 1) s')) = (.inr s' : (Int × Nat) ⊕ LST) := hs
    split at hs
    · cases hs; exact ⟨ln, h⟩
    · obtain ⟨s1, h1, h2⟩ := sB_inr hs
      have := lnP_ok hJ (fun p => tkV_R) hj h h1
      exact ih (ln + 1) s1 s' this.2.2 this.2.1 h2
theorem X_lines {W : Nat → Int} {n J : Nat} (hJ : lastT W n J) {M0 : KM} : ∀ (k ln : Nat) (s : LST) (M : KM), ln + k = 1600 → 2 * ln ≤ s.1 → LTS ln s → LCd W n J s.1 ln s.2.1 s.2.2.1 s.2.2.2.1 s.2.2.2.2.1 s.2.2.2.2.2 M → Fp pLC M0 M →
    Ret (whileO (σ := KM) (ε := KM ⊕ KM) (fun s9 => (if s9 14 6 < (1600 : Int) then (if s9 14 5 = (3 : Int) then some (Sum.inr (Sum.inl s9)) else Option.bind (f_Reader_line s9) (fun q10 => (if q10.1 = (0 : Int) then some (Sum.inr (Sum.inr q10.2)) else letM_ (mupd q10.2 14 6 (w32 ((q10.2 14 6) + (1 : Int)))) (fun M11 => some (Sum.inl M11))))) else some (Sum.inr (Sum.inl s9)))) M) (fun e => Sum.elim (fun f : Int × Nat => ∃ q, e = .inr q ∧ fC f.1 f.2 q ∧ Fp pLC M0 q) (fun s' : LST => ∃ q ln', e = .inl q ∧ LCd W n J s'.1 ln' s'.2.1 s'.2.2.1 s'.2.2.2.1 s'.2.2.2.2.1 s'.2.2.2.2.2 q ∧ Fp pLC M0 q) (rdP W n k ln s)) := by
  intro k
  induction k with
  | zero =>
    intro ln s M hk h2 hP h hf
    have := h.1.2.2.2
    omega
  | succ k ih =>
    intro ln s M hk h2 hP h hf
    show Ret _ (fun e => Sum.elim _ _ (if kdJ W n s.1 = 3 then .inr s else sB (lnP W n s.1 ln s.2.1 s.2.2.1 s.2.2.2.1 s.2.2.2.2.1 s.2.2.2.2.2) (fun s' => rdP W n k (ln + 1) s')))
    have e6 := h.2.2.2.1
    have e5 := h.1.2.2.1
    by_cases h3 : kdJ W n s.1 = 3
    · rw [if_pos h3]
      refine Ret.eq (whileO_inr (e := .inl M) ?_) ⟨M, ln, rfl, h, hf⟩
      rw [if_pos (by omega), if_pos (by omega)]
    · rw [if_neg h3]
      obtain ⟨q, q1, q2, q3⟩ := X_line hJ (fun p => tkV_R) hP h
      cases hx : lnP W n s.1 ln s.2.1 s.2.2.1 s.2.2.2.1 s.2.2.2.2.1 s.2.2.2.2.2 with
      | inl f =>
        rw [hx] at q2
        refine Ret.eq (whileO_inr (e := .inr q.2) ?_) ⟨q.2, rfl, q2.2, hf.tr q3⟩
        rw [if_pos (by omega), if_neg (by omega), q1, ob_some, if_pos q2.1]
      | inr s1 =>
        rw [hx] at q2
        obtain ⟨g1, g2⟩ := q2
        have lo := lnP_ok hJ (fun p => tkV_R) h.1.2.2.2.1 hP hx
        have e6' := g2.2.2.2.1
        have hb := g2.1.2.2.2
        have hM : LCd W n J s1.1 (ln + 1) s1.2.1 s1.2.2.1 s1.2.2.2.1 s1.2.2.2.2.1 s1.2.2.2.2.2 (mupd q.2 14 6 ((ln : Int) + 1)) := ⟨RC.congr g2.1 (mupd_ne2 _ _ (by omega)) (mupd_ne2 _ _ (by omega)) (fun c h1 h2 => by funext z; rw [mupd_ne _ _ (by omega)]), g2.2.1.congr fun c hc => by funext z; rw [mupd_ne _ _ hc], by rw [mupd_ne2 _ _ (by omega)]; exact g2.2.2.1, by rw [mupd_same]; rfl, by rw [mupd_ne _ _ (by omega)]; exact g2.2.2.2.2⟩
        rw [whileO_inl (s' := mupd q.2 14 6 ((ln : Int) + 1)) ?_]
        · exact ih (ln + 1) s1 _ (by omega) (by omega) lo.2.2 hM ((hf.tr q3).upd ⟨by omega, by omega⟩)
        · skip
          rw [if_pos (by omega), if_neg (by omega), q1, ob_some, if_neg (by omega), e6', letM_e, w32e (by omega) (by omega)]
theorem X_read {W : Nat → Int} {n : Nat} {M : KM} (hT : TXC W n M) (hW : TXR W) : ∃ J, lastT W n J ∧ Ret (f_Reader_read (n : Int) M) (fun q => Sum.elim (fun e : Int × Nat => q.1 = 0 ∧ fC e.1 e.2 q.2) (fun s : LST => q.1 = 1 ∧ TC 15 s.2.1 s.2.2.1 q.2 ∧ q.2 14 0 = 0 ∧ q.2 14 1 = -1) (rdP W n 1600 0 s0L) ∧ Fp (fun k _ => 14 ≤ k ∧ k ≤ 33) M q.2) := by
  have hn := hT.1
  have em : ∀ M : KM, f_Town_emptyD M = some (mupd (mupd (mupd (mupd (mupd (mupd (mupd (mupd (mupd M 15 0 0) 15 5 0) 15 9 0) 15 11 (-1)) 15 12 0) 15 13 120) 15 14 0) 15 15 0) 24 1 0) := fun M => rfl
  -- the scan first: it says J
  have ex : ∃ q5, f_Tokens_scan (n : Int) (mupd (mupd (mupd (mupd (mupd (mupd (mupd (mupd (mupd (mupd (mupd (mupd M 14 0 0) 14 1 (-1)) 15 0 0) 15 5 0) 15 9 0) 15 11 (-1)) 15 12 0) 15 13 120) 15 14 0) 15 15 0) 24 1 0) 14 7 0) = some q5 ∧ ∃ J, lastT W n J ∧ SCN W n (J + 1) q5 ∧ scF (mupd (mupd (mupd (mupd (mupd (mupd (mupd (mupd (mupd (mupd (mupd (mupd M 14 0 0) 14 1 (-1)) 15 0 0) 15 5 0) 15 9 0) 15 11 (-1)) 15 12 0) 15 13 120) 15 14 0) 15 15 0) 24 1 0) 14 7 0) q5 := by
    obtain ⟨q5, h1, h2⟩ := X_scan (M := mupd (mupd (mupd (mupd (mupd (mupd (mupd (mupd (mupd (mupd (mupd (mupd M 14 0 0) 14 1 (-1)) 15 0 0) 15 5 0) 15 9 0) 15 11 (-1)) 15 12 0) 15 13 120) 15 14 0) 15 15 0) 24 1 0) 14 7 0) (hT.congr (by funext z; simp [mupd])) hW
    exact ⟨q5, h1, h2⟩
  have g14 : ∀ i, mupd (mupd (mupd (mupd (mupd (mupd (mupd (mupd (mupd (mupd (mupd (mupd M 14 0 0) 14 1 (-1)) 15 0 0) 15 5 0) 15 9 0) 15 11 (-1)) 15 12 0) 15 13 120) 15 14 0) 15 15 0) 24 1 0) 14 7 0 14 i = if i = 7 then 0 else if i = 1 then -1 else if i = 0 then 0 else M 14 i := fun i => by simp [mupd]
  have g15 : ∀ i, mupd (mupd (mupd (mupd (mupd (mupd (mupd (mupd (mupd (mupd (mupd (mupd M 14 0 0) 14 1 (-1)) 15 0 0) 15 5 0) 15 9 0) 15 11 (-1)) 15 12 0) 15 13 120) 15 14 0) 15 15 0) 24 1 0) 14 7 0 15 i = if i = 15 then 0 else if i = 14 then 0 else if i = 13 then 120 else if i = 12 then 0 else if i = 11 then -1 else if i = 9 then 0 else if i = 5 then 0 else if i = 0 then 0 else M 15 i := fun i => by simp [mupd]
  have g24 : mupd (mupd (mupd (mupd (mupd (mupd (mupd (mupd (mupd (mupd (mupd (mupd M 14 0 0) 14 1 (-1)) 15 0 0) 15 5 0) 15 9 0) 15 11 (-1)) 15 12 0) 15 13 120) 15 14 0) 15 15 0) 24 1 0) 14 7 0 24 1 = 0 := by simp [mupd]
  have fr : Fp (fun k _ => 14 ≤ k ∧ k ≤ 33) M (mupd (mupd (mupd (mupd (mupd (mupd (mupd (mupd (mupd (mupd (mupd (mupd M 14 0 0) 14 1 (-1)) 15 0 0) 15 5 0) 15 9 0) 15 11 (-1)) 15 12 0) 15 13 120) 15 14 0) 15 15 0) 24 1 0) 14 7 0) := (((((((((((Fp.rf.upd (by omega)).upd (by omega)).upd (by omega)).upd (by omega)).upd (by omega)).upd (by omega)).upd (by omega)).upd (by omega)).upd (by omega)).upd (by omega)).upd (by omega)).upd (by omega)
  unfold f_Reader_read
  generalize hM4 : mupd (mupd (mupd (mupd (mupd (mupd (mupd (mupd (mupd (mupd (mupd (mupd M 14 0 0) 14 1 (-1)) 15 0 0) 15 5 0) 15 9 0) 15 11 (-1)) 15 12 0) 15 13 120) 15 14 0) 15 15 0) 24 1 0) 14 7 0 = M4 at *
  obtain ⟨q5, s1, J, hJ, s2, s3⟩ := ex
  refine ⟨J, hJ, Ret.letM (Ret.letM ?_)⟩
  rw [em, ob_some]
  refine Ret.t (by decide) ?_
  rw [letM_e, hM4, s1, ob_some]
  have hJn := lastT_n hJ
  have k5 : ∀ c, c ≠ 27 → c ≠ 28 → c ≠ 29 → c ≠ 30 → c ≠ 31 → q5 c = M4 c := s3
  have f5 : Fp (fun k _ => 14 ≤ k ∧ k ≤ 33) M4 q5 := fun k j hk => by rw [k5 k (fun e => hk (by omega)) (fun e => hk (by omega)) (fun e => hk (by omega)) (fun e => hk (by omega)) (fun e => hk (by omega))]
  have s2' : SCN W n (J + 1) (mupd q5 14 4 (-1)) := fun k hk => by
    have := s2 k hk
    rw [mupd_ne _ _ (show (28 : Nat) ≠ 14 by omega), mupd_ne _ _ (show (29 : Nat) ≠ 14 by omega), mupd_ne _ _ (show (30 : Nat) ≠ 14 by omega), mupd_ne _ _ (show (31 : Nat) ≠ 14 by omega)]
    exact this
  refine Ret.letM (Ret.bind (start_RC s2' (mupd_same _ _ _ _) (by omega) ⟨by rw [mupd_ne2 _ _ (by omega), k5 14 (by omega) (by omega) (by omega) (by omega) (by omega), g14]; rfl, by rw [mupd_ne2 _ _ (by omega), k5 14 (by omega) (by omega) (by omega) (by omega) (by omega), g14]; rfl⟩) ?_)
  rintro q7 ⟨a1, a2⟩
  have k7 : ∀ c, c ≠ 14 → q7 c = q5 c := fun c hc => by rw [a2.row (fun z hz => hc hz.1)]; funext z; rw [mupd_ne _ _ hc]
  have e15 : ∀ i, mupd q7 14 6 0 15 i = if i = 15 then 0 else if i = 14 then 0 else if i = 13 then 120 else if i = 12 then 0 else if i = 11 then -1 else if i = 9 then 0 else if i = 5 then 0 else if i = 0 then 0 else M 15 i := fun i => by rw [mupd_ne _ _ (by omega), k7 15 (by omega), k5 15 (by omega) (by omega) (by omega) (by omega) (by omega), g15]
  have e24 : mupd q7 14 6 0 24 1 = 0 := by rw [mupd_ne _ _ (by omega), k7 24 (by omega), k5 24 (by omega) (by omega) (by omega) (by omega) (by omega), g24]
  have hL : LCd W n J 0 0 empT (fun _ => []) [] [] false (mupd q7 14 6 0) := by
    refine ⟨RC.congr a1 (mupd_ne2 _ _ (by omega)) (mupd_ne2 _ _ (by omega)) (fun c h1 h2 => by funext z; rw [mupd_ne _ _ (by omega)]), ⟨⟨⟨e15 0, e15 5, e15 9, e15 12, e15 13, e15 14, e15 15⟩, fun p hp => ?_, fun f hf => ?_, fun r hr => ?_, ⟨fun _ => e15 11, fun q => ?_⟩, ?_⟩, fun i u hu => (by cases hu), fun i u hu => (by cases hu)⟩, ?_, by rw [mupd_same]; rfl, by rw [e24]; exact Int.le_refl _⟩
    · have hp : (p : Int) < 0 := hp
      omega
    · have hf : (f : Int) < 0 := hf
      omega
    · have hr : (r : Int) < 0 := hr
      omega
    · have q : (0 : Int) = 1 := q
      omega
    · show 0 ≤ mupd q7 14 6 0 24 1 ∧ mupd q7 14 6 0 24 1 ≤ 1600
      rw [e24]; decide
    · rw [mupd_ne2 _ _ (by omega), a2 14 7 (by unfold pS; omega), mupd_ne2 _ _ (by omega), k5 14 (by omega) (by omega) (by omega) (by omega) (by omega), g14]; rfl
  have f8 : Fp pLC M (mupd q7 14 6 0) := (((fr.tr f5).upd (by omega)).tr (a2.mono pS_L)).upd ⟨by omega, by omega⟩
  refine Ret.letM (Ret.bind (X_lines hJ 1600 0 s0L _ rfl (Nat.zero_le _) LTS_0 hL f8) ?_)
  intro e he
  cases hx : rdP W n 1600 0 s0L with
  | inl f =>
    rw [hx] at he
    obtain ⟨q, e1, e2, e3⟩ := he
    rw [e1]
    exact Ret.pure ⟨⟨rfl, e2⟩, e3⟩
  | inr s =>
    rw [hx] at he
    obtain ⟨q, ln', e1, e2, e3⟩ := he
    rw [e1]
    exact Ret.pure ⟨⟨rfl, e2.2.1.1, e2.1.2.2.2.2.2.1, e2.1.2.2.2.2.2.2⟩, e3⟩
/-! the second side -/
theorem M_lines {W : Nat → Int} {n J rb : Nat} (hJ : lastT W n J) (hn : n ≤ 1600) (hW : TXR W) (hrb : rb < 2) {M0 : KM} : ∀ (k ln : Nat) (s : LST) (M : KM), ln + k = 1600 → 2 * ln ≤ s.1 → s.1 ≤ J → LTS ln s → RM W n s.1 M → LMd rb ln s.2.1 s.2.2.1 s.2.2.2.1 s.2.2.2.2.1 s.2.2.2.2.2 M → Fp (pLM rb) M0 M →
    Ret (whileO (σ := KM) (ε := KM) (fun s12 => Option.bind (f_M_isGood s12) (fun q13 => (if q13 = (0 : Int) then some (Sum.inr s12) else (if s12 382 8 = (0 : Int) then some (Sum.inr s12) else Option.bind (f_M_readLine s12) (fun q14 => some (Sum.inl q14)))))) M) (fun q => Sum.elim (fun f : Int × Nat => fM f.1 f.2 q ∧ f.1 ≠ 0) (fun s' : LST => ∃ ln', RM W n s'.1 q ∧ LMd rb ln' s'.2.1 s'.2.2.1 s'.2.2.2.1 s'.2.2.2.2.1 s'.2.2.2.2.2 q) (rdP W n k ln s) ∧ Fp (pLM rb) M0 q) := by
  have hJn := lastT_n hJ
  have t0 : ∀ p, tkT (tkK W n p) = 0 ↔ tkK W n p = 3 := fun p => by
    unfold tkT
    constructor
    · intro h
      split at h
      · assumption
      · split at h
        · omega
        · split at h
          · omega
          · split at h
            · omega
            · split at h <;> omega
    · intro h; rw [h]; rfl
  intro k
  induction k with
  | zero => intro ln s M hk h2 hj; omega
  | succ k ih =>
    intro ln s M hk h2 hj hP hr h hf
    show Ret _ (fun q => Sum.elim _ _ (if kdJ W n s.1 = 3 then .inr s else sB (lnP W n s.1 ln s.2.1 s.2.2.1 s.2.2.2.1 s.2.2.2.2.1 s.2.2.2.2.2) (fun s' => rdP W n k (ln + 1) s')) ∧ _)
    have p3 := hr.2.1.2.2.1
    by_cases h3 : kdJ W n s.1 = 3
    · rw [if_pos h3]
      refine Ret.eq (whileO_inr (e := M) ?_) ⟨⟨ln, hr, h⟩, hf⟩
      rw [M_isGood, ob_some, if_pos hr.2.2, if_neg (by decide), if_pos (by rw [p3]; exact (t0 _).mpr h3)]
    · rw [if_neg h3]
      obtain ⟨q, q1, q2, q3⟩ := M_readLine hJ hn (fun p => tkV_R) hW hrb hP hr h hj (by omega)
      rw [whileO_inl (s' := q) (by rw [M_isGood, ob_some, if_pos hr.2.2, if_neg (by decide), if_neg (by rw [p3]; exact fun z => h3 ((t0 _).mp z)), q1]; rfl)]
      cases hx : lnP W n s.1 ln s.2.1 s.2.2.1 s.2.2.2.1 s.2.2.2.2.1 s.2.2.2.2.2 with
      | inl f =>
        rw [hx] at q2
        refine Ret.eq (whileO_inr (e := q) ?_) ⟨q2, hf.tr q3⟩
        rw [M_isGood, ob_some, if_neg (fM_bad q2.1 q2.2)]; rfl
      | inr s1 =>
        rw [hx] at q2
        have lo := lnP_ok hJ (fun p => tkV_R) hj hP hx
        exact ih (ln + 1) s1 q (by omega) (by omega) lo.2.1 lo.2.2 q2.1 q2.2 (hf.tr q3)
