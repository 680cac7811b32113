/-! CHEAPEST WAYS IN A NET: rounds of bettering come to rest after eight -/
def NW : Type := Nat × (Nat → Nat) × (Nat → Nat) × (Nat → Int) × (Nat → Bool) × Int
def NW.K (N : NW) : Nat := Prod.fst N
def NW.fr (N : NW) : Nat → Nat := Prod.fst (Prod.snd N)
def NW.to (N : NW) : Nat → Nat := Prod.fst (Prod.snd (Prod.snd N))
def NW.w (N : NW) : Nat → Int := Prod.fst (Prod.snd (Prod.snd (Prod.snd N)))
def NW.ok (N : NW) : Nat → Bool := Prod.fst (Prod.snd (Prod.snd (Prod.snd (Prod.snd N))))
def NW.W (N : NW) : Int := Prod.snd (Prod.snd (Prod.snd (Prod.snd (Prod.snd N))))
abbrev ARC : Type := Nat × Bool
def NW.wf (N : NW) : Prop := 0 ≤ N.W ∧ ∀ e, e < N.K → N.ok e = true → N.fr e < 8 ∧ N.to e < 8 ∧ 0 ≤ N.w e ∧ N.w e ≤ N.W
def NW.tl (N : NW) (a : ARC) : Nat := if a.2 = true then N.to a.1 else N.fr a.1
def NW.hd (N : NW) (a : ARC) : Nat := if a.2 = true then N.fr a.1 else N.to a.1
def NW.ct (N : NW) (a : ARC) : Int := if a.2 = true then -N.w a.1 else N.w a.1
def NW.res (N : NW) (x : Nat → Int) (a : ARC) : Prop := a.1 < N.K ∧ N.ok a.1 = true ∧ (a.2 = true → 0 < x a.1)
def NW.dual (N : NW) (x π : Nat → Int) : Prop := ∀ e, e < N.K → N.ok e = true → π (N.to e) ≤ π (N.fr e) + N.w e ∧ (0 < x e → π (N.fr e) + N.w e ≤ π (N.to e))
theorem NW.arc {N : NW} (hN : N.wf) {x : Nat → Int} {a : ARC} (h : N.res x a) : N.tl a < 8 ∧ N.hd a < 8 ∧ -N.W ≤ N.ct a ∧ N.ct a ≤ N.W := by
  have := hN.2 a.1 h.1 h.2.1
  unfold NW.tl NW.hd NW.ct
  split <;> omega
theorem NW.dual_arc {N : NW} {x π : Nat → Int} (hd : N.dual x π) {a : ARC} (h : N.res x a) : π (N.hd a) ≤ π (N.tl a) + N.ct a := by
  have g := hd a.1 h.1 h.2.1
  unfold NW.tl NW.hd NW.ct
  split
  · rename_i hb
    have := g.2 (h.2.2 hb); omega
  · exact g.1
abbrev DP : Type := (Nat → Int) × (Nat → Option ARC)
def prs (f : Nat → Option ARC) (v : Nat) (a : ARC) : Nat → Option ARC := fun q => if q = v then some a else f q
def rlx (N : NW) (a : ARC) (S : DP) : DP := if S.1 (N.tl a) < 100000000 ∧ S.1 (N.tl a) + N.ct a < S.1 (N.hd a) then (vset S.1 (N.hd a) (S.1 (N.tl a) + N.ct a), prs S.2 (N.hd a) a) else S
def rE (N : NW) (x : Nat → Int) (e : Nat) (S : DP) : DP := if N.ok e = true then (if 0 < x e then rlx N (e, true) (rlx N (e, false) S) else rlx N (e, false) S) else S
def rnd (N : NW) (x : Nat → Int) (S : DP) : DP := itF (rE N x) S N.K
def rnds (N : NW) (x : Nat → Int) (S : DP) : Nat → DP := itF (fun _ => rnd N x) S
def dp0 (s : Nat → Int) : DP := (fun v => if 0 < s v then 0 else 100000000, fun _ => none)
def ltR (π d : Nat → Int) (τ : Nat → Nat) (u v : Nat) : Prop := d u - π u < d v - π v ∨ (d u - π u = d v - π v ∧ τ u < τ v)
def BFI (N : NW) (x s π : Nat → Int) (t : Nat) (S : DP) : Prop := ∃ τ : Nat → Nat, (∀ v, v < 8 → S.2 v = none → S.1 v = if 0 < s v then 0 else 100000000) ∧
  (∀ v a, v < 8 → S.2 v = some a → N.res x a ∧ N.hd a = v ∧ S.1 (N.tl a) < 100000000 ∧ S.1 (N.tl a) + N.ct a ≤ S.1 v ∧ ltR π S.1 τ (N.tl a) v) ∧
  (∀ v, v < 8 → S.1 v = 100000000 ∨ (-((t : Int) * N.W) ≤ S.1 v ∧ S.1 v ≤ (t : Int) * N.W)) ∧ ∀ v, τ v ≤ t
theorem BFI_0 (N : NW) (hN : N.wf) (x s π : Nat → Int) : BFI N x s π 0 (dp0 s) := by
  refine ⟨fun _ => 0, fun v _ _ => rfl, fun v a _ h => (by cases h), fun v _ => ?_, fun v => Nat.le_refl _⟩
  show (if 0 < s v then (0 : Int) else 100000000) = 100000000 ∨ (-(((0 : Nat) : Int) * N.W) ≤ (if 0 < s v then (0 : Int) else 100000000) ∧ (if 0 < s v then (0 : Int) else 100000000) ≤ ((0 : Nat) : Int) * N.W)
  by_cases h : 0 < s v
  · rw [if_pos h]; simp
  · rw [if_neg h]; exact Or.inl rfl
theorem BFI_up {N : NW} (hN : N.wf) {x s π : Nat → Int} {t : Nat} {S : DP} (h : BFI N x s π t S) {t' : Nat} (ht : t ≤ t') : BFI N x s π t' S := by
  obtain ⟨τ, h1, h2, h3, h4⟩ := h
  refine ⟨τ, h1, h2, fun v hv => ?_, fun v => Nat.le_trans (h4 v) ht⟩
  have hm : (t : Int) * N.W ≤ (t' : Int) * N.W := Int.mul_le_mul_of_nonneg_right (by omega) hN.1
  have := h3 v hv
  omega
theorem BFI_rlx {N : NW} (hN : N.wf) {x s π : Nat → Int} (hd : N.dual x π) {t : Nat} {S : DP} (h : BFI N x s π t S) {a : ARC} (ha : N.res x a) (ht : ((t + 1 : Nat) : Int) * N.W < 100000000) : BFI N x s π (t + 1) (rlx N a S) := by
  obtain ⟨w1, w2, w3, w4⟩ := NW.arc hN ha
  unfold rlx
  by_cases hc : S.1 (N.tl a) < 100000000 ∧ S.1 (N.tl a) + N.ct a < S.1 (N.hd a)
  · rw [if_pos hc]
    have hda := NW.dual_arc hd ha
    obtain ⟨τ, h1, h2, h3, h4⟩ := h
    have hW := hN.1
    have em : ((t + 1 : Nat) : Int) * N.W = (t : Int) * N.W + N.W := by rw [show ((t + 1 : Nat) : Int) = (t : Int) + 1 by omega, Int.add_mul, Int.one_mul]
    have h3t := h3 (N.tl a) w1
    have hne : N.tl a ≠ N.hd a := fun e => by
      have h5 := hc.2
      rw [e] at h5 hda
      omega
    have dn : ∀ v, v ≠ N.hd a → vset S.1 (N.hd a) (S.1 (N.tl a) + N.ct a) v = S.1 v := fun v hv => by unfold vset; rw [if_neg hv]
    have de : vset S.1 (N.hd a) (S.1 (N.tl a) + N.ct a) (N.hd a) = S.1 (N.tl a) + N.ct a := by unfold vset; rw [if_pos rfl]
    refine ⟨fun q => if q = N.hd a then t + 1 else τ q, fun v hv hn => ?_, fun v b hv hb => ?_, fun v hv => ?_, fun v => ?_⟩
    · dsimp only at hn ⊢
      unfold prs at hn
      by_cases hvh : v = N.hd a
      · rw [if_pos hvh] at hn; cases hn
      · rw [if_neg hvh] at hn
        rw [dn v hvh]; exact h1 v hv hn
    · dsimp only at hb ⊢
      unfold prs at hb
      by_cases hvh : v = N.hd a
      · rw [if_pos hvh] at hb
        have hba : a = b := Option.some.inj hb
        subst hba
        rw [hvh, de, dn _ hne]
        refine ⟨ha, rfl, hc.1, Int.le_refl _, ?_⟩
        unfold ltR
        dsimp only
        rw [dn _ hne, de, if_neg hne, if_pos rfl]
        have := h4 (N.tl a)
        omega
      · rw [if_neg hvh] at hb
        obtain ⟨g1, g2, g3, g4, g5⟩ := h2 v b hv hb
        refine ⟨g1, g2, ?_, ?_, ?_⟩
        · by_cases ht' : N.tl b = N.hd a
          · rw [ht', de]; rw [ht'] at g3; omega
          · rw [dn _ ht']; exact g3
        · rw [dn v hvh]
          by_cases ht' : N.tl b = N.hd a
          · rw [ht', de]; rw [ht'] at g4; omega
          · rw [dn _ ht']; exact g4
        · unfold ltR at g5 ⊢
          dsimp only
          rw [dn v hvh, if_neg hvh]
          by_cases ht' : N.tl b = N.hd a
          · rw [ht', de, if_pos rfl]; rw [ht'] at g5; omega
          · rw [dn _ ht', if_neg ht']; exact g5
    · dsimp only
      by_cases hvh : v = N.hd a
      · rw [hvh, de, em]; omega
      · rw [dn v hvh, em]
        have := h3 v hv; omega
    · dsimp only
      have := h4 v
      split <;> omega
  · rw [if_neg hc]
    exact BFI_up hN h (Nat.le_succ _)
/-! who is settled -/
def rlxd (N : NW) (S : DP) (a : ARC) : Prop := S.1 (N.tl a) < 100000000 → S.1 (N.hd a) ≤ S.1 (N.tl a) + N.ct a
def SETL (N : NW) (x π : Nat → Int) (B : Nat → Bool) (S : DP) : Prop := (∀ a, N.res x a → B (N.tl a) = true → rlxd N S a) ∧ ∀ u v, u < 8 → v < 8 → B u = true → B v = false → S.1 u - π u ≤ S.1 v - π v
/-- what holds in a round in which m is being settled; P: the ways already gone -/
def RI (N : NW) (x π : Nat → Int) (B : Nat → Bool) (m : Nat) (D : Int) (P : ARC → Prop) (S : DP) : Prop := SETL N x π B S ∧ S.1 m = D ∧ (∀ v, v < 8 → B v = false → D - π m ≤ S.1 v - π v) ∧ ∀ a, P a → N.res x a → N.tl a = m → rlxd N S a
theorem RI_rlx {N : NW} (hN : N.wf) {x π : Nat → Int} (hd : N.dual x π) {B : Nat → Bool} {m : Nat} {D : Int} {P : ARC → Prop} {S : DP} (hm : m < 8) (hBm : B m = false) (h : RI N x π B m D P S) {a : ARC} (ha : N.res x a) : RI N x π B m D (fun b => P b ∨ b = a) (rlx N a S) := by
  obtain ⟨w1, w2, w3, w4⟩ := NW.arc hN ha
  obtain ⟨⟨s1, s2⟩, h2, h3, h4⟩ := h
  have hda := NW.dual_arc hd ha
  unfold rlx
  by_cases hc : S.1 (N.tl a) < 100000000 ∧ S.1 (N.tl a) + N.ct a < S.1 (N.hd a)
  · rw [if_pos hc]
    have hne : N.tl a ≠ N.hd a := fun e => by
      have h5 := hc.2
      rw [e] at h5 hda
      omega
    have htB : B (N.tl a) = false := by
      cases hq : B (N.tl a) with
      | false => rfl
      | true => have := s1 a ha hq hc.1; omega
    have hhB : B (N.hd a) = false := by
      cases hq : B (N.hd a) with
      | false => rfl
      | true => have := s2 (N.hd a) (N.tl a) w2 w1 hq htB; omega
    have hhm : N.hd a ≠ m := fun e => by
      have := h3 (N.tl a) w1 htB
      rw [e] at hda hc
      omega
    have dn : ∀ v, v ≠ N.hd a → vset S.1 (N.hd a) (S.1 (N.tl a) + N.ct a) v = S.1 v := fun v hv => by unfold vset; rw [if_neg hv]
    have de : vset S.1 (N.hd a) (S.1 (N.tl a) + N.ct a) (N.hd a) = S.1 (N.tl a) + N.ct a := by unfold vset; rw [if_pos rfl]
    -- a way whose tail is not the head stays gone
    have keep : ∀ b, N.res x b → N.tl b ≠ N.hd a → rlxd N S b → rlxd N (vset S.1 (N.hd a) (S.1 (N.tl a) + N.ct a), prs S.2 (N.hd a) a) b := fun b hb hne2 hr hlt => by
      dsimp only at hlt ⊢
      rw [dn _ hne2] at hlt ⊢
      have := hr hlt
      by_cases hh : N.hd b = N.hd a
      · rw [hh, de]; rw [hh] at this; omega
      · rw [dn _ hh]; exact this
    have ub : ∀ u, u < 8 → B u = true → u ≠ N.hd a := fun u _ hu e => by rw [e, hhB] at hu; cases hu
    refine ⟨⟨fun b hb hB => ?_, fun u v hu hv hBu hBv => ?_⟩, ?_, fun v hv hBv => ?_, fun b hP hb ht => ?_⟩
    · exact keep b hb (ub _ (NW.arc hN hb).1 hB) (s1 b hb hB)
    · dsimp only
      rw [dn u (ub u hu hBu)]
      by_cases hvh : v = N.hd a
      · rw [hvh, de]
        have := s2 u (N.tl a) hu w1 hBu htB; omega
      · rw [dn v hvh]; exact s2 u v hu hv hBu hBv
    · dsimp only
      rw [dn m (Ne.symm hhm)]; exact h2
    · dsimp only
      by_cases hvh : v = N.hd a
      · rw [hvh, de]
        have := h3 (N.tl a) w1 htB; omega
      · rw [dn v hvh]; exact h3 v hv hBv
    · have hbt : N.tl b ≠ N.hd a := by rw [ht]; exact Ne.symm hhm
      rcases hP with hP | hP
      · exact keep b hb hbt (h4 b hP hb ht)
      · subst hP
        intro _
        dsimp only
        rw [de, dn _ hne]; exact Int.le_refl _
  · rw [if_neg hc]
    refine ⟨⟨s1, s2⟩, h2, h3, fun b hP hb ht => ?_⟩
    rcases hP with hP | hP
    · exact h4 b hP hb ht
    · subst hP
      intro hlt
      omega
theorem RI_P {N : NW} {x π : Nat → Int} {B : Nat → Bool} {m : Nat} {D : Int} {P Q : ARC → Prop} {S : DP} (h : RI N x π B m D P S) (hPQ : ∀ a, N.res x a → Q a → P a) : RI N x π B m D Q S := ⟨h.1, h.2.1, h.2.2.1, fun a hQ hr ht => h.2.2.2 a (hPQ a hr hQ) hr ht⟩
theorem RI_rE {N : NW} (hN : N.wf) {x π : Nat → Int} (hd : N.dual x π) {B : Nat → Bool} {m : Nat} {D : Int} {S : DP} (hm : m < 8) (hBm : B m = false) {e : Nat} (he : e < N.K) (h : RI N x π B m D (fun a => a.1 < e) S) : RI N x π B m D (fun a => a.1 < e + 1) (rE N x e S) := by
  unfold rE
  by_cases ho : N.ok e = true
  · rw [if_pos ho]
    have h1 := RI_rlx hN hd hm hBm h (a := (e, false)) ⟨he, ho, fun q => by cases q⟩
    by_cases hx : 0 < x e
    · rw [if_pos hx]
      have h2 := RI_rlx hN hd hm hBm h1 (a := (e, true)) ⟨he, ho, fun _ => hx⟩
      refine RI_P h2 fun a hr hq => ?_
      by_cases ha : a.1 < e
      · exact Or.inl (Or.inl ha)
      · have e1 : a.1 = e := by omega
        cases hb : a.2 with
        | false => exact Or.inl (Or.inr (Prod.ext e1 hb))
        | true => exact Or.inr (Prod.ext e1 hb)
    · rw [if_neg hx]
      refine RI_P h1 fun a hr hq => ?_
      by_cases ha : a.1 < e
      · exact Or.inl ha
      · have e1 : a.1 = e := by omega
        cases hb : a.2 with
        | false => exact Or.inr (Prod.ext e1 hb)
        | true => have := hr.2.2 hb; rw [e1] at this; exact absurd this hx
  · rw [if_neg ho]
    refine RI_P h fun a hr hq => ?_
    by_cases ha : a.1 < e
    · exact ha
    · have e1 : a.1 = e := by omega
      have := hr.2.1
      rw [e1] at this
      exact absurd this ho
theorem itF_ind {σ : Type} {f : Nat → σ → σ} {s0 : σ} (I : Nat → σ → Prop) (h0 : I 0 s0) : ∀ {n : Nat}, (∀ i s, i < n → I i s → I (i + 1) (f i s)) → I n (itF f s0 n) := by
  intro n
  induction n with
  | zero => intro _; exact h0
  | succ n ih => intro h; exact h n _ (by omega) (ih fun i s hi => h i s (by omega))
def setB (B : Nat → Bool) (m : Nat) : Nat → Bool := fun q => B q || decide (q = m)
theorem SETL_rnd {N : NW} (hN : N.wf) {x π : Nat → Int} (hd : N.dual x π) {B : Nat → Bool} {S : DP} (h : SETL N x π B S) {m : Nat} (hm : m < 8) (hBm : B m = false) (hmin : ∀ v, v < 8 → B v = false → S.1 m - π m ≤ S.1 v - π v) : SETL N x π (setB B m) (rnd N x S) := by
  have hr : RI N x π B m (S.1 m) (fun a => a.1 < N.K) (rnd N x S) := itF_ind (fun e S' => RI N x π B m (S.1 m) (fun a => a.1 < e) S') ⟨h, rfl, hmin, fun a ha => absurd ha (Nat.not_lt_zero _)⟩ fun e S' he hI => RI_rE hN hd hm hBm he hI
  obtain ⟨⟨s1, s2⟩, h2, h3, h4⟩ := hr
  refine ⟨fun a ha hB => ?_, fun u v hu hv hBu hBv => ?_⟩
  · unfold setB at hB
    rw [Bool.or_eq_true, decide_eq_true_eq] at hB
    rcases hB with hB | hB
    · exact s1 a ha hB
    · exact h4 a ha.1 ha hB
  · unfold setB at hBu hBv
    rw [Bool.or_eq_true, decide_eq_true_eq] at hBu
    rw [Bool.or_eq_false_iff] at hBv
    rcases hBu with hBu | hBu
    · exact s2 u v hu hv hBu hBv.1
    · rw [hBu, h2]; exact h3 v hv hBv.1
/-- if all are settled, nothing changes any more -/
def Conv (N : NW) (x : Nat → Int) (S : DP) : Prop := ∀ a, N.res x a → rlxd N S a
theorem rlx_conv {N : NW} {S : DP} {a : ARC} (h : rlxd N S a) : rlx N a S = S := by
  unfold rlx
  rw [if_neg]
  intro hc
  have := h hc.1
  omega
theorem rnd_conv {N : NW} {x : Nat → Int} {S : DP} (h : Conv N x S) : rnd N x S = S := itF_ind (fun _ S' => S' = S) rfl fun e S' he hS => by
  subst hS
  unfold rE
  by_cases ho : N.ok e = true
  · rw [if_pos ho, rlx_conv (h (e, false) ⟨he, ho, fun q => by cases q⟩)]
    by_cases hx : 0 < x e
    · rw [if_pos hx]; exact rlx_conv (h (e, true) ⟨he, ho, fun _ => hx⟩)
    · rw [if_neg hx]
  · rw [if_neg ho]
theorem minB (f : Nat → Int) (B : Nat → Bool) : ∀ n, (∀ v, v < n → B v = true) ∨ ∃ m, m < n ∧ B m = false ∧ ∀ v, v < n → B v = false → f m ≤ f v := by
  intro n
  induction n with
  | zero => exact Or.inl fun v hv => absurd hv (Nat.not_lt_zero _)
  | succ n ih =>
    cases hb : B n with
    | true =>
      rcases ih with ih | ⟨m, h1, h2, h3⟩
      · refine Or.inl fun v hv => ?_
        by_cases hvn : v = n
        · rw [hvn]; exact hb
        · exact ih v (by omega)
      · refine Or.inr ⟨m, by omega, h2, fun v hv hB => ?_⟩
        by_cases hvn : v = n
        · rw [hvn, hb] at hB; cases hB
        · exact h3 v (by omega) hB
    | false =>
      rcases ih with ih | ⟨m, h1, h2, h3⟩
      · refine Or.inr ⟨n, by omega, hb, fun v hv hB => ?_⟩
        by_cases hvn : v = n
        · rw [hvn]; exact Int.le_refl _
        · rw [ih v (by omega)] at hB; cases hB
      · by_cases hlt : f n < f m
        · refine Or.inr ⟨n, by omega, hb, fun v hv hB => ?_⟩
          by_cases hvn : v = n
          · rw [hvn]; exact Int.le_refl _
          · have := h3 v (by omega) hB; omega
        · refine Or.inr ⟨m, by omega, h2, fun v hv hB => ?_⟩
          by_cases hvn : v = n
          · rw [hvn]; omega
          · exact h3 v (by omega) hB
theorem rnds_settle {N : NW} (hN : N.wf) {x π : Nat → Int} (hd : N.dual x π) (S : DP) : ∀ k, Conv N x (rnds N x S k) ∨ ∃ B, SETL N x π B (rnds N x S k) ∧ k ≤ cntN B 8 := by
  intro k
  induction k with
  | zero => exact Or.inr ⟨fun _ => false, ⟨fun a _ h => (by cases h), fun u v _ _ h => (by cases h)⟩, Nat.zero_le _⟩
  | succ k ih =>
    have e : rnds N x S (k + 1) = rnd N x (rnds N x S k) := rfl
    rw [e]
    rcases ih with ih | ⟨B, h1, h2⟩
    · exact Or.inl (by rw [rnd_conv ih]; exact ih)
    · rcases minB (fun v => (rnds N x S k).1 v - π v) B 8 with hall | ⟨m, m1, m2, m3⟩
      · have hc : Conv N x (rnds N x S k) := fun a ha => h1.1 a ha (hall _ (NW.arc hN ha).1)
        exact Or.inl (by rw [rnd_conv hc]; exact hc)
      · refine Or.inr ⟨setB B m, SETL_rnd hN hd h1 m1 m2 m3, ?_⟩
        have key : cntN B 8 + 1 ≤ cntN (setB B m) 8 := (cntN_mono (f := B) (g := setB B m) (fun p hp => by unfold setB; rw [hp]; rfl) 8).2 m m1 m2 (by unfold setB; simp)
        omega
theorem cntN_all {g : Nat → Bool} : ∀ {n : Nat}, cntN g n = n → ∀ p, p < n → g p = true := by
  intro n
  induction n with
  | zero => intro _ p hp; omega
  | succ n ih =>
    intro h p hp
    rw [cntN_s] at h
    have hle := cntN_le g n
    by_cases hg : g n = true
    · rw [if_pos hg] at h
      by_cases hpn : p = n
      · rw [hpn]; exact hg
      · exact ih (by omega) p (by omega)
    · rw [if_neg hg] at h; omega
theorem rnds_conv {N : NW} (hN : N.wf) {x π : Nat → Int} (hd : N.dual x π) (S : DP) {k : Nat} (hk : 8 ≤ k) : Conv N x (rnds N x S k) := by
  rcases rnds_settle hN hd S k with h | ⟨B, h1, h2⟩
  · exact h
  · have hle := cntN_le B 8
    have hall := cntN_all (g := B) (n := 8) (by omega)
    exact fun a ha => h1.1 a ha (hall _ (NW.arc hN ha).1)
/-- the tallies through rounds -/
theorem BFI_rE {N : NW} (hN : N.wf) {x s π : Nat → Int} (hd : N.dual x π) {t : Nat} {S : DP} (h : BFI N x s π t S) {e : Nat} (he : e < N.K) (ht : ((t + 2 : Nat) : Int) * N.W < 100000000) : BFI N x s π (t + 2) (rE N x e S) := by
  have ht1 : ((t + 1 : Nat) : Int) * N.W < 100000000 := by
    have : ((t + 1 : Nat) : Int) * N.W ≤ ((t + 2 : Nat) : Int) * N.W := Int.mul_le_mul_of_nonneg_right (by omega) hN.1
    omega
  unfold rE
  by_cases ho : N.ok e = true
  · rw [if_pos ho]
    have h1 := BFI_rlx hN hd h (a := (e, false)) ⟨he, ho, fun q => by cases q⟩ ht1
    by_cases hx : 0 < x e
    · rw [if_pos hx]
      exact BFI_rlx hN hd h1 (a := (e, true)) ⟨he, ho, fun _ => hx⟩ ht
    · rw [if_neg hx]
      exact BFI_up hN h1 (by omega)
  · rw [if_neg ho]
    exact BFI_up hN h (by omega)
theorem BFI_part {N : NW} (hN : N.wf) {x s π : Nat → Int} (hd : N.dual x π) {t : Nat} {S : DP} (h : BFI N x s π t S) : ∀ {e : Nat}, e ≤ N.K → ((t + 2 * e : Nat) : Int) * N.W < 100000000 → BFI N x s π (t + 2 * e) (itF (rE N x) S e) := by
  intro e
  induction e with
  | zero => intro _ _; exact h
  | succ e ih =>
    intro he ht
    have hle : ((t + 2 * e : Nat) : Int) * N.W ≤ ((t + 2 * (e + 1) : Nat) : Int) * N.W := Int.mul_le_mul_of_nonneg_right (by omega) hN.1
    exact BFI_rE hN hd (ih (by omega) (by omega)) (by omega) (by rw [show t + 2 * e + 2 = t + 2 * (e + 1) by omega]; exact ht)
theorem BFI_rnds {N : NW} (hN : N.wf) {x s π : Nat → Int} (hd : N.dual x π) {S : DP} (h : BFI N x s π 0 S) : ∀ k : Nat, ((2 * N.K * k : Nat) : Int) * N.W < 100000000 → BFI N x s π (2 * N.K * k) (rnds N x S k) := by
  intro k
  induction k with
  | zero => intro _; exact h
  | succ k ih =>
    intro ht
    have e : 2 * N.K * (k + 1) = 2 * N.K * k + 2 * N.K := Nat.mul_succ _ _
    have hle : ((2 * N.K * k : Nat) : Int) * N.W ≤ ((2 * N.K * (k + 1) : Nat) : Int) * N.W := Int.mul_le_mul_of_nonneg_right (by omega) hN.1
    have := BFI_part hN hd (ih (by omega)) (e := N.K) (Nat.le_refl _) (by rw [← e]; exact ht)
    rw [e]; exact this
