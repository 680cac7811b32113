/-! WAYS BACK; WHAT GOES ALONG THEM -/
def sm (f : Nat → Int) : Nat → Int := itF (fun i s => s + f i) 0
theorem sm_s (f : Nat → Int) (n : Nat) : sm f (n + 1) = sm f n + f n := rfl
theorem sm_congr {f g : Nat → Int} {n : Nat} (h : ∀ i, i < n → f i = g i) : sm f n = sm g n := itF_congr fun i hi s => by rw [h i hi]
theorem sm_zero {f : Nat → Int} {n : Nat} (h : ∀ i, i < n → f i = 0) : sm f n = 0 := by
  induction n with
  | zero => rfl
  | succ n ih => rw [sm_s, ih (fun i hi => h i (by omega)), h n (by omega)]; rfl
theorem sm_mono {f g : Nat → Int} {n : Nat} (h : ∀ i, i < n → f i ≤ g i) : sm f n ≤ sm g n := by
  induction n with
  | zero => exact Int.le_refl _
  | succ n ih =>
    rw [sm_s, sm_s]
    have := ih (fun i hi => h i (by omega))
    have := h n (by omega)
    omega
theorem sm_add (f g : Nat → Int) (n : Nat) : sm (fun i => f i + g i) n = sm f n + sm g n := by
  induction n with
  | zero => rfl
  | succ n ih => rw [sm_s, sm_s, sm_s, ih]; omega
theorem sm_one {f : Nat → Int} {n i : Nat} (h : ∀ j, j < n → 0 ≤ f j) (hi : i < n) : f i ≤ sm f n ∧ 0 ≤ sm f n := by
  induction n with
  | zero => omega
  | succ n ih =>
    rw [sm_s]
    have h0 := h n (by omega)
    have hs : 0 ≤ sm f n := by
      have := sm_mono (f := fun _ => 0) (g := f) (n := n) (fun j hj => h j (by omega))
      rw [sm_zero (fun _ _ => rfl)] at this
      exact this
    by_cases hin : i = n
    · subst hin; omega
    · have := (ih (fun j hj => h j (by omega)) (by omega)).1
      omega
theorem sm_vset (f : Nat → Int → Int) (x : Nat → Int) (i : Nat) (y : Int) (n : Nat) : sm (fun e => f e (vset x i y e)) n = sm (fun e => f e (x e)) n + if i < n then f i y - f i (x i) else 0 := by
  induction n with
  | zero => rfl
  | succ n ih =>
    rw [sm_s, sm_s, ih]
    by_cases hin : i = n
    · subst hin
      have e : vset x i y i = y := if_pos rfl
      rw [e, if_neg (by omega), if_pos (by omega)]; omega
    · have e : vset x i y n = x n := if_neg (Ne.symm hin)
      rw [e]
      have : (if i < n + 1 then f i y - f i (x i) else 0) = if i < n then f i y - f i (x i) else 0 := ifc (by omega)
      rw [this]; omega
def lsum (f : ARC → Int) : List ARC → Int
  | [] => 0
  | a :: L => f a + lsum f L
def chn (N : NW) (pr : Nat → Option ARC) : Nat → List ARC → Nat → Prop
  | v, [], u => u = v ∧ pr v = none
  | v, a :: L, u => pr v = some a ∧ chn N pr (N.tl a) L u
theorem chn_sum {N : NW} {pr : Nat → Option ARC} {f : ARC → Int} {φ : Nat → Int} (h : ∀ v a, v < 8 → pr v = some a → N.tl a < 8 ∧ f a = φ v - φ (N.tl a)) : ∀ {L : List ARC} {v u : Nat}, v < 8 → chn N pr v L u → lsum f L = φ v - φ u := by
  intro L
  induction L with
  | nil => intro v u _ hc; obtain ⟨h1, _⟩ := hc; subst h1; show (0 : Int) = _; omega
  | cons a L ih =>
    intro v u hv hc
    obtain ⟨h1, h2⟩ := hc
    obtain ⟨g1, g2⟩ := h v a hv h1
    show f a + lsum f L = _
    rw [ih g1 h2, g2]; omega
def ltB (π d : Nat → Int) (τ : Nat → Nat) (u v : Nat) : Bool := decide (d u - π u < d v - π v) || (decide (d u - π u = d v - π v) && decide (τ u < τ v))
theorem ltB_iff {π d : Nat → Int} {τ : Nat → Nat} {u v : Nat} : ltB π d τ u v = true ↔ ltR π d τ u v := by
  unfold ltB ltR
  rw [Bool.or_eq_true, Bool.and_eq_true, decide_eq_true_eq, decide_eq_true_eq, decide_eq_true_eq]
theorem ltR_tr {π d : Nat → Int} {τ : Nat → Nat} {a b c : Nat} (h1 : ltR π d τ a b) (h2 : ltR π d τ b c) : ltR π d τ a c := by
  unfold ltR at *; omega
theorem ltR_irr {π d : Nat → Int} {τ : Nat → Nat} {a : Nat} : ¬ ltR π d τ a a := by unfold ltR; omega
def lowR (π d : Nat → Int) (τ : Nat → Nat) (v : Nat) : Nat := cntN (fun u => ltB π d τ u v) 8
theorem lowR_lt {π d : Nat → Int} {τ : Nat → Nat} {u v : Nat} (hu : u < 8) (h : ltR π d τ u v) : lowR π d τ u < lowR π d τ v := by
  have := (cntN_mono (f := fun q => ltB π d τ q u) (g := fun q => ltB π d τ q v) (fun p hp => ltB_iff.mpr (ltR_tr (ltB_iff.mp hp) h)) 8).2 u hu (by
    cases hq : ltB π d τ u u with
    | false => rfl
    | true => exact absurd (ltB_iff.mp hq) ltR_irr) (ltB_iff.mpr h)
  exact this
theorem lowR_7 {π d : Nat → Int} {τ : Nat → Nat} {v : Nat} (hv : v < 8) : lowR π d τ v ≤ 7 := by
  have key := (cntN_mono (f := fun q => ltB π d τ q v) (g := fun _ => true) (fun _ _ => rfl) 8).2 v hv (by
    cases hq : ltB π d τ v v with
    | false => rfl
    | true => exact absurd (ltB_iff.mp hq) ltR_irr) rfl
  have : cntN (fun _ => true) 8 ≤ 8 := cntN_le _ 8
  unfold lowR
  omega
/-- a way back: from one who is reached to one who has too much -/
theorem chain_ex {N : NW} (hN : N.wf) {x s π : Nat → Int} {t : Nat} {S : DP} (h : BFI N x s π t S) {g : Nat} (hg : g < 8) (hr : S.1 g < 100000000) : ∃ (L : List ARC) (u : Nat), chn N S.2 g L u ∧ L.length ≤ 7 ∧ u < 8 ∧ 0 < s u ∧ S.1 u = 0 ∧ (∀ a, a ∈ L → N.res x a ∧ S.2 (N.hd a) = some a) ∧ L.Nodup := by
  obtain ⟨τ, h1, h2, h3, h4⟩ := h
  have key : ∀ k v, v < 8 → lowR π S.1 τ v = k → S.1 v < 100000000 → ∃ (L : List ARC) (u : Nat), chn N S.2 v L u ∧ L.length ≤ k ∧ u < 8 ∧ 0 < s u ∧ S.1 u = 0 ∧ (∀ a, a ∈ L → N.res x a ∧ S.2 (N.hd a) = some a) ∧ L.Nodup ∧ ∀ a, a ∈ L → N.hd a = v ∨ ltR π S.1 τ (N.hd a) v := by
    intro k
    induction k using Nat.strongRecOn with
    | ind k ih =>
      intro v hv hk hvr
      cases hp : S.2 v with
      | none =>
        have e := h1 v hv hp
        have hs : 0 < s v := by
          by_cases hs : 0 < s v
          · exact hs
          · rw [if_neg hs] at e; omega
        rw [if_pos hs] at e
        exact ⟨[], v, ⟨rfl, hp⟩, Nat.zero_le _, hv, hs, e, fun a ha => (by cases ha), List.nodup_nil, fun a ha => (by cases ha)⟩
      | some a =>
        obtain ⟨g1, g2, g3, g4, g5⟩ := h2 v a hv hp
        have ht8 := (NW.arc hN g1).1
        have hlt := lowR_lt ht8 g5
        obtain ⟨L, u, c1, c2, c3, c4, c5, c6, c7, c8⟩ := ih _ (by omega) (N.tl a) ht8 rfl g3
        refine ⟨a :: L, u, ⟨hp, c1⟩, ?_, c3, c4, c5, fun b hb => ?_, ?_, fun b hb => ?_⟩
        · rw [List.length_cons]; omega
        · rcases List.mem_cons.mp hb with hb | hb
          · subst hb; exact ⟨g1, by rw [g2]; exact hp⟩
          · exact c6 b hb
        · rw [List.nodup_cons]
          refine ⟨fun hm => ?_, c7⟩
          rcases c8 a hm with e | e
          · rw [g2] at e
            rw [← e] at g5
            exact ltR_irr g5
          · rw [g2] at e
            exact ltR_irr (ltR_tr e g5)
        · rcases List.mem_cons.mp hb with hb | hb
          · subst hb; exact Or.inl g2
          · rcases c8 b hb with e | e
            · exact Or.inr (by rw [e]; exact g5)
            · exact Or.inr (ltR_tr e g5)
  obtain ⟨L, u, c1, c2, c3, c4, c5, c6, c7, _⟩ := key _ g hg rfl hr
  have := lowR_7 (π := π) (d := S.1) (τ := τ) hg
  exact ⟨L, u, c1, by omega, c3, c4, c5, c6, c7⟩
/-! what goes along -/
def aug (n : Int) : List ARC → (Nat → Int) → Nat → Int
  | [], x => x
  | a :: L, x => aug n L (vset x a.1 (x a.1 + if a.2 = true then -n else n))
theorem aug_sum {K : Nat} (n : Int) (c : Nat → Int) : ∀ (L : List ARC) (x : Nat → Int), (∀ a, a ∈ L → a.1 < K) → sm (fun e => aug n L x e * c e) K = sm (fun e => x e * c e) K + n * lsum (fun a => if a.2 = true then -c a.1 else c a.1) L := by
  intro L
  induction L with
  | nil => intro x _; show sm (fun e => x e * c e) K = _; unfold lsum; omega
  | cons a L ih =>
    intro x h
    have ha := h a List.mem_cons_self
    show sm (fun e => aug n L (vset x a.1 (x a.1 + if a.2 = true then -n else n)) e * c e) K = _
    rw [ih _ (fun b hb => h b (List.mem_cons_of_mem _ hb)), sm_vset (fun e y => y * c e), if_pos ha]
    have e : lsum (fun a => if a.2 = true then -c a.1 else c a.1) (a :: L) = (if a.2 = true then -c a.1 else c a.1) + lsum (fun a => if a.2 = true then -c a.1 else c a.1) L := rfl
    rw [e]
    split <;> grind
theorem aug_lo {n : Int} (hn : 0 ≤ n) (e : Nat) : ∀ (L : List ARC) (x : Nat → Int), L.Nodup → x e - (if (e, true) ∈ L then n else 0) ≤ aug n L x e ∧ aug n L x e ≤ x e + (if (e, false) ∈ L then n else 0) := by
  intro L
  induction L with
  | nil => intro x _; simp [aug]
  | cons a L ih =>
    intro x hL
    rw [List.nodup_cons] at hL
    have h := ih (vset x a.1 (x a.1 + if a.2 = true then -n else n)) hL.2
    have e1 : aug n (a :: L) x e = aug n L (vset x a.1 (x a.1 + if a.2 = true then -n else n)) e := rfl
    rw [e1]
    obtain ⟨i, b⟩ := a
    dsimp only at h ⊢
    generalize aug n L (vset x i (x i + if b = true then -n else n)) e = A at h ⊢
    by_cases hie : e = i
    · subst hie
      have ev : vset x e (x e + if b = true then -n else n) e = x e + if b = true then -n else n := if_pos rfl
      rw [ev] at h
      cases b with
      | true =>
        rw [if_neg hL.1] at h
        have m2 : ((e, false) ∈ (e, true) :: L) ↔ (e, false) ∈ L := by simp
        rw [if_pos List.mem_cons_self, ifc m2]
        rw [if_pos rfl] at h
        constructor
        · omega
        · split at h <;> split <;> first | omega | contradiction
      | false =>
        rw [if_neg hL.1] at h
        have m2 : ((e, true) ∈ (e, false) :: L) ↔ (e, true) ∈ L := by simp
        rw [if_pos List.mem_cons_self, ifc m2]
        rw [if_neg (by decide)] at h
        constructor
        · split at h <;> split <;> first | omega | contradiction
        · omega
    · have ev : vset x i (x i + if b = true then -n else n) e = x e := if_neg hie
      rw [ev] at h
      have m1 : ((e, true) ∈ (i, b) :: L) ↔ (e, true) ∈ L := by simp [hie]
      have m2 : ((e, false) ∈ (i, b) :: L) ↔ (e, false) ∈ L := by simp [hie]
      rw [ifc m1, ifc m2]; exact h
theorem aug_out {n : Int} {e : Nat} : ∀ (L : List ARC) (x : Nat → Int), (∀ a, a ∈ L → a.1 ≠ e) → aug n L x e = x e := by
  intro L
  induction L with
  | nil => intro x _; rfl
  | cons a L ih =>
    intro x h
    show aug n L (vset x a.1 (x a.1 + if a.2 = true then -n else n)) e = x e
    rw [ih _ (fun b hb => h b (List.mem_cons_of_mem _ hb))]
    exact if_neg (Ne.symm (h a List.mem_cons_self))
/-! what is kept from way to way -/
def FINV (N : NW) (s0 x s : Nat → Int) (cost : Int) : Prop := (∀ e, e < N.K → 0 ≤ x e) ∧ (∀ e, e < N.K → N.ok e = false → x e = 0) ∧
  (∀ φ : Nat → Int, sm (fun p => s p * φ p) 8 = sm (fun p => s0 p * φ p) 8 + sm (fun e => x e * (φ (N.to e) - φ (N.fr e))) N.K) ∧ (∃ π, N.dual x π) ∧ cost = sm (fun e => x e * N.w e) N.K
theorem FINV_0 {N : NW} (hN : N.wf) (s0 : Nat → Int) : FINV N s0 (fun _ => 0) s0 0 := by
  refine ⟨fun _ _ => Int.le_refl _, fun _ _ _ => rfl, fun φ => ?_, ⟨fun _ => 0, fun e he ho => ⟨?_, fun h => absurd h (Int.lt_irrefl 0)⟩⟩, ?_⟩
  · rw [sm_zero (f := fun e => 0 * (φ (N.to e) - φ (N.fr e))) (fun i _ => by simp)]; omega
  · have := hN.2 e he ho; dsimp only; omega
  · rw [sm_zero (f := fun e => 0 * N.w e) (fun i _ => by simp)]
theorem FINV_step {N : NW} (hN : N.wf) {s0 x s π : Nat → Int} {cost : Int} (h : FINV N s0 x s cost) (hd : N.dual x π) {t : Nat} {S : DP} (hB : BFI N x s π t S) (hC : Conv N x S) {g u : Nat} {L : List ARC} (hg : g < 8) (hsg : s g < 0) (hc : chn N S.2 g L u) (hu : u < 8) (hsu : 0 < s u) (hdu : S.1 u = 0)
    (hL : ∀ a, a ∈ L → N.res x a ∧ S.2 (N.hd a) = some a) (hnd : L.Nodup) {n : Int} (hn : 0 ≤ n) (hb : ∀ a, a ∈ L → a.2 = true → n ≤ x a.1) (htW : ((t + 1 : Nat) : Int) * N.W < 100000000) :
    FINV N s0 (aug n L x) (vset (vset s u (s u - n)) g (s g + n)) (cost + n * S.1 g) := by
  obtain ⟨f1, f2, f3, f4, f5⟩ := h
  have hB' := hB
  obtain ⟨τ, b1, b2, b3, b4⟩ := hB'
  have hgu : g ≠ u := fun e => by subst e; omega
  have tight : ∀ v a, v < 8 → S.2 v = some a → N.tl a < 8 ∧ N.hd a = v ∧ N.ct a = S.1 v - S.1 (N.tl a) := fun v a hv ha => by
    obtain ⟨g1, g2, g3, g4, _⟩ := b2 v a hv ha
    have := hC a g1 g3
    rw [g2] at this
    exact ⟨(NW.arc hN g1).1, g2, by omega⟩
  have hK : ∀ a, a ∈ L → a.1 < N.K := fun a ha => (hL a ha).1.1
  have lo := fun e => aug_lo hn e L x hnd
  refine ⟨fun e he => ?_, fun e he ho => ?_, fun φ => ?_, ?_, ?_⟩
  · have h1 := (lo e).1
    have h2 := f1 e he
    by_cases hm : (e, true) ∈ L
    · rw [if_pos hm] at h1
      have := hb (e, true) hm rfl
      dsimp only at this
      omega
    · rw [if_neg hm] at h1; omega
  · rw [aug_out L x (fun a ha e' => by
      have := (hL a ha).1.2.1
      rw [e', ho] at this
      cases this)]
    exact f2 e he ho
  · have e1 : sm (fun e => aug n L x e * (φ (N.to e) - φ (N.fr e))) N.K = sm (fun e => x e * (φ (N.to e) - φ (N.fr e))) N.K + n * (φ g - φ u) := by
      rw [aug_sum n (fun e => φ (N.to e) - φ (N.fr e)) L x hK]
      have e2 : lsum (fun a => if a.2 = true then -(φ (N.to a.1) - φ (N.fr a.1)) else φ (N.to a.1) - φ (N.fr a.1)) L = φ g - φ u := chn_sum (pr := S.2) (N := N) (fun v a hv ha => by
        obtain ⟨q1, q2, _⟩ := tight v a hv ha
        refine ⟨q1, ?_⟩
        rw [← q2]
        unfold NW.hd NW.tl
        split <;> omega) hg hc
      rw [e2]
    rw [e1, sm_vset (fun p y => y * φ p), sm_vset (fun p y => y * φ p), if_pos hg, if_pos hu, f3 φ]
    have e3 : vset s u (s u - n) g = s g := if_neg hgu
    rw [e3]
    grind
  · refine ⟨fun v => if S.1 v < 100000000 then S.1 v else π v + (100000000 + sm (fun q => ((π q).natAbs : Int)) 8), fun e he ho => ?_⟩
    obtain ⟨w1, w2, w3, w4⟩ := hN.2 e he ho
    have d1 := (hd e he ho).1
    have d2 := (hd e he ho).2
    have fwd := hC (e, false) ⟨he, ho, fun q => by cases q⟩
    have eF1 : N.tl (e, false) = N.fr e := rfl
    have eF2 : N.hd (e, false) = N.to e := rfl
    have eF3 : N.ct (e, false) = N.w e := rfl
    unfold rlxd at fwd
    rw [eF1, eF2, eF3] at fwd
    have p1 := (sm_one (f := fun q => ((π q).natAbs : Int)) (n := 8) (i := N.fr e) (fun _ _ => by omega) w1).1
    dsimp only at p1 ⊢
    have b3f := b3 (N.fr e) w1
    have b3t := b3 (N.to e) w2
    rw [show ((t + 1 : Nat) : Int) = (t : Int) + 1 by omega, Int.add_mul, Int.one_mul] at htW
    constructor
    · by_cases hf : S.1 (N.fr e) < 100000000
      · rw [if_pos hf]
        have := fwd hf
        by_cases ht : S.1 (N.to e) < 100000000
        · rw [if_pos ht]; exact this
        · exfalso; omega
      · rw [if_neg hf]
        by_cases ht : S.1 (N.to e) < 100000000
        · rw [if_pos ht]; omega
        · rw [if_neg ht]; omega
    · intro hx
      by_cases hx0 : 0 < x e
      · have bwd := hC (e, true) ⟨he, ho, fun _ => hx0⟩
        have eB1 : N.tl (e, true) = N.to e := rfl
        have eB2 : N.hd (e, true) = N.fr e := rfl
        have eB3 : N.ct (e, true) = -N.w e := rfl
        unfold rlxd at bwd
        rw [eB1, eB2, eB3] at bwd
        have d3 := d2 hx0
        by_cases hf : S.1 (N.fr e) < 100000000
        · rw [if_pos hf]
          by_cases ht : S.1 (N.to e) < 100000000
          · rw [if_pos ht]
            have := bwd ht; omega
          · rw [if_neg ht]
            have := fwd hf
            omega
        · rw [if_neg hf]
          by_cases ht : S.1 (N.to e) < 100000000
          · exfalso
            have := bwd ht
            omega
          · rw [if_neg ht]; omega
      · have h2 := (lo e).2
        by_cases hm : (e, false) ∈ L
        · have q1 := (hL (e, false) hm).2
          rw [eF2] at q1
          obtain ⟨q2, q3, q4⟩ := tight _ _ w2 q1
          obtain ⟨_, _, q5, _, _⟩ := b2 _ _ w2 q1
          rw [eF1] at q4 q5
          rw [eF3] at q4
          have := fwd q5
          rw [if_pos q5]
          by_cases ht : S.1 (N.to e) < 100000000
          · rw [if_pos ht]; omega
          · exfalso; omega
        · rw [if_neg hm] at h2; omega
  · rw [f5, aug_sum n (fun e => N.w e) L x hK]
    have e2 : lsum (fun a => if a.2 = true then -N.w a.1 else N.w a.1) L = S.1 g - S.1 u := chn_sum (pr := S.2) (N := N) (fun v a hv ha => by
      obtain ⟨q1, q2, q3⟩ := tight v a hv ha
      refine ⟨q1, ?_⟩
      rw [← q3]
      unfold NW.ct
      rfl) hg hc
    rw [e2, hdu]
    grind
