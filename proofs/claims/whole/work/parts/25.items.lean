/-! ALL GIFTS BY WHICH FACES CAN BE SO: as lists, in two orders -/
abbrev IT : Type := List Int × (Nat → Int)
/-- years go: from who gives to who takes, by the FRIENDS f -/
def shG (T : TW) (g : Nat → Int) (f : Nat) (d : Int) : Nat → Int := fun p => if p = (T 5 f).toNat then g p - d else if p = (T 6 f).toNat then g p + d else g p
def itSng (T : TW) (f y : Nat) : IT := ([(f : Int), (y : Int) + 1], shG T (T 1) f ((y : Int) + 1))
def itPair (T : TW) (f y f2 y2 : Nat) : IT := ([(f : Int), (y : Int) + 1, (f2 : Int), (y2 : Int) + 1], shG T (shG T (T 1) f ((y : Int) + 1)) f2 ((y2 : Int) + 1))
def itPs (T : TW) (f y f2 : Nat) : List IT := (List.range 9).map (itPair T f y f2)
def itB2 (T : TW) (nf f y : Nat) : List IT := (List.range (nf - (f + 1))).flatMap fun d => itPs T f y (f + 1 + d)
def itBY (T : TW) (nf f : Nat) : List IT := (List.range 9).flatMap fun y => itSng T f y :: itB2 T nf f y
def itNone (T : TW) : IT := ([], T 1)
def itC (T : TW) (nf : Nat) : List IT := itNone T :: (List.range nf).flatMap (itBY T nf)
def itS (T : TW) (nf : Nat) : List IT := (List.range nf).flatMap fun f => (List.range 9).map (itSng T f)
def itP (T : TW) (nf : Nat) : List IT := (List.range nf).flatMap fun f => (List.range 9).flatMap fun y => itB2 T nf f y
def itM (T : TW) (nf : Nat) : List IT := itNone T :: (itS T nf ++ itP T nf)
theorem fm_congr {α β : Type} {l : List α} {f g : α → List β} (h : ∀ x, x ∈ l → f x = g x) : l.flatMap f = l.flatMap g := by
  induction l with
  | nil => rfl
  | cons a l ih =>
    rw [List.flatMap_cons, List.flatMap_cons, h a List.mem_cons_self, ih (fun x hx => h x (List.mem_cons_of_mem _ hx))]
theorem itB2_len {T : TW} {nf f y : Nat} {x : IT} (h : x ∈ itB2 T nf f y) : x.1.length = 4 := by
  unfold itB2 itPs at h
  rw [List.mem_flatMap] at h
  obtain ⟨d, -, h⟩ := h
  rw [List.mem_map] at h
  obtain ⟨z, -, rfl⟩ := h
  rfl
theorem filt_kill {q : IT → Bool} {l : List IT} (h : ∀ x, x ∈ l → q x = false) : l.filter q = [] := by
  rw [List.filter_eq_nil_iff]
  intro x hx
  rw [h x hx]; simp
theorem filt_noP (T : TW) (nf : Nat) (q : IT → Bool) (hq : ∀ x : IT, x.1.length = 4 → q x = false) : (itC T nf).filter q = (itM T nf).filter q := by
  have hB : ∀ f y, (itB2 T nf f y).filter q = [] := fun f y => filt_kill (fun x hx => hq x (itB2_len hx))
  have h1 : ((List.range nf).flatMap (itBY T nf)).filter q = (itS T nf ++ itP T nf).filter q := by
    rw [List.filter_append]
    have e : (itP T nf).filter q = [] := by
      unfold itP
      rw [List.filter_flatMap, List.flatMap_eq_nil_iff]
      intro f _
      rw [List.filter_flatMap, List.flatMap_eq_nil_iff]
      intro y _
      exact hB f y
    rw [e, List.append_nil]
    unfold itS
    rw [List.filter_flatMap, List.filter_flatMap]
    refine fm_congr (fun f _ => ?_)
    unfold itBY
    rw [List.filter_flatMap, List.map_eq_flatMap, List.filter_flatMap]
    refine fm_congr (fun y _ => ?_)
    rw [List.filter_cons, List.filter_cons, hB]
    rfl
  unfold itC itM
  rw [List.filter_cons, List.filter_cons, h1]
theorem filt_noS (T : TW) (nf : Nat) (q : IT → Bool) (hq : ∀ x : IT, x.1.length = 2 → q x = false) : (itC T nf).filter q = (itM T nf).filter q := by
  have h1 : ((List.range nf).flatMap (itBY T nf)).filter q = (itS T nf ++ itP T nf).filter q := by
    rw [List.filter_append]
    have e : (itS T nf).filter q = [] := by
      unfold itS
      refine filt_kill (fun x hx => ?_)
      rw [List.mem_flatMap] at hx
      obtain ⟨f, -, hx⟩ := hx
      rw [List.mem_map] at hx
      obtain ⟨y, -, rfl⟩ := hx
      exact hq _ rfl
    rw [e, List.nil_append]
    unfold itP
    rw [List.filter_flatMap, List.filter_flatMap]
    refine fm_congr (fun f _ => ?_)
    unfold itBY
    rw [List.filter_flatMap, List.filter_flatMap]
    refine fm_congr (fun y _ => ?_)
    rw [List.filter_cons, hq (itSng T f y) rfl]
    rfl
  unfold itC itM
  rw [List.filter_cons, List.filter_cons, h1]
def is4 (x : IT) : Bool := decide (x.1.length = 4)
theorem it_mem (T : TW) (nf : Nat) (x : IT) : x ∈ itC T nf ↔ x ∈ itM T nf := by
  by_cases h : x.1.length = 4
  · have e := filt_noS T nf is4 (fun y hy => by unfold is4; rw [hy]; rfl)
    have h1 : x ∈ itC T nf ↔ x ∈ (itC T nf).filter is4 := by rw [List.mem_filter]; simp [is4, h]
    have h2 : x ∈ itM T nf ↔ x ∈ (itM T nf).filter is4 := by rw [List.mem_filter]; simp [is4, h]
    rw [h1, h2, e]
  · have e := filt_noP T nf (fun y => !is4 y) (fun y hy => by unfold is4; rw [hy]; rfl)
    have h1 : x ∈ itC T nf ↔ x ∈ (itC T nf).filter (fun y => !is4 y) := by rw [List.mem_filter]; simp [is4, h]
    have h2 : x ∈ itM T nf ↔ x ∈ (itM T nf).filter (fun y => !is4 y) := by rw [List.mem_filter]; simp [is4, h]
    rw [h1, h2, e]
theorem it_count (T : TW) (nf : Nat) (g : IT → Bool) : (itC T nf).countP g = (itM T nf).countP g := by
  rw [List.countP_eq_countP_filter_add (itC T nf) g is4, List.countP_eq_countP_filter_add (itM T nf) g is4]
  have e1 := filt_noS T nf is4 (fun y hy => by unfold is4; rw [hy]; rfl)
  have e2 := filt_noP T nf (fun y => !is4 y) (fun y hy => by unfold is4; rw [hy]; rfl)
  rw [e1]
  congr 1
  congr 1
/-- how the first side notes them -/
abbrev NS : Type := Nat × List Int × Int × Bool
def nst (good : IT → Bool) (age : IT → Int) (s : NS) (x : IT) : NS := if good x = true then (s.1 + 1, if s.1 = 0 ∨ x.1.length < s.2.1.length then x.1 else s.2.1, age x, s.2.2.2 || (decide (s.1 ≠ 0) && decide (age x ≠ s.2.2.1))) else s
def mst (good : IT → Bool) (age : IT → Int) (s : NS) (x : IT) : NS := if good x = true then (s.1 + 1, if s.1 = 0 then x.1 else s.2.1, if s.1 = 0 then age x else s.2.2.1, s.2.2.2 || decide (age x ≠ if s.1 = 0 then age x else s.2.2.1)) else s
def ns0 : NS := (0, [], 0, false)
/-- the first of the shortest -/
def fmin (good : IT → Bool) (P : List IT) (g : List Int) : Prop := (∃ x, (P.filter fun y => good y && decide (y.1.length = g.length)).head? = some x ∧ x.1 = g) ∧ ∀ x, x ∈ P → good x = true → g.length ≤ x.1.length
def agesI (good : IT → Bool) (age : IT → Int) (P : List IT) (s : NS) : Prop := s.1 ≠ 0 → (∃ x, x ∈ P ∧ good x = true ∧ age x = s.2.2.1) ∧ (s.2.2.2 = false → ∀ x, x ∈ P → good x = true → age x = s.2.2.1) ∧ (s.2.2.2 = true → ∃ x y, (x ∈ P ∧ good x = true) ∧ (y ∈ P ∧ good y = true) ∧ age x ≠ age y)
def invN (good : IT → Bool) (age : IT → Int) (P : List IT) (s : NS) : Prop := s.1 = P.countP good ∧ (s.1 = 0 → s.2.1 = [] ∧ s.2.2.2 = false) ∧ (s.1 ≠ 0 → fmin good P s.2.1) ∧ agesI good age P s
theorem count0 {good : IT → Bool} {P : List IT} (h : P.countP good = 0) : ∀ x, x ∈ P → good x = false := by
  intro x hx
  have := List.countP_eq_zero.mp h x hx
  simpa using this
theorem invN_step {good : IT → Bool} {age : IT → Int} {P : List IT} {s : NS} (h : invN good age P s) (x : IT) : invN good age (P ++ [x]) (nst good age s x) := by
  obtain ⟨h1, h2, h3, h4⟩ := h
  unfold nst
  by_cases hg : good x = true
  · rw [if_pos hg]
    refine ⟨?_, fun q => by dsimp only at q; omega, fun _ => ?_, fun _ => ?_⟩
    · dsimp only
      rw [List.countP_append, h1]; simp [List.countP_cons, hg]
    · dsimp only
      by_cases hs : s.1 = 0
      · rw [if_pos (Or.inl hs)]
        rw [hs] at h1
        have hn := count0 h1.symm
        refine ⟨⟨x, ?_, rfl⟩, fun y hy hgy => ?_⟩
        · rw [List.filter_append, filt_kill (l := P) (fun y hy => by rw [hn y hy]; rfl)]
          simp [List.filter_cons, hg]
        · rcases List.mem_append.mp hy with hy | hy
          · rw [hn y hy] at hgy; cases hgy
          · rw [List.mem_singleton.mp hy]; exact Nat.le_refl _
      · obtain ⟨⟨z, hz1, hz2⟩, hz3⟩ := h3 hs
        by_cases hlt : x.1.length < s.2.1.length
        · rw [if_pos (Or.inr hlt)]
          refine ⟨⟨x, ?_, rfl⟩, fun y hy hgy => ?_⟩
          · rw [List.filter_append, filt_kill (l := P) (fun y hy => by
              cases hgy : good y with
              | false => rfl
              | true =>
                have := hz3 y hy hgy
                rw [Bool.true_and, decide_eq_false_iff_not]
                omega)]
            simp [List.filter_cons, hg]
          · rcases List.mem_append.mp hy with hy | hy
            · have := hz3 y hy hgy; omega
            · rw [List.mem_singleton.mp hy]; exact Nat.le_refl _
        · rw [if_neg (fun q => q.elim hs hlt)]
          refine ⟨⟨z, ?_, hz2⟩, fun y hy hgy => ?_⟩
          · rw [List.filter_append, List.head?_append, hz1]; rfl
          · rcases List.mem_append.mp hy with hy | hy
            · exact hz3 y hy hgy
            · rw [List.mem_singleton.mp hy]; omega
    · dsimp only
      have hx : x ∈ P ++ [x] := List.mem_append_right _ List.mem_cons_self
      by_cases hs : s.1 = 0
      · rw [hs] at h1
        have hn := count0 h1.symm
        have hb := (h2 hs).2
        refine ⟨⟨x, hx, hg, rfl⟩, fun _ y hy hgy => ?_, fun q => ?_⟩
        · rcases List.mem_append.mp hy with hy | hy
          · rw [hn y hy] at hgy; cases hgy
          · rw [List.mem_singleton.mp hy]
        · rw [hb, hs] at q; simp at q
      · obtain ⟨⟨w, hw1, hw2, hw3⟩, g2, g3⟩ := h4 hs
        refine ⟨⟨x, hx, hg, rfl⟩, fun q y hy hgy => ?_, fun q => ?_⟩
        · rw [Bool.or_eq_false_iff] at q
          obtain ⟨q1, q2⟩ := q
          have hq : age x = s.2.2.1 := by simpa [hs] using q2
          rcases List.mem_append.mp hy with hy | hy
          · rw [g2 q1 y hy hgy, hq]
          · rw [List.mem_singleton.mp hy]
        · rw [Bool.or_eq_true] at q
          rcases q with q | q
          · obtain ⟨a, b, ⟨a1, a2⟩, ⟨b1, b2⟩, hab⟩ := g3 q
            exact ⟨a, b, ⟨List.mem_append_left _ a1, a2⟩, ⟨List.mem_append_left _ b1, b2⟩, hab⟩
          · have hq : age x ≠ s.2.2.1 := by simpa [hs] using q
            exact ⟨x, w, ⟨hx, hg⟩, ⟨List.mem_append_left _ hw1, hw2⟩, fun e => hq (by rw [e, hw3])⟩
  · rw [if_neg hg]
    have hgf : good x = false := by simpa using hg
    refine ⟨?_, h2, fun hs => ?_, fun hs => ?_⟩
    · rw [List.countP_append, h1]; simp [List.countP_cons, hgf]
    · obtain ⟨⟨z, hz1, hz2⟩, hz3⟩ := h3 hs
      refine ⟨⟨z, ?_, hz2⟩, fun y hy hgy => ?_⟩
      · rw [List.filter_append, List.head?_append, hz1]; rfl
      · rcases List.mem_append.mp hy with hy | hy
        · exact hz3 y hy hgy
        · rw [List.mem_singleton.mp hy, hgf] at hgy; cases hgy
    · obtain ⟨⟨w, hw1, hw2, hw3⟩, g2, g3⟩ := h4 hs
      refine ⟨⟨w, List.mem_append_left _ hw1, hw2, hw3⟩, fun q y hy hgy => ?_, fun q => ?_⟩
      · rcases List.mem_append.mp hy with hy | hy
        · exact g2 q y hy hgy
        · rw [List.mem_singleton.mp hy, hgf] at hgy; cases hgy
      · obtain ⟨a, b, ⟨a1, a2⟩, ⟨b1, b2⟩, hab⟩ := g3 q
        exact ⟨a, b, ⟨List.mem_append_left _ a1, a2⟩, ⟨List.mem_append_left _ b1, b2⟩, hab⟩
theorem invN_fold {good : IT → Bool} {age : IT → Int} : ∀ {L P : List IT} {s : NS}, invN good age P s → invN good age (P ++ L) (L.foldl (nst good age) s) := by
  intro L
  induction L with
  | nil => intro P s h; rw [List.append_nil]; exact h
  | cons x L ih =>
    intro P s h
    have := ih (invN_step h x)
    rwa [List.append_assoc] at this
/-- the second side: what is first is shortest, where the list goes by length -/
def invM (good : IT → Bool) (age : IT → Int) (P : List IT) (s : NS) : Prop := s.1 = P.countP good ∧ (s.1 = 0 → s.2.1 = [] ∧ s.2.2.2 = false) ∧ (s.1 ≠ 0 → ∃ x, (P.filter good).head? = some x ∧ x.1 = s.2.1) ∧ agesI good age P s
theorem invM_step {good : IT → Bool} {age : IT → Int} {P : List IT} {s : NS} (h : invM good age P s) (x : IT) : invM good age (P ++ [x]) (mst good age s x) := by
  obtain ⟨h1, h2, h3, h4⟩ := h
  unfold mst
  by_cases hg : good x = true
  · rw [if_pos hg]
    have hx : x ∈ P ++ [x] := List.mem_append_right _ List.mem_cons_self
    refine ⟨?_, fun q => by dsimp only at q; omega, fun _ => ?_, fun _ => ?_⟩
    · dsimp only
      rw [List.countP_append, h1]; simp [List.countP_cons, hg]
    · dsimp only
      by_cases hs : s.1 = 0
      · rw [if_pos hs]
        rw [hs] at h1
        have hn := count0 h1.symm
        refine ⟨x, ?_, rfl⟩
        rw [List.filter_append, filt_kill (l := P) (fun y hy => hn y hy)]
        simp [List.filter_cons, hg]
      · rw [if_neg hs]
        obtain ⟨z, hz1, hz2⟩ := h3 hs
        refine ⟨z, ?_, hz2⟩
        rw [List.filter_append, List.head?_append, hz1]; rfl
    · dsimp only
      by_cases hs : s.1 = 0
      · rw [hs] at h1
        have hn := count0 h1.symm
        have hb := (h2 hs).2
        rw [if_pos hs]
        refine ⟨⟨x, hx, hg, rfl⟩, fun _ y hy hgy => ?_, fun q => ?_⟩
        · rcases List.mem_append.mp hy with hy | hy
          · rw [hn y hy] at hgy; cases hgy
          · rw [List.mem_singleton.mp hy]
        · rw [hb] at q; simp at q
      · rw [if_neg hs]
        obtain ⟨⟨w, hw1, hw2, hw3⟩, g2, g3⟩ := h4 hs
        refine ⟨⟨w, List.mem_append_left _ hw1, hw2, hw3⟩, fun q y hy hgy => ?_, fun q => ?_⟩
        · rw [Bool.or_eq_false_iff] at q
          obtain ⟨q1, q2⟩ := q
          have hq : age x = s.2.2.1 := by simpa using q2
          rcases List.mem_append.mp hy with hy | hy
          · exact g2 q1 y hy hgy
          · rw [List.mem_singleton.mp hy]; exact hq
        · rw [Bool.or_eq_true] at q
          rcases q with q | q
          · obtain ⟨a, b, ⟨a1, a2⟩, ⟨b1, b2⟩, hab⟩ := g3 q
            exact ⟨a, b, ⟨List.mem_append_left _ a1, a2⟩, ⟨List.mem_append_left _ b1, b2⟩, hab⟩
          · have hq : age x ≠ s.2.2.1 := by simpa using q
            exact ⟨x, w, ⟨hx, hg⟩, ⟨List.mem_append_left _ hw1, hw2⟩, fun e => hq (by rw [e, hw3])⟩
  · rw [if_neg hg]
    have hgf : good x = false := by simpa using hg
    refine ⟨?_, h2, fun hs => ?_, fun hs => ?_⟩
    · rw [List.countP_append, h1]; simp [List.countP_cons, hgf]
    · obtain ⟨z, hz1, hz2⟩ := h3 hs
      refine ⟨z, ?_, hz2⟩
      rw [List.filter_append, List.head?_append, hz1]; rfl
    · obtain ⟨⟨w, hw1, hw2, hw3⟩, g2, g3⟩ := h4 hs
      refine ⟨⟨w, List.mem_append_left _ hw1, hw2, hw3⟩, fun q y hy hgy => ?_, fun q => ?_⟩
      · rcases List.mem_append.mp hy with hy | hy
        · exact g2 q y hy hgy
        · rw [List.mem_singleton.mp hy, hgf] at hgy; cases hgy
      · obtain ⟨a, b, ⟨a1, a2⟩, ⟨b1, b2⟩, hab⟩ := g3 q
        exact ⟨a, b, ⟨List.mem_append_left _ a1, a2⟩, ⟨List.mem_append_left _ b1, b2⟩, hab⟩
theorem invM_fold {good : IT → Bool} {age : IT → Int} : ∀ {L P : List IT} {s : NS}, invM good age P s → invM good age (P ++ L) (L.foldl (mst good age) s) := by
  intro L
  induction L with
  | nil => intro P s h; rw [List.append_nil]; exact h
  | cons x L ih =>
    intro P s h
    have := ih (invM_step h x)
    rwa [List.append_assoc] at this
theorem inv0N (good : IT → Bool) (age : IT → Int) : invN good age [] ns0 := ⟨rfl, fun _ => ⟨rfl, rfl⟩, fun h => absurd rfl h, fun h => absurd rfl h⟩
theorem inv0M (good : IT → Bool) (age : IT → Int) : invM good age [] ns0 := ⟨rfl, fun _ => ⟨rfl, rfl⟩, fun h => absurd rfl h, fun h => absurd rfl h⟩
def endC (T : TW) (nf : Nat) (good : IT → Bool) (age : IT → Int) : NS := (itC T nf).foldl (nst good age) ns0
def endM (T : TW) (nf : Nat) (good : IT → Bool) (age : IT → Int) : NS := (itM T nf).foldl (mst good age) ns0
/-- the first good one of the second list is of the least length -/
theorem itM_min {T : TW} {nf : Nat} {good : IT → Bool} {x : IT} (h : ((itM T nf).filter good).head? = some x) : (∀ y, y ∈ itM T nf → good y = true → x.1.length ≤ y.1.length) ∧ ((itM T nf).filter fun y => good y && decide (y.1.length = x.1.length)).head? = some x := by
  have hS : ∀ y, y ∈ itS T nf → y.1.length = 2 := by
    intro y hy
    unfold itS at hy
    rw [List.mem_flatMap] at hy
    obtain ⟨f, -, hy⟩ := hy
    rw [List.mem_map] at hy
    obtain ⟨z, -, rfl⟩ := hy
    rfl
  have hP : ∀ y, y ∈ itP T nf → y.1.length = 4 := by
    intro y hy
    unfold itP at hy
    rw [List.mem_flatMap] at hy
    obtain ⟨f, -, hy⟩ := hy
    rw [List.mem_flatMap] at hy
    obtain ⟨z, -, hy⟩ := hy
    exact itB2_len hy
  unfold itM at h ⊢
  rw [List.filter_cons] at h
  by_cases h0 : good (itNone T) = true
  · rw [if_pos h0] at h
    have hx : itNone T = x := by simpa using h
    subst hx
    refine ⟨fun y _ _ => Nat.zero_le _, ?_⟩
    rw [List.filter_cons, if_pos (by rw [h0]; rfl)]
    rfl
  · rw [if_neg h0, List.filter_append] at h
    have h0f : good (itNone T) = false := by simpa using h0
    by_cases hs : (itS T nf).filter good = []
    · rw [hs, List.nil_append] at h
      have hxm : x ∈ (itP T nf).filter good := List.mem_of_head? h
      have hx4 := hP x (List.mem_filter.mp hxm).1
      have hsn := List.filter_eq_nil_iff.mp hs
      refine ⟨fun y hy hgy => ?_, ?_⟩
      · rcases List.mem_cons.mp hy with rfl | hy
        · rw [h0f] at hgy; cases hgy
        · rcases List.mem_append.mp hy with hy | hy
          · exact absurd hgy (hsn y hy)
          · rw [hx4, hP y hy]; exact Nat.le_refl _
      · rw [List.filter_cons, if_neg (by rw [h0f]; simp), List.filter_append, filt_kill (l := itS T nf) (fun y hy => by
          have := hsn y hy
          simp at this
          rw [this]; rfl), List.nil_append]
        have e : (itP T nf).filter (fun y => good y && decide (y.1.length = x.1.length)) = (itP T nf).filter good := by
          apply List.filter_congr
          intro y hy
          rw [hP y hy, hx4]; simp
        rw [e]; exact h
    · obtain ⟨z, hz⟩ : ∃ z, ((itS T nf).filter good).head? = some z := by
        cases hq : (itS T nf).filter good with
        | nil => exact absurd hq hs
        | cons a l => exact ⟨a, rfl⟩
      rw [List.head?_append, hz] at h
      have hzx : z = x := by simpa using h
      subst hzx
      have hzm : z ∈ (itS T nf).filter good := List.mem_of_head? hz
      have hz2 := hS z (List.mem_filter.mp hzm).1
      refine ⟨fun y hy hgy => ?_, ?_⟩
      · rcases List.mem_cons.mp hy with rfl | hy
        · rw [h0f] at hgy; cases hgy
        · rcases List.mem_append.mp hy with hy | hy
          · rw [hz2, hS y hy]; exact Nat.le_refl _
          · rw [hz2, hP y hy]; omega
      · rw [List.filter_cons, if_neg (by rw [h0f]; simp), List.filter_append, List.head?_append]
        have e : (itS T nf).filter (fun y => good y && decide (y.1.length = z.1.length)) = (itS T nf).filter good := by
          apply List.filter_congr
          intro y hy
          rw [hS y hy, hz2]; simp
        rw [e, hz]; rfl
/-- both orders come to the same -/
theorem ends_same (T : TW) (nf : Nat) (good : IT → Bool) (age : IT → Int) : (endC T nf good age).1 = (endM T nf good age).1 ∧ (endC T nf good age).2.1 = (endM T nf good age).2.1 ∧ ((endC T nf good age).1 ≠ 0 → (endC T nf good age).2.2.2 = (endM T nf good age).2.2.2 ∧ ((endC T nf good age).2.2.2 = false → (endC T nf good age).2.2.1 = (endM T nf good age).2.2.1)) := by
  have hC : invN good age (itC T nf) (endC T nf good age) := invN_fold (L := itC T nf) (inv0N good age)
  have hM : invM good age (itM T nf) (endM T nf good age) := invM_fold (L := itM T nf) (inv0M good age)
  obtain ⟨c1, c2, c3, c4⟩ := hC
  obtain ⟨m1, m2, m3, m4⟩ := hM
  have e1 : (endC T nf good age).1 = (endM T nf good age).1 := by rw [c1, m1, it_count]
  refine ⟨e1, ?_, fun h0 => ?_⟩
  · by_cases h0 : (endC T nf good age).1 = 0
    · rw [(c2 h0).1, (m2 (by omega)).1]
    · obtain ⟨⟨x, hx1, hx2⟩, hx3⟩ := c3 h0
      obtain ⟨y, hy1, hy2⟩ := m3 (by omega)
      obtain ⟨k1, k2⟩ := itM_min hy1
      have hym : y ∈ (itM T nf).filter good := List.mem_of_head? hy1
      have hxm : x ∈ (itC T nf).filter (fun z => good z && decide (z.1.length = (endC T nf good age).2.1.length)) := List.mem_of_head? hx1
      rw [List.mem_filter, Bool.and_eq_true] at hxm
      rw [List.mem_filter] at hym
      have l1 := hx3 y ((it_mem T nf y).mpr hym.1) hym.2
      have l2 := k1 x ((it_mem T nf x).mp hxm.1) hxm.2.1
      rw [← hx2] at l1
      have hl : y.1.length = x.1.length := by omega
      have e : (itC T nf).filter (fun z => good z && decide (z.1.length = x.1.length)) = (itM T nf).filter (fun z => good z && decide (z.1.length = x.1.length)) := by
        by_cases h4 : x.1.length = 4
        · exact filt_noS T nf _ (fun z hz => by rw [hz, h4]; simp)
        · exact filt_noP T nf _ (fun z hz => by rw [hz, decide_eq_false (by omega), Bool.and_false])
      rw [← hx2] at hx1
      rw [e] at hx1
      rw [hl] at k2
      rw [hx1] at k2
      have : x = y := by simpa using k2
      rw [← hx2, ← hy2, this]
  · obtain ⟨⟨w, w1, w2, w3⟩, g2, g3⟩ := c4 h0
    obtain ⟨⟨z, z1, z2, z3⟩, q2, q3⟩ := m4 (by omega)
    have hsame : (endC T nf good age).2.2.2 = (endM T nf good age).2.2.2 := by
      cases hc : (endC T nf good age).2.2.2 with
      | true =>
        obtain ⟨a, b, ⟨a1, a2⟩, ⟨b1, b2⟩, hab⟩ := g3 hc
        cases hm : (endM T nf good age).2.2.2 with
        | true => rfl
        | false => exact absurd ((q2 hm a ((it_mem T nf a).mp a1) a2).trans (q2 hm b ((it_mem T nf b).mp b1) b2).symm) hab
      | false =>
        cases hm : (endM T nf good age).2.2.2 with
        | false => rfl
        | true =>
          obtain ⟨a, b, ⟨a1, a2⟩, ⟨b1, b2⟩, hab⟩ := q3 hm
          exact absurd ((g2 hc a ((it_mem T nf a).mpr a1) a2).trans (g2 hc b ((it_mem T nf b).mpr b1) b2).symm) hab
    refine ⟨hsame, fun hc => ?_⟩
    rw [← g2 hc z ((it_mem T nf z).mpr z1) z2, z3]
