/-! ROADS: the first side; what stands on the diagonal does not matter -/
def SQX (D : Nat → Nat → Int) (M : KM) : Prop := ∀ a b, a < 8 → b < 8 → (a ≠ b → M 335 (8 * a + b) = D a b) ∧ (a = b → 0 ≤ M 335 (8 * a + b) ∧ M 335 (8 * a + b) ≤ 100000000)
def pRd (k _ : Nat) : Prop := k = 335
theorem X_roadFrom {a b : Nat} (ha : a < 8) (hb : b < 8) (M : KM) : f_Roads_roadFrom (a : Int) (b : Int) M = some (M 335 (8 * a + b)) := by
  unfold f_Roads_roadFrom
  have w := w8 ha hb
  rw [w.2.1, atM_nat _ _ _ w.2.2]
theorem X_shorten {T : TW} {R : Nat → RL} {v : Nat → Int} (hT : okT T R) {k a n : Nat} (hk : k < 8) (ha : a < 8) (hn : n ≤ 8) (hnT : (T 0 0).toNat ≤ n) {M : KM} (hM : SQX (fun x y => if x < a then rdK T v (k + 1) x y else rdK T v k x y) M) :
    Ret (f_Roads_shortenRoads (a : Int) (k : Int) (n : Int) M) (fun q => SQX (fun x y => if x < a + 1 then rdK T v (k + 1) x y else rdK T v k x y) q ∧ ∀ c, c ≠ 335 → q c = M c) := by
  have hrow : ∀ y, y < 8 → k ≠ y → M 335 (8 * k + y) = rdK T v k k y := fun y hy hky => by
    rw [(hM k y hk hy).1 hky]
    dsimp only
    split
    · exact rdK_row hT v k y
    · rfl
  have hdk := (hM k k hk hk).2 rfl
  -- what stays if nothing of row a is shortened
  have stay : (∀ y, y < 8 → a ≠ y → rdK T v (k + 1) a y = rdK T v k a y) → SQX (fun x y => if x < a + 1 then rdK T v (k + 1) x y else rdK T v k x y) M := fun hs x y hx hy => by
    refine ⟨fun hxy => ?_, (hM x y hx hy).2⟩
    rw [(hM x y hx hy).1 hxy]
    dsimp only
    by_cases hxa : x = a
    · subst hxa
      rw [if_neg (by omega), if_pos (by omega), hs y hy hxy]
    · exact ifc (by omega)
  unfold f_Roads_shortenRoads
  rw [X_roadFrom ha hk, ob_some]
  by_cases hak : a = k
  · -- its own row: nothing is shortened
    subst hak
    refine Ret.br (fun hc => ?_) (fun hc => Ret.pure ⟨stay fun y hy hay => rdK_row hT v a y, fun c _ => rfl⟩)
    refine Ret.bind (R := fun q => q = M) (Ret.loop n (fun i s => s.1 = (i : Int) ∧ s.2 = M) ⟨rfl, rfl⟩ ?_ ?_) ?_
    · rintro i s hi ⟨k1, k2⟩
      rw [k1, k2, X_roadFrom ha (by omega), ob_some, w32e (n := (i : Int) + 1) (by omega) (by omega)]
      have hp : 0 ≤ M 335 (8 * a + i) ∧ M 335 (8 * a + i) ≤ 100000000 := by
        by_cases hai : a = i
        · exact (hM a i ha (by omega)).2 hai
        · rw [hrow i (by omega) hai]
          have := rdK_R hT v a a i
          omega
      rw [w32e (n := M 335 (8 * a + a) + M 335 (8 * a + i)) (by omega) (by omega)]
      refine Ret.t (by omega) (Ret.letI (Ret.bindE (r := M 335 (8 * a + i)) rfl ?_))
      refine (Ret.bind (R := fun q => q = M) (Ret.f (by omega) (Ret.pure rfl)) (fun q hq => Ret.pure ⟨rfl, hq⟩))
    · rintro s ⟨k1, k2⟩
      rw [k1, k2]
      exact Ret.f (by omega) (Ret.pure rfl)
    · rintro q rfl
      exact Ret.pure ⟨stay fun y hy hay => rdK_row hT v a y, fun c _ => rfl⟩
  · have hf : M 335 (8 * a + k) = rdK T v k a k := by
      rw [(hM a k ha hk).1 hak]
      exact if_neg (by omega)
    have rf := rdK_R hT v k a k
    rw [hf]
    refine Ret.br (fun hc => ?_) (fun hc => Ret.pure ⟨stay fun y hy hay => ?_, fun c _ => rfl⟩)
    · refine Ret.bind (R := fun q => SQX (fun x y => if x < a + 1 then rdK T v (k + 1) x y else rdK T v k x y) q ∧ ∀ c, c ≠ 335 → q c = M c) (Ret.loop n (fun i s => s.1 = (i : Int) ∧ SQX (fun x y => if x < a ∨ (x = a ∧ y < i) then rdK T v (k + 1) x y else rdK T v k x y) s.2 ∧ ∀ c, c ≠ 335 → s.2 c = M c) ⟨rfl, fun x y hx hy => ?_, fun c _ => rfl⟩ ?_ ?_) (fun q hq => Ret.pure hq)
      · refine ⟨fun hxy => ?_, (hM x y hx hy).2⟩
        dsimp only
        rw [(hM x y hx hy).1 hxy]
        exact ifc (by omega)
      · rintro i s hi ⟨k1, k2, k3⟩
        have hi8 : i < 8 := by omega
        have w := w8 ha hi8
        have ck : (k ≠ i → s.2 335 (8 * k + i) = rdK T v k k i) ∧ 0 ≤ s.2 335 (8 * k + i) ∧ s.2 335 (8 * k + i) ≤ 100000000 := by
          by_cases hki : k = i
          · exact ⟨fun q => absurd hki q, (k2 k i hk hi8).2 hki⟩
          · have e : s.2 335 (8 * k + i) = rdK T v k k i := by
              rw [(k2 k i hk hi8).1 hki]
              dsimp only
              split
              · exact rdK_row hT v k i
              · rfl
            have r := rdK_R hT v k k i
            exact ⟨fun _ => e, by omega, by omega⟩
        have ca : (a ≠ i → s.2 335 (8 * a + i) = rdK T v k a i) ∧ 0 ≤ s.2 335 (8 * a + i) ∧ s.2 335 (8 * a + i) ≤ 100000000 := by
          by_cases hai : a = i
          · exact ⟨fun q => absurd hai q, (k2 a i ha hi8).2 hai⟩
          · have e : s.2 335 (8 * a + i) = rdK T v k a i := by
              rw [(k2 a i ha hi8).1 hai]
              exact if_neg (by omega)
            have r := rdK_R hT v k a i
            exact ⟨fun _ => e, by omega, by omega⟩
        have next : ∀ M' : KM, (∀ j, j ≠ 8 * a + i → M' 335 j = s.2 335 j) → (a ≠ i → M' 335 (8 * a + i) = rdK T v (k + 1) a i) → (0 ≤ M' 335 (8 * a + i) ∧ M' 335 (8 * a + i) ≤ 100000000) → SQX (fun x y => if x < a ∨ (x = a ∧ y < i + 1) then rdK T v (k + 1) x y else rdK T v k x y) M' := fun M' h1 h2 h3 x y hx hy => by
          by_cases hxy : x = a ∧ y = i
          · obtain ⟨rfl, rfl⟩ := hxy
            refine ⟨fun q => ?_, fun _ => h3⟩
            rw [h2 q]
            exact (if_pos (Or.inr ⟨rfl, by omega⟩)).symm
          · rw [h1 _ (by omega)]
            refine ⟨fun q => ?_, (k2 x y hx hy).2⟩
            rw [(k2 x y hx hy).1 q]
            exact ifc (by omega)
        rw [k1, X_roadFrom hk hi8, X_roadFrom ha hi8, ob_some, w32e (n := (i : Int) + 1) (by omega) (by omega), w.2.1, w32e (n := rdK T v k a k + s.2 335 (8 * k + i)) (by omega) (by omega)]
        refine Ret.t (by omega) (Ret.letI (Ret.bindE rfl ?_))
        rw [putM_nat _ _ _ _ w.2.2]
        refine Ret.bind (R := fun q => SQX (fun x y => if x < a ∨ (x = a ∧ y < i + 1) then rdK T v (k + 1) x y else rdK T v k x y) q ∧ ∀ c, c ≠ 335 → q c = M c) (Ret.br (fun hlt => Ret.letM (Ret.pure ⟨next _ (fun j hj => mupd_ne2 _ _ hj) (fun hai => ?_) ?_, fun c hc => ?_⟩)) (fun hlt => Ret.pure ⟨next _ (fun j hj => rfl) (fun hai => ?_) ca.2, k3⟩)) (fun q hq => Ret.pure ⟨rfl, hq.1, hq.2⟩)
        · rw [mupd_same, rdK_s]
          rw [ca.1 hai] at hlt
          by_cases hki : k = i
          · subst hki; omega
          · rw [ck.1 hki] at hlt ⊢; omega
        · rw [mupd_same]; omega
        · funext z; rw [mupd_ne _ _ hc, k3 c hc]
        · rw [rdK_s, ca.1 hai]
          rw [ca.1 hai] at hlt
          by_cases hki : k = i
          · subst hki
            have := (rdK_R hT v k k k).1 rfl
            omega
          · rw [ck.1 hki] at hlt; omega
      · rintro s ⟨k1, k2, k3⟩
        rw [k1]
        refine Ret.f (by omega) (Ret.pure ⟨fun x y hx hy => ⟨fun hxy => ?_, (k2 x y hx hy).2⟩, k3⟩)
        rw [(k2 x y hx hy).1 hxy]
        dsimp only
        by_cases hxa : x = a
        · subst hxa
          rw [if_pos (show x < x + 1 by omega)]
          by_cases hyn : y < n
          · rw [if_pos (Or.inr ⟨rfl, hyn⟩)]
          · rw [if_neg (by omega), rdK_out hT v k x y hxy (Or.inr (by omega)), rdK_out hT v (k + 1) x y hxy (Or.inr (by omega))]
        · exact ifc (by omega)
    · rw [rdK_s]
      have r2 := rdK_R hT v k k y
      have r3 := rdK_R hT v k a y
      omega
theorem X_measure {T : TW} {R : Nat → RL} {v : Nat → Int} {M : KM} (h : WC T R v M) (ho : WO T R v) : Ret (f_Roads_measure (M 34 3) M) (fun q => SQX (rdK T v 8) q ∧ ∀ c, c ≠ 335 → q c = M c) := by
  have o := ho.1.1
  obtain ⟨n, hn⟩ := Int.eq_ofNat_of_zero_le o.1
  unfold f_Roads_measure
  refine Ret.bind (R := fun M1 => (∀ j, j < 64 → M1 335 j = 100000000) ∧ ∀ c, c ≠ 335 → M1 c = M c) (Ret.loop 64 (fun i s => s.1 = (i : Int) ∧ (∀ j, j < i → s.2 335 j = 100000000) ∧ ∀ c, c ≠ 335 → s.2 c = M c) ⟨rfl, fun j hj => absurd hj (Nat.not_lt_zero _), fun c _ => rfl⟩ ?_ ?_) ?_
  · rintro i s hi ⟨k1, k2, k3⟩
    rw [k1, w32e (n := (i : Int) + 1) (by omega) (by omega)]
    refine Ret.t (by omega) (Ret.t (by omega) (Ret.letM (Ret.pure ⟨rfl, fun j hj => ?_, fun c hc => by funext z; dsimp only; rw [mupd_ne _ _ hc, k3 c hc]⟩)))
    dsimp only
    rw [mupd_at, Int.toNat_natCast]
    by_cases hji : j = i
    · rw [if_pos ⟨rfl, hji⟩]
    · rw [if_neg (fun q => hji q.2)]; exact k2 j (by omega)
  · rintro s ⟨k1, k2, k3⟩
    rw [k1]
    exact Ret.f (by omega) (Ret.pure ⟨k2, k3⟩)
  rintro M1 ⟨z1, z2⟩
  have ew : ∀ (M2 : KM), (∀ c, c ≠ 335 → M2 c = M c) → WC T R v M2 := fun M2 hM => h.congr fun k j hk => by rw [hM k (by unfold pN at hk; omega)]
  refine Ret.bind (R := fun M2 => SQX (rdK T v 0) M2 ∧ ∀ c, c ≠ 335 → M2 c = M c) (Ret.loop (T 0 1).toNat (fun f s => s.1 = (f : Int) ∧ SQX (rdE T v f) s.2 ∧ ∀ c, c ≠ 335 → s.2 c = M c) ⟨rfl, fun x y hx hy => ⟨fun hxy => by dsimp only; rw [z1 _ (by omega)]; exact (if_neg hxy).symm, fun _ => by dsimp only; rw [z1 _ (by omega)]; omega⟩, z2⟩ ?_ ?_) ?_
  · rintro f s hf ⟨k1, k2, k3⟩
    have hw := ew s.2 k3
    have hf' : (f : Int) < T 0 1 := by omega
    have hokt := ho.1.2.2.1 f hf'
    have a5 := hw.from_ ho (f := f) (by omega) hf'
    have a6 := hw.to ho (f := f) (by omega) hf'
    have a7 := hw.price ho (f := f) (by omega) hf'
    rw [Int.toNat_natCast] at a5 a6 a7
    obtain ⟨x, hx⟩ := Int.eq_ofNat_of_zero_le hokt.1
    obtain ⟨y, hy⟩ := Int.eq_ofNat_of_zero_le hokt.2.2.1
    have w := w8 (a := x) (b := y) (by omega) (by omega)
    rw [k1, hw.friends, a5, a6, a7, h.alive, hx, hy, w32e (n := (f : Int) + 1) (by omega) (by omega)]
    refine Ret.t hf' (Ret.letI (Ret.letI ?_))
    rw [alv_in ho.2, alv_in ho.2, w.2.1, putM_nat _ _ _ _ w.2.2]
    refine Ret.bind (R := fun M2 => SQX (rdE T v (f + 1)) M2 ∧ ∀ c, c ≠ 335 → M2 c = M c) ?_ (fun M2 hM => Ret.pure ⟨rfl, hM.1, hM.2⟩)
    have no : ¬ (sfA v x = true ∧ sfA v y = true) → SQX (rdE T v (f + 1)) s.2 := fun hno p q hp hq => by
      refine ⟨fun hpq => ?_, (k2 p q hp hq).2⟩
      rw [rdE_s, if_neg (fun q => hno (by rw [hx, hy] at q; exact q.1))]
      exact (k2 p q hp hq).1 hpq
    by_cases ha : sfA v x = true
    · refine Ret.f (by rw [if_pos ha]; omega) ?_
      by_cases ha2 : sfA v y = true
      · refine Ret.f (by rw [if_pos ha2]; omega) (Ret.letM (Ret.pure ⟨fun p q hp hq => ?_, fun c hc => ?_⟩))
        · rw [rdE_s, hx, hy, mupd_at]
          have hne : x ≠ y := by omega
          by_cases hpq : p = x ∧ q = y
          · rw [if_pos ⟨rfl, by omega⟩, if_pos ⟨⟨ha, ha2⟩, by omega⟩]
            exact ⟨fun _ => rfl, fun _ => by omega⟩
          · rw [if_neg (by rintro ⟨_, h9⟩; exact hpq (by omega)), if_neg (fun h9 => hpq (by omega))]
            exact k2 p q hp hq
        · funext z; rw [mupd_ne _ _ hc, k3 c hc]
      · exact Ret.t (by rw [if_neg ha2]) (Ret.pure ⟨no (fun q => ha2 q.2), k3⟩)
    · exact Ret.t (by rw [if_neg ha]) (Ret.pure ⟨no (fun q => ha q.1), k3⟩)
  · rintro s ⟨k1, k2, k3⟩
    rw [k1, (ew s.2 k3).friends]
    exact Ret.f (by omega) (Ret.pure ⟨k2, k3⟩)
  rintro M2 ⟨y1, y2⟩
  have e8 : rdK T v 8 = rdK T v n := by
    funext a b
    have := rdK_stop ho.1 v a b (8 - (T 0 0).toNat)
    rw [show (T 0 0).toNat + (8 - (T 0 0).toNat) = 8 by omega, show (T 0 0).toNat = n by omega] at this
    exact this
  refine Ret.bind (R := fun M3 => SQX (rdK T v 8) M3 ∧ ∀ c, c ≠ 335 → M3 c = M c) (Ret.loop n (fun k s => s.1 = (k : Int) ∧ SQX (rdK T v k) s.2 ∧ ∀ c, c ≠ 335 → s.2 c = M c) ⟨rfl, y1, y2⟩ ?_ ?_) (fun M3 hM => Ret.pure hM)
  · rintro k s hk ⟨k1, k2, k3⟩
    rw [k1, (ew s.2 k3).n, hn, w32e (n := (k : Int) + 1) (by omega) (by omega)]
    refine Ret.t (by omega) ?_
    refine Ret.bind (R := fun M3 => SQX (rdK T v (k + 1)) M3 ∧ ∀ c, c ≠ 335 → M3 c = M c) (Ret.loop n (fun a t => t.1 = (a : Int) ∧ SQX (fun x y => if x < a then rdK T v (k + 1) x y else rdK T v k x y) t.2 ∧ ∀ c, c ≠ 335 → t.2 c = M c) ⟨rfl, fun x y hx hy => by dsimp only; rw [if_neg (Nat.not_lt_zero _)]; exact k2 x y hx hy, k3⟩ ?_ ?_) (fun M3 hM => Ret.pure ⟨rfl, hM.1, hM.2⟩)
    · rintro a t ha ⟨t1, t2, t3⟩
      rw [t1, (ew t.2 t3).n, hn, w32e (n := (a : Int) + 1) (by omega) (by omega)]
      refine Ret.t (by omega) ?_
      refine Ret.bind (X_shorten ho.1 (k := k) (a := a) (n := n) (by omega) (by omega) (by omega) (by omega) t2) ?_
      rintro q ⟨q1, q2⟩
      exact Ret.pure ⟨rfl, q1, fun c hc => by dsimp only; rw [q2 c hc, t3 c hc]⟩
    · rintro t ⟨t1, t2, t3⟩
      rw [t1, (ew t.2 t3).n, hn]
      refine Ret.f (by omega) (Ret.pure ⟨fun x y hx hy => ⟨fun hxy => ?_, (t2 x y hx hy).2⟩, t3⟩)
      rw [(t2 x y hx hy).1 hxy]
      dsimp only
      by_cases hxn : x < n
      · rw [if_pos hxn]
      · rw [if_neg hxn, rdK_out ho.1 v k x y hxy (Or.inl (by omega)), rdK_out ho.1 v (k + 1) x y hxy (Or.inl (by omega))]
  · rintro s ⟨k1, k2, k3⟩
    rw [k1, (ew s.2 k3).n, hn]
    refine Ret.f (by omega) (Ret.pure ⟨?_, k3⟩)
    rw [e8]; exact k2
