/-! GIFTS, LOANS -/
def canB (T : TW) (v : Nat → Int) (a b n : Int) : Prop := alv v a = true ∧ alv v b = true ∧ (1 ≤ n ∧ n ≤ 99) ∧ T 0 3 ≤ v a.toNat - n ∧ v b.toNat + n ≤ T 0 4
theorem e_canMove {n : Int} {v : Nat → Int} {M : KM} {T : TW} (h : SC 34 n v M) (hn : n ≤ 8) (hv : ∀ p : Nat, (p : Int) < n → 0 ≤ v p ∧ v p ≤ 150) {a b k : Int} (ha : 0 ≤ a ∧ a < n) (hb : 0 ≤ b ∧ b < n) (hk : 0 ≤ k ∧ k ≤ 99) : f_State_canMove a b k (T 0 3) (T 0 4) M = some (if T 0 3 ≤ v a.toNat - k ∧ v b.toNat + k ≤ T 0 4 then 1 else 0) := by
  have e1 : atM M 35 8 a = v a.toNat := by rw [atM_in _ _ _ ha.1 (by omega)]; exact (h.2.1 _ (by omega)).1
  have e2 : atM M 35 8 b = v b.toNat := by rw [atM_in _ _ _ hb.1 (by omega)]; exact (h.2.1 _ (by omega)).1
  have h1 := hv a.toNat (by omega)
  have h2 := hv b.toNat (by omega)
  unfold f_State_canMove
  rw [e1, e2, w32e (by omega) (by omega), w32e (by omega) (by omega)]
  by_cases c1 : v a.toNat - k < T 0 3
  · rw [if_pos c1, ob_some, if_pos (by omega), if_neg (by omega)]
  · by_cases c2 : v b.toNat + k ≤ T 0 4
    · rw [if_neg c1, if_pos c2, ob_some, if_pos (by omega), if_pos ⟨by omega, c2⟩]
    · rw [if_neg c1, if_neg c2, ob_some, if_pos (by omega), if_neg (by omega)]
theorem ages_ok {T : TW} {R : Nat → RL} {v : Nat → Int} (ho : WO T R v) : ∀ p : Nat, (p : Int) < T 0 0 → 0 ≤ v p ∧ v p ≤ 150 := fun p hp => by
  have := ho.2.2.2.1 p hp
  have := ho.1.1
  omega
theorem canB_dec (T : TW) (v : Nat → Int) (a b n : Int) : canB T v a b n ∨ ¬ canB T v a b n := Classical.em _
/-- the FRIENDS by which it can go -/
def gF (T : TW) (v : Nat → Int) (a b n : Int) : Option Nat := if (alv v a && alv v b && decide (1 ≤ n) && decide (n ≤ 99) && decide (T 0 3 ≤ v a.toNat - n) && decide (v b.toNat + n ≤ T 0 4)) = true then frdV T a b else none
theorem gF_some {T : TW} {v : Nat → Int} {a b n : Int} {f : Nat} (h : gF T v a b n = some f) : canB T v a b n ∧ frdV T a b = some f := by
  unfold gF at h
  split at h
  · rename_i hc
    simp only [Bool.and_eq_true, decide_eq_true_eq] at hc
    exact ⟨⟨hc.1.1.1.1.1, hc.1.1.1.1.2, ⟨hc.1.1.1.2, hc.1.1.2⟩, hc.1.2, hc.2⟩, h⟩
  · cases h
theorem gF_pos {T : TW} {v : Nat → Int} {a b n : Int} (h : canB T v a b n) : gF T v a b n = frdV T a b := by
  unfold gF
  rw [if_pos]
  simp only [Bool.and_eq_true, decide_eq_true_eq]
  exact ⟨⟨⟨⟨⟨h.1, h.2.1⟩, h.2.2.1.1⟩, h.2.2.1.2⟩, h.2.2.2.1⟩, h.2.2.2.2⟩
theorem gF_neg {T : TW} {v : Nat → Int} {a b n : Int} (h : ¬ canB T v a b n) : gF T v a b n = none := by
  unfold gF
  rw [if_neg]
  simp only [Bool.and_eq_true, decide_eq_true_eq]
  exact fun hc => h ⟨hc.1.1.1.1.1, hc.1.1.1.1.2, ⟨hc.1.1.1.2, hc.1.1.2⟩, hc.1.2, hc.2⟩
def oI (o : Option Nat) : Int := match o with
  | some f => f
  | none => -1
theorem X_friendsFor {T : TW} {R : Nat → RL} {v : Nat → Int} {M : KM} (h : WC T R v M) (ho : WO T R v) (a b n : Int) : f_X_friendsFor a b n M = some (oI (gF T v a b n)) := by
  have o := ho.1.1
  unfold f_X_friendsFor
  by_cases h1 : n < 1
  · rw [if_pos h1, gF_neg (fun q => by have := q.2.2.1; omega)]; rfl
  · rw [if_neg h1]
    by_cases h2 : n ≤ 99
    · rw [if_pos h2, e_X_isAlive h.n h.alive ho.2, ob_some]
      by_cases ha : alv v a = true
      · rw [if_pos ha, if_neg (by omega), e_X_isAlive h.n h.alive ho.2, ob_some]
        by_cases hb : alv v b = true
        · have a1 := alv_R ho.2 ha
          have b1 := alv_R ho.2 hb
          rw [if_pos hb, if_neg (by omega), h.least, h.most, e_canMove h.2 o.2.1 (ages_ok ho) a1 b1 (by omega), ob_some]
          by_cases hc : T 0 3 ≤ v a.toNat - n ∧ v b.toNat + n ≤ T 0 4
          · rw [if_pos hc, if_neg (by omega), X_friendsOf h ho, ob_some, gF_pos ⟨ha, hb, by omega, hc⟩]; rfl
          · rw [if_neg hc, if_pos rfl, gF_neg (fun q => hc q.2.2.2)]; rfl
        · rw [if_neg hb, if_pos rfl, gF_neg (fun q => hb q.2.1)]; rfl
      · rw [if_neg ha, if_pos rfl, gF_neg (fun q => ha q.1)]; rfl
    · rw [if_neg h2, gF_neg (fun q => by have := q.2.2.1; omega)]; rfl
theorem M_canGo {b : Nat} {T : TW} {R : Nat → RL} {v : Nat → Int} {M : KM} (h : WM b T R v M) (ho : WO T R v) {x y n : Int} (hx : 0 ≤ x ∧ x < T 0 0) (hy : 0 ≤ y ∧ y < T 0 0) (hn : 1 ≤ n ∧ n ≤ 99) : f_M_canGo x y n M = some (if alv v x = true ∧ alv v y = true ∧ T 0 3 ≤ v x.toNat - n ∧ v y.toNat + n ≤ T 0 4 then 1 else 0) := by
  have o := ho.1.1
  have ax := ages_ok ho x.toNat (by omega)
  have ay := ages_ok ho y.toNat (by omega)
  have bx := ho.2.2.2.1 x.toNat (by omega)
  have by' := ho.2.2.2.1 y.toNat (by omega)
  have a1 := h.age ho hx.1 hx.2
  have a2 := h.age ho hy.1 hy.2
  unfold f_M_canGo
  rw [e_M_isAlive (h.all (by omega)) ho.2 hx.1 (by omega), ob_some]
  by_cases hax : alv v x = true
  · rw [if_pos hax, if_neg (by omega), e_M_isAlive (h.all (by omega)) ho.2 hy.1 (by omega), ob_some]
    by_cases hay : alv v y = true
    · rw [if_pos hay, if_neg (by omega), a1.1, if_pos a1.2.1, a1.2.2, w32e (n := v x.toNat - n) (by omega) (by omega), M_isAge h, ob_some]
      by_cases c1 : T 0 3 ≤ v x.toNat - n
      · rw [if_pos (show T 0 3 ≤ v x.toNat - n ∧ v x.toNat - n ≤ T 0 4 by omega), if_neg (by omega), a2.1, if_pos a2.2.1, a2.2.2, w32e (n := v y.toNat + n) (by omega) (by omega), M_isAge h, ob_some]
        by_cases c2 : v y.toNat + n ≤ T 0 4
        · rw [if_pos (show T 0 3 ≤ v y.toNat + n ∧ v y.toNat + n ≤ T 0 4 by omega), if_neg (by omega), ob_some, if_pos (by omega), if_pos ⟨hax, hay, c1, c2⟩]
        · rw [if_neg (show ¬ (T 0 3 ≤ v y.toNat + n ∧ v y.toNat + n ≤ T 0 4) by omega), if_pos rfl, ob_some, if_pos (by omega), if_neg (fun q => c2 q.2.2.2)]
      · rw [if_neg (show ¬ (T 0 3 ≤ v x.toNat - n ∧ v x.toNat - n ≤ T 0 4) by omega), if_pos rfl, ob_some, if_pos (by omega), if_neg (fun q => c1 q.2.2.1)]
    · rw [if_neg hay, if_pos rfl, ob_some, if_pos (by omega), if_neg (fun q => hay q.2.1)]
  · rw [if_neg hax, if_pos rfl, ob_some, if_pos (by omega), if_neg (fun q => hax q.1)]
theorem M_canPass {b : Nat} {T : TW} {R : Nat → RL} {v : Nat → Int} {M : KM} (h : WM b T R v M) (ho : WO T R v) (x y n : Int) : f_M_canPass x y n M = some (if (gF T v x y n).isSome = true then 1 else 0) := by
  have o := ho.1.1
  unfold f_M_canPass
  rw [M_isPerson h ho, ob_some]
  by_cases hx : 0 ≤ x ∧ x < T 0 0
  · rw [if_pos hx, if_neg (by omega), M_isPerson h ho, ob_some]
    by_cases hy : 0 ≤ y ∧ y < T 0 0
    · rw [if_pos hy, if_neg (by omega), e_M_isIn, ob_some]
      by_cases hn : 1 ≤ n ∧ n ≤ 99
      · rw [if_pos hn, if_neg (by omega), M_friendsOf h ho, ob_some, M_canGo h ho hx hy hn, ob_some]
        cases hf : frdV T x y with
        | none =>
          have e : gF T v x y n = none := by
            rcases canB_dec T v x y n with hc | hc
            · rw [gF_pos hc, hf]
            · rw [gF_neg hc]
          rw [e]
          dsimp only
          rw [if_pos (by omega), ob_some, if_pos (by omega)]; rfl
        | some f =>
          dsimp only
          rw [if_neg (Int.not_lt.mpr (Int.natCast_nonneg _))]
          by_cases hc : alv v x = true ∧ alv v y = true ∧ T 0 3 ≤ v x.toNat - n ∧ v y.toNat + n ≤ T 0 4
          · rw [if_pos hc, if_neg (by omega), ob_some, if_pos (by omega), gF_pos ⟨hc.1, hc.2.1, hn, hc.2.2⟩, hf]; rfl
          · rw [if_neg hc, if_pos rfl, ob_some, if_pos (by omega), gF_neg (fun q => hc ⟨q.1, q.2.1, q.2.2.2⟩)]; rfl
      · rw [if_neg hn, if_pos rfl, ob_some, if_pos (by omega), gF_neg (fun q => hn q.2.2.1)]; rfl
    · rw [if_neg hy, if_pos rfl, ob_some, if_pos (by omega), gF_neg (fun q => hy (alv_R ho.2 q.2.1))]; rfl
  · rw [if_neg hx, if_pos rfl, ob_some, if_pos (by omega), gF_neg (fun q => hx (alv_R ho.2 q.1))]; rfl
def passV (v : Nat → Int) (a b : Nat) (n : Int) : Nat → Int := vset (vset v a (w32 (v a - n))) b (w32 (vset v a (w32 (v a - n)) b + n))
def payV (v : Nat → Int) (a b : Nat) (c : Int) : Nat → Int := vset (vset v (8 + b) (w32 (v (8 + b) - c))) (8 + a) (w32 (vset v (8 + b) (w32 (v (8 + b) - c)) (8 + a) + c))
theorem X_moveYears {n : Int} {v : Nat → Int} {M : KM} (h : SC 34 n v M) (hn : n ≤ 8) {a b : Nat} (ha : (a : Int) < n) (hb : (b : Int) < n) (k : Int) : Ret (f_State_moveYears a b k M) (fun M' => SC 34 n (passV v a b k) M' ∧ ∀ c, c ≠ 35 → M' c = M c) := by
  have e1 : atM M 35 8 a = v a := by rw [atM_nat _ _ _ (by omega)]; exact (h.2.1 a ha).1
  unfold f_State_moveYears
  rw [e1, putM_nat _ _ _ _ (by omega), letM_e]
  have h1 := SC_age h hn ha (w32 (v a - k))
  have e2 : atM (mupd M 35 a (w32 (v a - k))) 35 8 b = vset v a (w32 (v a - k)) b := by rw [atM_nat _ _ _ (by omega)]; exact (h1.2.1 b hb).1
  rw [e2, putM_nat _ _ _ _ (by omega), letM_e]
  exact Ret.pure ⟨SC_age h1 hn hb _, fun c hc => by funext j; rw [mupd_ne _ _ hc, mupd_ne _ _ hc]⟩
theorem X_pay {n : Int} {v : Nat → Int} {M : KM} (h : SC 34 n v M) (hn : n ≤ 8) {a b : Nat} (ha : (a : Int) < n) (hb : (b : Int) < n) (k : Int) : Ret (f_State_pay b a k M) (fun M' => SC 34 n (payV v a b k) M' ∧ ∀ c, c ≠ 36 → M' c = M c) := by
  have e1 : atM M 36 8 b = v (8 + b) := by rw [atM_nat _ _ _ (by omega)]; exact (h.2.1 b hb).2
  unfold f_State_pay
  rw [e1, putM_nat _ _ _ _ (by omega), letM_e]
  have h1 := SC_coin h hn hb (w32 (v (8 + b) - k))
  have e2 : atM (mupd M 36 b (w32 (v (8 + b) - k))) 36 8 a = vset v (8 + b) (w32 (v (8 + b) - k)) (8 + a) := by rw [atM_nat _ _ _ (by omega)]; exact (h1.2.1 a ha).2
  rw [e2, putM_nat _ _ _ _ (by omega), letM_e]
  exact Ret.pure ⟨SC_coin h1 hn ha _, fun c hc => by funext j; rw [mupd_ne _ _ hc, mupd_ne _ _ hc]⟩
theorem M_pass {v : Nat → Int} {M : KM} (h : SM 411 0 v M) {a b : Nat} (ha : a < 8) (hb : b < 8) (k : Int) : Ret (f_M_pass a b k M) (fun M' => SM 411 0 (passV v a b k) M' ∧ ∀ c, c ≠ 411 → M' c = M c) := by
  have e1 : M 411 a = v a := by have := h a (by omega); rwa [Nat.zero_add] at this
  unfold f_M_pass
  rw [Int.zero_add, Int.zero_add, w32e (n := (a : Int)) (by omega) (by omega), w32e (n := (b : Int)) (by omega) (by omega), Int.toNat_natCast, Int.toNat_natCast, e1]
  have h1 := SM_set h a (w32 (v a - k))
  have e2 : mupd M 411 a (w32 (v a - k)) 411 b = vset v a (w32 (v a - k)) b := by have := h1 b (by omega); rwa [Nat.zero_add] at this
  refine Ret.t (by omega) (Ret.t (by omega) (Ret.letM (Ret.t (by omega) (Ret.t (by omega) (Ret.letM ?_)))))
  rw [e2]
  exact Ret.pure ⟨SM_set h1 b _, fun c hc => by funext j; rw [mupd_ne _ _ hc, mupd_ne _ _ hc]⟩
theorem passV_at {T : TW} {v : Nat → Int} {a b : Nat} {n : Int} (hab : a ≠ b) (ha : 0 ≤ v a ∧ v a ≤ 150) (hb : 0 ≤ v b ∧ v b ≤ 150) (hn : 0 ≤ n ∧ n ≤ 99) : ∀ j, passV v a b n j = if j = a then v a - n else if j = b then v b + n else v j := by
  intro j
  unfold passV
  rw [vset_ne v _ (show b ≠ a by omega), w32e (n := v a - n) (by omega) (by omega), w32e (n := v b + n) (by omega) (by omega)]
  by_cases h1 : j = a
  · rw [if_pos h1, vset_ne _ _ (by omega), h1, vset_same]
  · rw [if_neg h1]
    by_cases h2 : j = b
    · rw [if_pos h2, h2, vset_same]
    · rw [if_neg h2, vset_ne _ _ h2, vset_ne _ _ h1]
theorem okS_pass {T : TW} {R : Nat → RL} {v : Nat → Int} (ho : WO T R v) {a b : Nat} {n : Int} (ha : (a : Int) < T 0 0) (hb : (b : Int) < T 0 0) (hab : a ≠ b) (hn : 1 ≤ n ∧ n ≤ 99) (h1 : T 0 3 ≤ v a - n) (h2 : v b + n ≤ T 0 4) : okS T (passV v a b n) := by
  have o := ho.1.1
  have e := passV_at (T := T) hab (ages_ok ho a ha) (ages_ok ho b hb) (show 0 ≤ n ∧ n ≤ 99 by omega)
  have eo : ∀ j, 8 ≤ j → passV v a b n j = v j := fun j hj => by rw [e, if_neg (by omega), if_neg (by omega)]
  obtain ⟨k1, k2, k3, k4⟩ := ho.2
  refine ⟨?_, ?_, fun p hp => ?_, fun l hl => ?_⟩
  · rw [eo 16 (by omega), eo 17 (by omega), eo 19 (by omega), eo 20 (by omega)]; exact k1
  · rw [eo 16 (by omega)]; exact k2
  · have kp := k3 p hp
    have ka := k3 a ha
    have kb := k3 b hb
    rw [e]
    split
    · omega
    · split <;> omega
  · rw [eo 17 (by omega)] at hl
    rw [eo _ (by omega), eo _ (by omega), eo _ (by omega), eo _ (by omega)]
    exact k4 l hl
theorem okS_pay {T : TW} {v : Nat → Int} (h : okS T v) {a b : Nat} {c : Int} (hn : T 0 0 ≤ 8) (ha : a < 8) (hb : b < 8) : okS T (payV v a b c) := by
  have eo : ∀ j, j < 8 ∨ 16 ≤ j → payV v a b c j = v j := fun j hj => by unfold payV; rw [vset_ne _ _ (by omega), vset_ne _ _ (by omega)]
  obtain ⟨k1, k2, k3, k4⟩ := h
  refine ⟨?_, ?_, fun p hp => ?_, fun l hl => ?_⟩
  · rw [eo 16 (by omega), eo 17 (by omega), eo 19 (by omega), eo 20 (by omega)]; exact k1
  · rw [eo 16 (by omega)]; exact k2
  · rw [eo p (by omega)]; exact k3 p hp
  · rw [eo 17 (by omega)] at hl
    rw [eo _ (by omega), eo _ (by omega), eo _ (by omega), eo _ (by omega)]
    exact k4 l hl
def pAct (k j : Nat) : Prop := (34 ≤ k ∧ k < 330 ∧ k ≠ 42) ∨ pV k j
def pActM (k j : Nat) : Prop := k = 411 ∨ k = 412 ∨ (k = 382 ∧ (j = 48 ∨ j = 49)) ∨ pW k j
/-- what an ACT answers and makes of a state -/
abbrev ACT : Type := Option (Int × (Nat → Int))
def giveR (T : TW) (v : Nat → Int) (a b n : Int) : ACT := match gF T v a b n with
  | none => none
  | some f => if v (8 + b.toNat) < w32 (n * T 7 f) then none else some (w32 (n * T 7 f), payV (passV v a.toNat b.toNat n) a.toNat b.toNat (w32 (n * T 7 f)))
def XPost (T : TW) (a : Nat) (hs : HS) (r : ACT) (M : KM) (q : Int × KM) : Prop := match r with
  | none => q = (-1, M)
  | some (x, v') => q.1 = x ∧ SC 34 (T 0 0) v' q.2 ∧ HC (hA a) 0 (hH a hs v') (T 0 0) q.2 ∧ Fp pAct M q.2
def MPost (a : Nat) (hs : HS) (r : ACT) (M : KM) (q : Int × KM) : Prop := match r with
  | none => q = (-1, M)
  | some (x, v') => q.1 = x ∧ SM 411 0 v' q.2 ∧ HM (hA a) 0 (hH a hs v') q.2 ∧ Fp pActM M q.2
theorem canB_R {T : TW} {R : Nat → RL} {v : Nat → Int} (ho : WO T R v) {a b n : Int} {f : Nat} (h : gF T v a b n = some f) : ∃ x y : Nat, a = x ∧ b = y ∧ (x : Int) < T 0 0 ∧ (y : Int) < T 0 0 ∧ x ≠ y ∧ (f : Int) < T 0 1 ∧ (1 ≤ n ∧ n ≤ 99) ∧ T 0 3 ≤ v x - n ∧ v y + n ≤ T 0 4 := by
  obtain ⟨hc, hf⟩ := gF_some h
  have a1 := alv_R ho.2 hc.1
  have b1 := alv_R ho.2 hc.2.1
  obtain ⟨f1, f2, f3⟩ := frdV_some hf
  have hne := (ho.1.2.2.1 f f1).2.2.2.2.1
  refine ⟨a.toNat, b.toNat, by omega, by omega, by omega, by omega, by omega, f1, hc.2.2.1, hc.2.2.2⟩
theorem X_give {T : TW} {R : Nat → RL} {v : Nat → Int} {M : KM} {a u : Nat} {hs : HS} (h : WC T R v M) (ho : WO T R v) (hH : HC a u hs (T 0 0) M) (x y n : Int) : Ret (f_X_give x y n M) (XPost T a hs (giveR T v x y n) M) := by
  have o := ho.1.1
  unfold f_X_give giveR
  rw [X_friendsFor h ho, ob_some]
  cases hg : gF T v x y n with
  | none => exact Ret.t rfl (Ret.pure rfl)
  | some f =>
    obtain ⟨x, y, rfl, rfl, hx, hy, hxy, hf, hn, g1, g2⟩ := canB_R ho hg
    dsimp only [oI]
    rw [h.price ho (by omega) hf, h.coin ho (by omega) hy, letI_e, Int.toNat_natCast, Int.toNat_natCast, Int.toNat_natCast]
    refine Ret.f (by omega) ?_
    by_cases hc : v (8 + y) < w32 (n * T 7 f)
    · rw [if_pos hc, if_pos hc]; exact Ret.pure rfl
    · rw [if_neg hc, if_neg hc]
      refine Ret.bind (X_moveYears h.2 o.2.1 hx hy n) ?_
      rintro M1 ⟨y1, y2⟩
      refine Ret.bind (X_pay y1 o.2.1 hx hy _) ?_
      rintro M2 ⟨y3, y4⟩
      have hH2 : HC a u hs (T 0 0) M2 := hH.congr (fun k j hk => by unfold pHC at hk; rw [y4 k (by omega), y2 k (by omega)])
      have hok := okS_pay (c := w32 (n * T 7 f)) (okS_pass ho hx hy hxy hn g1 g2) o.2.1 (show x < 8 by omega) (show y < 8 by omega)
      refine Ret.bind (X_add hH2 y3 hok.1.2.2.2.1 o.2.1) ?_
      rintro M3 ⟨y5, y6⟩
      refine Ret.pure ⟨rfl, y3.congr (fun c c1 c2 => ?_), y5, fun k j hk => ?_⟩
      · exact y6.row (fun j => by unfold pHC; omega)
      · unfold pAct at hk
        dsimp only
        rw [y6 k j (by unfold pHC; omega), y4 k (by omega), y2 k (by omega)]
theorem SM_coin {v : Nat → Int} {M : KM} (h : SM 411 0 v M) {a b : Nat} (ha : a < 8) (hb : b < 8) (c : Int) : SM 411 0 (payV v a b c) (mupd (mupd M 411 (8 + b) (w32 (M 411 (8 + b) - c))) 411 (8 + a) (w32 (mupd M 411 (8 + b) (w32 (M 411 (8 + b) - c)) 411 (8 + a) + c))) := by
  have e1 : M 411 (8 + b) = v (8 + b) := by have := h (8 + b) (by omega); rwa [Nat.zero_add] at this
  rw [e1]
  have h1 := SM_set h (8 + b) (w32 (v (8 + b) - c))
  have e2 : mupd M 411 (8 + b) (w32 (v (8 + b) - c)) 411 (8 + a) = vset v (8 + b) (w32 (v (8 + b) - c)) (8 + a) := by have := h1 (8 + a) (by omega); rwa [Nat.zero_add] at this
  rw [e2]
  exact SM_set h1 (8 + a) _
theorem M_give {b : Nat} {T : TW} {R : Nat → RL} {v : Nat → Int} {M : KM} {a u : Nat} {hs : HS} (h : WM b T R v M) (ho : WO T R v) (hH : HM a u hs M) (hva : hs a = v) (x y n : Int) : Ret (f_M_give x y n M) (MPost a hs (giveR T v x y n) M) := by
  have o := ho.1.1
  have hb := h.1.1
  unfold f_M_give giveR
  rw [M_canPass h ho, ob_some]
  cases hg : gF T v x y n with
  | none => exact Ret.t rfl (Ret.pure rfl)
  | some f =>
    obtain ⟨-, hfr⟩ := gF_some hg
    obtain ⟨x, y, rfl, rfl, hx, hy, hxy, hf, hn, g1, g2⟩ := canB_R ho hg
    refine Ret.f (by simp) ?_
    have e9 : M 399 (20 * b + f) = T 7 f := (h.2.1.2.2.1 f hf).2.2
    have c1 := h.coin ho (p := y) (by omega) hy
    have c2 := h.coin ho (p := x) (by omega) hx
    have ey : (8 + (y : Int)).toNat = 8 + y := by omega
    have ex : (8 + (x : Int)).toNat = 8 + x := by omega
    rw [M_friendsOf h ho, ob_some, hfr]
    dsimp only
    rw [Int.toNat_natCast, e9, letI_e, c1.1, c2.1, c1.2.2]
    simp only [Int.toNat_natCast, ex, ey]
    have hbf : 0 ≤ ((20 * b + f : Nat) : Int) ∧ ((20 * b + f : Nat) : Int) < 40 := by omega
    refine Ret.t hbf (Ret.t c1.2.1 ?_)
    by_cases hc : v (8 + y) < w32 (n * T 7 f)
    · rw [if_pos hc, if_neg (by omega)]; exact Ret.pure rfl
    · rw [if_neg hc, if_pos (by omega)]
      refine Ret.bind (M_keepAct (v' := payV (passV v x y n) x y (w32 (n * T 7 f))) hH h.2.2 (fun j _ => by rw [hva])) ?_
      rintro M1 ⟨y1, y2, y3, y4⟩
      have s1 : SM 411 0 v M1 := h.2.2.congr (fun j _ => y4 _ _ (by unfold pHM; omega))
      refine Ret.bind (M_pass s1 (a := x) (b := y) (by omega) (by omega) n) ?_
      rintro M2 ⟨y5, y6⟩
      refine Ret.t c1.2.1 (Ret.t c1.2.1 (Ret.letM (Ret.t c2.2.1 (Ret.t c2.2.1 (Ret.letM (Ret.pure ⟨rfl, SM_coin y5 (by omega) (by omega) _, ?_, fun k j hk => ?_⟩))))))
      · refine ⟨?_, by unfold hA; split <;> omega, fun i hi j hj => ?_, fun j hj => absurd hj (Nat.not_lt_zero _)⟩
        · dsimp only
          rw [mupd_ne _ _ (by omega), mupd_ne _ _ (by omega), mupd_ne _ _ (by omega), mupd_ne _ _ (by omega), y6 382 (by omega)]
          exact ⟨y1, y2⟩
        · dsimp only
          rw [mupd_ne _ _ (by omega), mupd_ne _ _ (by omega), y6 412 (by omega)]
          exact y3 i hi j hj
      · unfold pActM at hk
        dsimp only
        rw [mupd_ne _ _ (by omega), mupd_ne _ _ (by omega), y6 k (by omega), y4 k j (by unfold pHM; omega)]
