/-! TOKENS of a text: W its bytes, n how many -/
def isBl (c : Int) : Bool := decide (c = 32) || decide (c = 10)
def isLt (c : Int) : Bool := decide (97 ≤ c) && decide (c ≤ 122)
def isDg (c : Int) : Bool := decide (48 ≤ c) && decide (c ≤ 57)
theorem isBl_iff (c : Int) : isBl c = true ↔ c = 32 ∨ c = 10 := by unfold isBl; rw [Bool.or_eq_true, decide_eq_true_eq, decide_eq_true_eq]
theorem isLt_iff (c : Int) : isLt c = true ↔ 97 ≤ c ∧ c ≤ 122 := by unfold isLt; rw [Bool.and_eq_true, decide_eq_true_eq, decide_eq_true_eq]
theorem isDg_iff (c : Int) : isDg c = true ↔ 48 ≤ c ∧ c ≤ 57 := by unfold isDg; rw [Bool.and_eq_true, decide_eq_true_eq, decide_eq_true_eq]
def runE (f : Int → Bool) (W : Nat → Int) (n : Nat) : Nat → Nat → Nat
  | 0, i => i
  | k + 1, i => if i < n ∧ f (W i) = true then runE f W n k (i + 1) else i
def rnE (f : Int → Bool) (W : Nat → Int) (n i : Nat) : Nat := runE f W n (n - i) i
theorem rnE_s {f : Int → Bool} {W : Nat → Int} {n i : Nat} (h : i < n) (hf : f (W i) = true) : rnE f W n i = rnE f W n (i + 1) := by
  unfold rnE
  rw [show n - i = (n - (i + 1)) + 1 by omega]
  show (if i < n ∧ f (W i) = true then runE f W n (n - (i + 1)) (i + 1) else i) = _
  rw [if_pos ⟨h, hf⟩]
theorem rnE_0 {f : Int → Bool} {W : Nat → Int} {n i : Nat} (h : ¬ (i < n ∧ f (W i) = true)) : rnE f W n i = i := by
  unfold rnE
  cases hk : n - i with
  | zero => rfl
  | succ k =>
    show (if i < n ∧ f (W i) = true then runE f W n k (i + 1) else i) = i
    rw [if_neg h]
theorem rnE_ok (f : Int → Bool) (W : Nat → Int) (n : Nat) : ∀ d i, n - i = d → i ≤ rnE f W n i ∧ (i ≤ n → rnE f W n i ≤ n) ∧ (∀ k, i ≤ k → k < rnE f W n i → f (W k) = true ∧ k < n) ∧ ¬ (rnE f W n i < n ∧ f (W (rnE f W n i)) = true) := by
  intro d
  induction d with
  | zero =>
    intro i hi
    have e : rnE f W n i = i := rnE_0 (fun h => by omega)
    rw [e]
    exact ⟨Nat.le_refl _, fun h => h, fun k h1 h2 => by omega, fun h => by omega⟩
  | succ d ih =>
    intro i hi
    by_cases hc : f (W i) = true
    · rw [rnE_s (by omega) hc]
      obtain ⟨a1, a2, a3, a4⟩ := ih (i + 1) (by omega)
      refine ⟨by omega, fun _ => a2 (by omega), fun k h1 h2 => ?_, a4⟩
      by_cases hki : k = i
      · subst hki; exact ⟨hc, by omega⟩
      · exact a3 k (by omega) h2
    · have e : rnE f W n i = i := rnE_0 (fun h => hc h.2)
      rw [e]
      exact ⟨Nat.le_refl _, fun h => h, fun k h1 h2 => by omega, fun h => hc h.2⟩
theorem rnE_le {f : Int → Bool} {W : Nat → Int} {n i : Nat} : i ≤ rnE f W n i := (rnE_ok f W n _ i rfl).1
theorem rnE_n {f : Int → Bool} {W : Nat → Int} {n i : Nat} (h : i ≤ n) : rnE f W n i ≤ n := (rnE_ok f W n _ i rfl).2.1 h
theorem rnE_mid {f : Int → Bool} {W : Nat → Int} {n i k : Nat} (h1 : i ≤ k) (h2 : k < rnE f W n i) : f (W k) = true ∧ k < n := (rnE_ok f W n _ i rfl).2.2.1 k h1 h2
theorem rnE_end {f : Int → Bool} {W : Nat → Int} {n i : Nat} : ¬ (rnE f W n i < n ∧ f (W (rnE f W n i)) = true) := (rnE_ok f W n _ i rfl).2.2.2
theorem rnE_at {f : Int → Bool} {W : Nat → Int} {n i k : Nat} (h1 : i ≤ k) (h2 : k ≤ rnE f W n i) : rnE f W n k = rnE f W n i := by
  induction k with
  | zero => rw [show i = 0 by omega]
  | succ k ih =>
    by_cases hik : i = k + 1
    · rw [hik]
    · have h3 := rnE_mid (f := f) (W := W) (n := n) (i := i) (k := k) (by omega) (by omega)
      rw [← rnE_s h3.2 h3.1]
      exact ih (by omega) (by omega)
def skB (W : Nat → Int) (n i : Nat) : Nat := rnE isBl W n i
def WDS : List (List Int) := [[112, 101, 114, 115, 111, 110], [97, 103, 101], [99, 111, 105, 110], [110, 101, 101, 100], [102, 97, 109, 105, 108, 121], [102, 114, 105, 101, 110, 100], [116, 111], [112, 114, 105, 99, 101], [114, 105, 103, 104, 116], [111, 100, 100, 115], [97, 103, 101, 115], [100, 114, 97, 119], [111, 114], [97, 110, 100], [110, 111, 116], [121, 101, 97, 114]]
def wdF (L : List Int) : List (List Int) → Nat → Option Nat
  | [], _ => none
  | u :: us, i => if u = L then some i else wdF L us (i + 1)
theorem wdF_some {L : List Int} : ∀ {us : List (List Int)} {i j : Nat}, wdF L us i = some j → ∃ k, j = i + k ∧ us[k]? = some L := by
  intro us
  induction us with
  | nil => intro i j h; cases h
  | cons u us ih =>
    intro i j h
    unfold wdF at h
    by_cases hu : u = L
    · rw [if_pos hu] at h
      exact ⟨0, by have := Option.some.inj h; omega, by rw [← hu]; rfl⟩
    · rw [if_neg hu] at h
      obtain ⟨k, h1, h2⟩ := ih h
      exact ⟨k + 1, by omega, h2⟩
theorem wdF_of {L : List Int} : ∀ {us : List (List Int)} {i k : Nat}, us[k]? = some L → (∀ q, q < k → us[q]? ≠ some L) → wdF L us i = some (i + k) := by
  intro us
  induction us with
  | nil => intro i k h; cases h
  | cons u us ih =>
    intro i k h hq
    unfold wdF
    cases k with
    | zero =>
      have : u = L := Option.some.inj h
      rw [if_pos this]; rfl
    | succ k =>
      have hu : u ≠ L := fun e => hq 0 (Nat.succ_pos _) (by rw [← e]; rfl)
      rw [if_neg hu, ih (k := k) h (fun q hk => hq (q + 1) (by omega))]
      congr 1; omega
theorem WDS_nd : ∀ i, i < 16 → ∀ j, j < i → WDS[j]? ≠ WDS[i]? := by decide +kernel
theorem wd_iff {L : List Int} {i : Nat} (hi : i < 16) : wdF L WDS 0 = some i ↔ WDS[i]? = some L := by
  constructor
  · intro h
    obtain ⟨k, h1, h2⟩ := wdF_some h
    rw [show i = k by omega]; exact h2
  · intro h
    rw [wdF_of h (fun q hq e => WDS_nd i hi q hq (by rw [e, h]))]
    congr 1; omega
theorem wd_lt {L : List Int} {i : Nat} (h : wdF L WDS 0 = some i) : i < 16 := by
  obtain ⟨k, h1, h2⟩ := wdF_some h
  have := (List.getElem?_eq_some_iff.mp h2).1
  have e : WDS.length = 16 := rfl
  omega
def wrd (W : Nat → Int) (p k : Nat) : List Int := (List.range k).map fun i => W (p + i)
theorem wrd_s (W : Nat → Int) (p k : Nat) : wrd W p (k + 1) = wrd W p k ++ [W (p + k)] := by unfold wrd; rw [List.range_succ, List.map_append]; rfl
theorem wrd_len (W : Nat → Int) (p k : Nat) : (wrd W p k).length = k := by unfold wrd; rw [List.length_map, List.length_range]
theorem wrd_get {W : Nat → Int} {p k i : Nat} (h : i < k) : (wrd W p k)[i]? = some (W (p + i)) := by unfold wrd; rw [List.getElem?_map, List.getElem?_range h]; rfl
def sgL : List Int := [59, 40, 41, 60, 62, 61, 43, 45, 42, 47, 37]
def tkE (W : Nat → Int) (n p : Nat) : Nat := if n ≤ p then p else if isLt (W p) = true then rnE isLt W n p else if isDg (W p) = true then rnE isDg W n p else p + 1
def tkW (W : Nat → Int) (n p : Nat) : List Int := wrd W p (tkE W n p - p)
def numV (L : List Int) : Int := L.foldl (fun a c => a * 10 + (c - 48)) 0
def tkV (W : Nat → Int) (n p : Nat) : Int := numV (tkW W n p)
def wKd (L : List Int) : Int := match wdF L WDS 0 with
  | some i => 128 + (i : Int)
  | none => 1
def tkK (W : Nat → Int) (n p : Nat) : Int := if n ≤ p then 3 else if isLt (W p) = true then (if tkE W n p - p ≤ 8 then wKd (tkW W n p) else 0) else if isDg (W p) = true then (if tkE W n p - p ≤ 4 ∧ ¬ (tkE W n p < n ∧ isLt (W (tkE W n p)) = true) then 2 else 0) else if W p ∈ sgL then W p else 0
theorem tkE_gt {W : Nat → Int} {n p : Nat} (h : p < n) : p < tkE W n p ∧ tkE W n p ≤ n := by
  unfold tkE
  rw [if_neg (by omega)]
  split
  · rename_i hl
    rw [rnE_s h hl]
    have := rnE_le (f := isLt) (W := W) (n := n) (i := p + 1)
    have := rnE_n (f := isLt) (W := W) (n := n) (i := p + 1) (by omega)
    omega
  · split
    · rename_i hd
      rw [rnE_s h hd]
      have := rnE_le (f := isDg) (W := W) (n := n) (i := p + 1)
      have := rnE_n (f := isDg) (W := W) (n := n) (i := p + 1) (by omega)
      omega
    · omega
theorem wKd_R (L : List Int) : (wKd L = 1 ∧ wdF L WDS 0 = none) ∨ ∃ i : Nat, i < 16 ∧ wKd L = 128 + (i : Int) ∧ WDS[i]? = some L := by
  unfold wKd
  cases h : wdF L WDS 0 with
  | none => exact Or.inl ⟨rfl, rfl⟩
  | some i => exact Or.inr ⟨i, wd_lt h, rfl, (wd_iff (wd_lt h)).mp h⟩
/-- which tokens there are -/
theorem sgL_R {c : Int} (h : c ∈ sgL) : 37 ≤ c ∧ c ≤ 62 := by
  unfold sgL at h
  simp only [List.mem_cons, List.not_mem_nil, or_false] at h
  omega
theorem tkK_R (W : Nat → Int) (n p : Nat) : (tkK W n p = 3 ∧ n ≤ p) ∨ (p < n ∧ ((tkK W n p = 0) ∨ (tkK W n p = 1 ∧ isLt (W p) = true ∧ tkE W n p - p ≤ 8) ∨ (tkK W n p = 2 ∧ isLt (W p) = false ∧ isDg (W p) = true ∧ tkE W n p - p ≤ 4) ∨ (37 ≤ tkK W n p ∧ tkK W n p ≤ 62 ∧ tkK W n p = W p ∧ isLt (W p) = false ∧ isDg (W p) = false ∧ W p ∈ sgL) ∨ ∃ i : Nat, i < 16 ∧ tkK W n p = 128 + (i : Int) ∧ WDS[i]? = some (tkW W n p) ∧ isLt (W p) = true)) := by
  unfold tkK
  by_cases hn : n ≤ p
  · rw [if_pos hn]; exact Or.inl ⟨rfl, hn⟩
  · rw [if_neg hn]
    refine Or.inr ⟨by omega, ?_⟩
    by_cases hl : isLt (W p) = true
    · rw [if_pos hl]
      by_cases h8 : tkE W n p - p ≤ 8
      · rw [if_pos h8]
        rcases wKd_R (tkW W n p) with ⟨h1, _⟩ | ⟨i, h1, h2, h3⟩
        · exact Or.inr (Or.inl ⟨h1, hl, h8⟩)
        · exact Or.inr (Or.inr (Or.inr (Or.inr ⟨i, h1, h2, h3, hl⟩)))
      · rw [if_neg h8]; exact Or.inl rfl
    · rw [if_neg hl]
      rw [Bool.not_eq_true] at hl
      by_cases hd : isDg (W p) = true
      · rw [if_pos hd]
        by_cases h4 : tkE W n p - p ≤ 4 ∧ ¬ (tkE W n p < n ∧ isLt (W (tkE W n p)) = true)
        · rw [if_pos h4]; exact Or.inr (Or.inr (Or.inl ⟨rfl, hl, hd, h4.1⟩))
        · rw [if_neg h4]; exact Or.inl rfl
      · rw [if_neg hd]
        rw [Bool.not_eq_true] at hd
        by_cases hs : W p ∈ sgL
        · rw [if_pos hs]
          have := sgL_R hs
          exact Or.inr (Or.inr (Or.inr (Or.inl ⟨by omega, by omega, rfl, hl, hd, hs⟩)))
        · rw [if_neg hs]; exact Or.inl rfl
/-- the places of the tokens -/
def plS (W : Nat → Int) (n : Nat) : Nat → Nat
  | 0 => skB W n 0
  | k + 1 => skB W n (tkE W n (plS W n k))
def good (k : Int) : Prop := k ≠ 0 ∧ k ≠ 3
theorem skB_n {W : Nat → Int} {n i : Nat} (h : i ≤ n) : skB W n i ≤ n := rnE_n h
theorem skB_le {W : Nat → Int} {n i : Nat} : i ≤ skB W n i := rnE_le
theorem plS_n (W : Nat → Int) (n : Nat) : ∀ k, plS W n k ≤ n := by
  intro k
  induction k with
  | zero => exact skB_n (Nat.zero_le _)
  | succ k ih =>
    refine skB_n ?_
    by_cases h : plS W n k < n
    · exact (tkE_gt h).2
    · unfold tkE
      rw [if_pos (by omega)]; exact ih
theorem plS_ge {W : Nat → Int} {n : Nat} : ∀ k, (∀ i, i < k → good (tkK W n (plS W n i))) → k ≤ plS W n k := by
  intro k
  induction k with
  | zero => intro _; exact Nat.zero_le _
  | succ k ih =>
    intro h
    have h1 := ih fun i hi => h i (by omega)
    have hg := h k (by omega)
    have hlt : plS W n k < n := by
      rcases tkK_R W n (plS W n k) with ⟨e, _⟩ | ⟨h2, _⟩
      · exact absurd e hg.2
      · exact h2
    have := (tkE_gt (W := W) hlt).1
    have := skB_le (W := W) (n := n) (i := tkE W n (plS W n k))
    show k + 1 ≤ skB W n (tkE W n (plS W n k))
    omega
/-- what the first side's scan leaves: tokens 0 .. J -/
def lastT (W : Nat → Int) (n J : Nat) : Prop := (∀ k, k < J → good (tkK W n (plS W n k))) ∧ ¬ good (tkK W n (plS W n J))
theorem lastT_n {W : Nat → Int} {n J : Nat} (h : lastT W n J) : J ≤ n := Nat.le_trans (plS_ge J h.1) (plS_n W n J)
/-! names -/
def nmv (B d : Int) (L : List Int) : Int := L.foldl (fun a c => a * B + (c - d)) 0
theorem nmv_s (B d : Int) (L : List Int) (c : Int) : nmv B d (L ++ [c]) = nmv B d L * B + (c - d) := by unfold nmv; rw [List.foldl_append]; rfl
def rvv (B d : Int) : List Int → Int
  | [] => 0
  | c :: L => rvv B d L * B + (c - d)
theorem nmv_rv (B d : Int) (L : List Int) : nmv B d L = rvv B d L.reverse := by
  rw [nmv, List.foldl_eq_foldr_reverse]
  generalize L.reverse = K
  induction K with
  | nil => rfl
  | cons c K ih => rw [List.foldr_cons, ih]; rfl
theorem rvv_inj {B d : Int} (hB : 0 < B) : ∀ {K L : List Int}, (∀ c, c ∈ K → 1 ≤ c - d ∧ c - d < B) → (∀ c, c ∈ L → 1 ≤ c - d ∧ c - d < B) → rvv B d K = rvv B d L → K = L := by
  have nn : ∀ {K : List Int}, (∀ c, c ∈ K → 1 ≤ c - d ∧ c - d < B) → 0 ≤ rvv B d K := by
    intro K
    induction K with
    | nil => intro _; exact Int.le_refl _
    | cons c K ih =>
      intro h
      have h1 := ih fun x hx => h x (List.mem_cons_of_mem _ hx)
      have h2 := h c List.mem_cons_self
      have h3 := Int.mul_nonneg h1 (show 0 ≤ B by omega)
      show 0 ≤ rvv B d K * B + (c - d)
      omega
  intro K
  induction K with
  | nil =>
    intro L _ hL h
    cases L with
    | nil => rfl
    | cons c L =>
      have h1 := nn fun x hx => hL x (List.mem_cons_of_mem _ hx)
      have h2 := hL c List.mem_cons_self
      have h3 := Int.mul_nonneg h1 (show 0 ≤ B by omega)
      have h4 : (0 : Int) = rvv B d L * B + (c - d) := h
      omega
  | cons a K ih =>
    intro L hK hL h
    have k1 := nn fun x hx => hK x (List.mem_cons_of_mem _ hx)
    have k2 := hK a List.mem_cons_self
    cases L with
    | nil =>
      have h3 := Int.mul_nonneg k1 (show 0 ≤ B by omega)
      have h4 : rvv B d K * B + (a - d) = 0 := h
      omega
    | cons c L =>
      have h1 := nn fun x hx => hL x (List.mem_cons_of_mem _ hx)
      have h2 := hL c List.mem_cons_self
      have h4 : rvv B d K * B + (a - d) = rvv B d L * B + (c - d) := h
      have m1 : (rvv B d K * B + (a - d)) % B = a - d := by rw [Int.add_comm, Int.add_mul_emod_self_right]; exact Int.emod_eq_of_lt (by omega) k2.2
      have m2 : (rvv B d L * B + (c - d)) % B = c - d := by rw [Int.add_comm, Int.add_mul_emod_self_right]; exact Int.emod_eq_of_lt (by omega) h2.2
      have e1 : a - d = c - d := by rw [← m1, ← m2, h4]
      have e2 : rvv B d K * B = rvv B d L * B := by omega
      have e3 := Int.eq_of_mul_eq_mul_right (show B ≠ 0 by omega) e2
      rw [ih (fun x hx => hK x (List.mem_cons_of_mem _ hx)) (fun x hx => hL x (List.mem_cons_of_mem _ hx)) e3, show a = c by omega]
theorem nmv_inj {B d : Int} (hB : 0 < B) {K L : List Int} (hK : ∀ c, c ∈ K → 1 ≤ c - d ∧ c - d < B) (hL : ∀ c, c ∈ L → 1 ≤ c - d ∧ c - d < B) (h : nmv B d K = nmv B d L) : K = L := by
  rw [nmv_rv, nmv_rv] at h
  have := rvv_inj hB (fun c hc => hK c (List.mem_reverse.mp hc)) (fun c hc => hL c (List.mem_reverse.mp hc)) h
  exact List.reverse_inj.mp this
def ltrs (L : List Int) : Prop := ∀ c, c ∈ L → 97 ≤ c ∧ c ≤ 122
def nmC (L : List Int) : Int := nmv 27 96 L
def nmM (L : List Int) : Int := nmv 256 0 L
theorem nmC_inj {K L : List Int} (hK : ltrs K) (hL : ltrs L) : nmC K = nmC L ↔ K = L := ⟨fun h => nmv_inj (by omega) (fun c hc => by have := hK c hc; omega) (fun c hc => by have := hL c hc; omega) h, fun h => by rw [h]⟩
theorem nmM_inj {K L : List Int} (hK : ltrs K) (hL : ltrs L) : nmM K = nmM L ↔ K = L := ⟨fun h => nmv_inj (by omega) (fun c hc => by have := hK c hc; omega) (fun c hc => by have := hL c hc; omega) h, fun h => by rw [h]⟩
theorem nm_R : ∀ {L : List Int}, ltrs L → ∀ k, L.length ≤ k → 0 ≤ nmC L ∧ nmC L < ((27 ^ k : Nat) : Int) ∧ 0 ≤ nmM L ∧ nmM L < 128 * ((256 ^ (k - 1) : Nat) : Int) := by
  have key : ∀ {K : List Int}, ltrs K → 0 ≤ rvv 27 96 K ∧ rvv 27 96 K < ((27 ^ K.length : Nat) : Int) ∧ 0 ≤ rvv 256 0 K ∧ rvv 256 0 K < ((256 ^ K.length : Nat) : Int) := by
    intro K
    induction K with
    | nil => intro _; exact ⟨Int.le_refl _, by decide, Int.le_refl _, by decide⟩
    | cons c K ih =>
      intro h
      have h1 := ih fun x hx => h x (List.mem_cons_of_mem _ hx)
      have h2 := h c List.mem_cons_self
      rw [List.length_cons, Nat.pow_succ, Nat.pow_succ]
      show 0 ≤ rvv 27 96 K * 27 + (c - 96) ∧ rvv 27 96 K * 27 + (c - 96) < _ ∧ 0 ≤ rvv 256 0 K * 256 + (c - 0) ∧ rvv 256 0 K * 256 + (c - 0) < _
      omega
  have top : ∀ {L : List Int}, ltrs L → L ≠ [] → rvv 256 0 L.reverse < 128 * ((256 ^ (L.length - 1) : Nat) : Int) := by
    intro L
    cases L with
    | nil => intro _ h; exact absurd rfl h
    | cons c L =>
      intro h _
      rw [List.reverse_cons]
      have gen : ∀ {K : List Int}, ltrs K → rvv 256 0 (K ++ [c]) < 128 * ((256 ^ K.length : Nat) : Int) := by
        intro K
        induction K with
        | nil =>
          intro _
          have := h c List.mem_cons_self
          show (0 : Int) * 256 + (c - 0) < 128 * 1
          omega
        | cons x K ih =>
          intro hK
          have h1 := ih fun y hy => hK y (List.mem_cons_of_mem _ hy)
          have h2 := hK x List.mem_cons_self
          rw [List.length_cons, Nat.pow_succ]
          show rvv 256 0 (K ++ [c]) * 256 + (x - 0) < _
          omega
      have := gen (K := L.reverse) fun x hx => h x (List.mem_cons_of_mem _ (List.mem_reverse.mp hx))
      rw [List.length_reverse] at this
      rw [List.length_cons]
      exact this
  intro L hL k hk
  have h1 := key (K := L.reverse) fun x hx => hL x (List.mem_reverse.mp hx)
  rw [List.length_reverse] at h1
  have p1 : ((27 ^ L.length : Nat) : Int) ≤ ((27 ^ k : Nat) : Int) := by have := Nat.pow_le_pow_right (n := 27) (by omega) hk; omega
  unfold nmC nmM
  rw [nmv_rv, nmv_rv]
  refine ⟨h1.1, by omega, h1.2.2.1, ?_⟩
  by_cases hn : L = []
  · subst hn
    show (0 : Int) < 128 * ((256 ^ (k - 1) : Nat) : Int)
    have := Nat.pow_pos (n := k - 1) (show 0 < 256 by omega)
    omega
  · have h2 := top hL hn
    have p2 : ((256 ^ (L.length - 1) : Nat) : Int) ≤ ((256 ^ (k - 1) : Nat) : Int) := by have := Nat.pow_le_pow_right (n := 256) (by omega) (show L.length - 1 ≤ k - 1 by omega); omega
    omega
