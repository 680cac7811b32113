/-! THE LAW: whatever is asked, both sides answer alike -/
theorem Ret.bindK {α β : Type} {P : β → Prop} {x : Option α} {k : α → Option β} (h : Ret x (fun e => Ret (k e) P)) : Ret (Option.bind x k) P := Ret.bind h fun _ he => he
theorem CC.go {β : Type} {P : β → Prop} {x : Option (Int × KM)} {y : KM → Option (Int × KM)} {k : Int × KM → Option β} (h : CC x y) (hk : ∀ q, Ret (y q.2) (fun r => q.1 = r.1 ∧ JJ r.2) → Ret (k q) P) : Ret (Option.bind x k) P := Ret.bind h hk
theorem X_law {L : Nat} {xs : Nat → Int} {M : KM} (hL : L < 2147483648) (h : JJ M) : Ret (f_L_law L xs M) (fun q => q.1 = 1) := by
  unfold f_L_law
  refine Ret.bindK (Ret.loop (L / 6) (fun k s => s.1 = ((6 * k : Nat) : Int) ∧ JJ s.2) ⟨rfl, h⟩ ?_ ?_)
  · rintro k ⟨i, M1⟩ hk ⟨h1, hJ⟩
    have h1 : i = ((6 * k : Nat) : Int) := h1
    have hJ : JJ M1 := hJ
    subst h1
    have hk6 : 6 * k + 6 ≤ L := by omega
    have g1 : 0 ≤ w32 (((6 * k : Nat) : Int) + 1) ∧ w32 (((6 * k : Nat) : Int) + 1) < (L : Int) := by rw [w32e (by omega) (by omega)]; omega
    have g2 : 0 ≤ w32 (((6 * k : Nat) : Int) + 2) ∧ w32 (((6 * k : Nat) : Int) + 2) < (L : Int) := by rw [w32e (by omega) (by omega)]; omega
    have g3 : 0 ≤ w32 (((6 * k : Nat) : Int) + 3) ∧ w32 (((6 * k : Nat) : Int) + 3) < (L : Int) := by rw [w32e (by omega) (by omega)]; omega
    have g4 : 0 ≤ w32 (((6 * k : Nat) : Int) + 4) ∧ w32 (((6 * k : Nat) : Int) + 4) < (L : Int) := by rw [w32e (by omega) (by omega)]; omega
    have g5 : 0 ≤ w32 (((6 * k : Nat) : Int) + 5) ∧ w32 (((6 * k : Nat) : Int) + 5) < (L : Int) := by rw [w32e (by omega) (by omega)]; omega
    have st : w32 (((6 * k : Nat) : Int) + 6) = ((6 * (k + 1) : Nat) : Int) := by rw [w32e (by omega) (by omega)]; omega
    refine Ret.t (by dsimp only; rw [w32e (n := (L : Int) - 6) (by omega) (by omega)]; omega) (Ret.t (by dsimp only; omega) ?_)
    refine Ret.br (fun _ => Ret.t g1 (Ret.t g2 (Ret.t g3 (Ret.t g4 (Ret.t g5 (CC.go (C_feed hJ _ _ _ _ _) fun q hq => Ret.t g1 (Ret.t g2 (Ret.t g3 (Ret.t g4 (Ret.t g5 (Ret.bind hq fun r hr => Ret.t hr.1 (Ret.pure ⟨st, hr.2⟩)))))))))))) (fun _ => ?_)
    refine Ret.br (fun _ => Ret.t g1 (CC.go (C_end hJ _) fun q hq => Ret.t g1 (Ret.bind hq fun r hr => Ret.t hr.1 (Ret.pure ⟨st, hr.2⟩)))) (fun _ => ?_)
    refine Ret.br (fun _ => CC.go (C_town hJ) fun q hq => Ret.bind hq fun r hr => Ret.t hr.1 (Ret.pure ⟨st, hr.2⟩)) (fun _ => ?_)
    refine Ret.br (fun _ => ?_) (fun _ => ?_)
    · obtain ⟨z, z1, z2⟩ := C_fault hJ (xs (w32 (((6 * k : Nat) : Int) + 1)).toNat)
      exact Ret.t g1 (Ret.bindE z1 (Ret.t g1 (Ret.bindE z2 (Ret.t rfl (Ret.pure ⟨st, hJ⟩)))))
    refine Ret.br (fun _ => ?_) (fun _ => ?_)
    · obtain ⟨z, z1, z2⟩ := C_person hJ (xs (w32 (((6 * k : Nat) : Int) + 1)).toNat) (xs (w32 (((6 * k : Nat) : Int) + 2)).toNat)
      exact Ret.t g1 (Ret.t g2 (Ret.bindE z1 (Ret.t g1 (Ret.t g2 (Ret.bindE z2 (Ret.t rfl (Ret.pure ⟨st, hJ⟩)))))))
    refine Ret.br (fun _ => Ret.t g1 (Ret.t g2 (CC.go (C_has hJ _ _) fun q hq => Ret.t g1 (Ret.t g2 (Ret.bind hq fun r hr => Ret.t hr.1 (Ret.pure ⟨st, hr.2⟩)))))) (fun _ => ?_)
    refine Ret.br (fun _ => Ret.t g1 (CC.go (C_odds hJ _) fun q hq => Ret.t g1 (Ret.bind hq fun r hr => Ret.t hr.1 (Ret.pure ⟨st, hr.2⟩)))) (fun _ => ?_)
    refine Ret.br (fun _ => ?_) (fun _ => ?_)
    · obtain ⟨z, z1, z2⟩ := C_sum hJ (xs (w32 (((6 * k : Nat) : Int) + 1)).toNat)
      exact Ret.t g1 (Ret.bindE z1 (Ret.t g1 (Ret.bindE z2 (Ret.t rfl (Ret.pure ⟨st, hJ⟩)))))
    refine Ret.br (fun _ => Ret.t g1 (Ret.t g2 (Ret.t g3 (CC.go (C_give hJ _ _ _) fun q hq => Ret.t g1 (Ret.t g2 (Ret.t g3 (Ret.bind hq fun r hr => Ret.t hr.1 (Ret.pure ⟨st, hr.2⟩)))))))) (fun _ => ?_)
    refine Ret.br (fun _ => Ret.t g1 (Ret.t g2 (Ret.t g3 (Ret.t g4 (CC.go (C_lend hJ _ _ _ _) fun q hq => Ret.t g1 (Ret.t g2 (Ret.t g3 (Ret.t g4 (Ret.bind hq fun r hr => Ret.t hr.1 (Ret.pure ⟨st, hr.2⟩)))))))))) (fun _ => ?_)
    refine Ret.br (fun _ => CC.go (C_year hJ) fun q hq => Ret.bind hq fun r hr => Ret.t hr.1 (Ret.pure ⟨st, hr.2⟩)) (fun _ => ?_)
    refine Ret.br (fun _ => CC.go (C_undo hJ) fun q hq => Ret.bind hq fun r hr => Ret.t hr.1 (Ret.pure ⟨st, hr.2⟩)) (fun _ => ?_)
    refine Ret.br (fun _ => CC.go (C_redo hJ) fun q hq => Ret.bind hq fun r hr => Ret.t hr.1 (Ret.pure ⟨st, hr.2⟩)) (fun _ => ?_)
    refine Ret.br (fun _ => ?_) (fun _ => ?_)
    · obtain ⟨z, z1, z2⟩ := C_loan hJ (xs (w32 (((6 * k : Nat) : Int) + 1)).toNat) (xs (w32 (((6 * k : Nat) : Int) + 2)).toNat)
      exact Ret.t g1 (Ret.t g2 (Ret.bindE z1 (Ret.t g1 (Ret.t g2 (Ret.bindE z2 (Ret.t rfl (Ret.pure ⟨st, hJ⟩)))))))
    refine Ret.br (fun _ => Ret.t g1 (Ret.t g2 (CC.go (C_target hJ _ _) fun q hq => Ret.t g1 (Ret.t g2 (Ret.bind hq fun r hr => Ret.t hr.1 (Ret.pure ⟨st, hr.2⟩)))))) (fun _ => ?_)
    refine Ret.br (fun _ => CC.go (C_hush hJ) fun q hq => Ret.bind hq fun r hr => Ret.t hr.1 (Ret.pure ⟨st, hr.2⟩)) (fun _ => ?_)
    refine Ret.br (fun _ => CC.go (C_cheapest hJ) fun q hq => Ret.bind hq fun r hr => Ret.t hr.1 (Ret.pure ⟨st, hr.2⟩)) (fun _ => ?_)
    refine Ret.br (fun _ => CC.go (C_barred hJ) fun q hq => Ret.bind hq fun r hr => Ret.t hr.1 (Ret.pure ⟨st, hr.2⟩)) (fun _ => ?_)
    refine Ret.br (fun _ => Ret.t g1 (Ret.t g2 (Ret.t g3 (CC.go (C_reach hJ _ _ _) fun q hq => Ret.t g1 (Ret.t g2 (Ret.t g3 (Ret.bind hq fun r hr => Ret.t hr.1 (Ret.pure ⟨st, hr.2⟩)))))))) (fun _ => ?_)
    refine Ret.br (fun _ => Ret.t g1 (CC.go (C_net hJ _) fun q hq => Ret.t g1 (Ret.bind hq fun r hr => Ret.t hr.1 (Ret.pure ⟨st, hr.2⟩)))) (fun _ => ?_)
    refine Ret.br (fun _ => CC.go (C_payments hJ) fun q hq => Ret.bind hq fun r hr => Ret.t hr.1 (Ret.pure ⟨st, hr.2⟩)) (fun _ => ?_)
    refine Ret.br (fun _ => Ret.bind (C_ring hJ) fun q hq => Ret.bind hq fun z hz => Ret.t hz.1 (Ret.pure ⟨st, hz.2⟩)) (fun _ => ?_)
    refine Ret.br (fun _ => ?_) (fun _ => ?_)
    · obtain ⟨z, z1, z2⟩ := C_market hJ (xs (w32 (((6 * k : Nat) : Int) + 1)).toNat) (xs (w32 (((6 * k : Nat) : Int) + 2)).toNat)
      exact Ret.t g1 (Ret.t g2 (Ret.bindE z1 (Ret.t g1 (Ret.t g2 (Ret.bindE z2 (Ret.t rfl (Ret.pure ⟨st, hJ⟩)))))))
    refine Ret.br (fun _ => ?_) (fun _ => ?_)
    · obtain ⟨z, z1, z2⟩ := C_rests hJ (xs (w32 (((6 * k : Nat) : Int) + 1)).toNat) (xs (w32 (((6 * k : Nat) : Int) + 2)).toNat)
      exact Ret.t g1 (Ret.t g2 (Ret.bindE z1 (Ret.t g1 (Ret.t g2 (Ret.bindE z2 (Ret.t rfl (Ret.pure ⟨st, hJ⟩)))))))
    refine Ret.br (fun _ => ?_) (fun _ => ?_)
    · obtain ⟨z, z1, z2⟩ := C_corner hJ (xs (w32 (((6 * k : Nat) : Int) + 1)).toNat) (xs (w32 (((6 * k : Nat) : Int) + 2)).toNat)
      exact Ret.t g1 (Ret.t g2 (Ret.bindE z1 (Ret.t g1 (Ret.t g2 (Ret.bind z2 fun r hr => Ret.t hr.1 (Ret.pure ⟨st, hr.2⟩))))))
    refine Ret.br (fun _ => CC.go (C_safest hJ) fun q hq => Ret.bind hq fun r hr => Ret.t hr.1 (Ret.pure ⟨st, hr.2⟩)) (fun _ => ?_)
    refine Ret.br (fun _ => CC.go (C_bends hJ) fun q hq => Ret.bind hq fun r hr => Ret.t hr.1 (Ret.pure ⟨st, hr.2⟩)) (fun _ => ?_)
    refine Ret.br (fun _ => Ret.t g1 (CC.go (C_twice hJ _) fun q hq => Ret.t g1 (Ret.bind hq fun r hr => Ret.t hr.1 (Ret.pure ⟨st, hr.2⟩)))) (fun _ => ?_)
    refine Ret.br (fun _ => Ret.t g1 (CC.go (C_fair hJ _) fun q hq => Ret.t g1 (Ret.bind hq fun r hr => Ret.t hr.1 (Ret.pure ⟨st, hr.2⟩)))) (fun _ => ?_)
    refine Ret.br (fun _ => Ret.t g1 (Ret.t g2 (CC.go (C_all hJ _ _) fun q hq => Ret.t g1 (Ret.t g2 (Ret.bind hq fun r hr => Ret.t hr.1 (Ret.pure ⟨st, hr.2⟩)))))) (fun _ => ?_)
    refine Ret.br (fun _ => ?_) (fun _ => ?_)
    · obtain ⟨z, z1, z2⟩ := C_lies hJ (xs (w32 (((6 * k : Nat) : Int) + 1)).toNat)
      exact Ret.t g1 (Ret.bindE z1 (Ret.t g1 (Ret.bindE z2 (Ret.t rfl (Ret.pure ⟨st, hJ⟩)))))
    refine Ret.br (fun _ => Ret.t g1 (Ret.t g2 (CC.go (C_face hJ _ _) fun q hq => Ret.t g1 (Ret.t g2 (Ret.bind hq fun r hr => Ret.t hr.1 (Ret.pure ⟨st, hr.2⟩)))))) (fun _ => ?_)
    refine Ret.br (fun _ => Ret.t g1 (CC.go (C_untell hJ _) fun q hq => Ret.t g1 (Ret.bind hq fun r hr => Ret.t hr.1 (Ret.pure ⟨st, hr.2⟩)))) (fun _ => ?_)
    refine Ret.br (fun _ => Ret.t g1 (CC.go (C_later hJ _) fun q hq => Ret.t g1 (Ret.bind hq fun r hr => Ret.t hr.1 (Ret.pure ⟨st, hr.2⟩)))) (fun _ => ?_)
    refine Ret.br (fun _ => Ret.t g1 (CC.go (C_explained hJ _) fun q hq => Ret.t g1 (Ret.bind hq fun r hr => Ret.t hr.1 (Ret.pure ⟨st, hr.2⟩)))) (fun _ => ?_)
    refine Ret.br (fun _ => Ret.t g1 (Ret.t g2 (CC.go (C_sure hJ _ _) fun q hq => Ret.t g1 (Ret.t g2 (Ret.bind hq fun r hr => Ret.t hr.1 (Ret.pure ⟨st, hr.2⟩)))))) (fun _ => ?_)
    refine Ret.br (fun _ => Ret.t g1 (CC.go (C_forged hJ _) fun q hq => Ret.t g1 (Ret.bind hq fun r hr => Ret.t hr.1 (Ret.pure ⟨st, hr.2⟩)))) (fun _ => ?_)
    refine Ret.br (fun _ => Ret.t g1 (CC.go (C_image hJ _) fun q hq => Ret.t g1 (Ret.bind hq fun r hr => Ret.t hr.1 (Ret.pure ⟨st, hr.2⟩)))) (fun _ => ?_)
    refine Ret.br (fun _ => Ret.t g1 (CC.go (C_back hJ _) fun q hq => Ret.t g1 (Ret.bind hq fun r hr => Ret.t hr.1 (Ret.pure ⟨st, hr.2⟩)))) (fun _ => ?_)
    refine Ret.br (fun _ => ?_) (fun _ => ?_)
    · obtain ⟨z, z1, z2⟩ := C_about hJ (xs (w32 (((6 * k : Nat) : Int) + 1)).toNat)
      exact Ret.t g1 (Ret.bindE z1 (Ret.t g1 (Ret.bindE z2 (Ret.t rfl (Ret.pure ⟨st, hJ⟩)))))
    exact Ret.pure ⟨st, hJ⟩
  · rintro ⟨i, M1⟩ ⟨h1, hJ⟩
    have h1 : i = ((6 * (L / 6) : Nat) : Int) := h1
    subst h1
    exact Ret.f (by dsimp only; rw [w32e (n := (L : Int) - 6) (by omega) (by omega)]; omega) (Ret.pure (Ret.pure rfl))
