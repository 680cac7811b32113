/-! THE REFERENCE IS MADE -/
theorem kw_M_176 : kML "YearHandsModel" 176 y_M_clearBank := Or.inl (tb_at 1449 (by decide +kernel))
theorem kw_M_179 : kML "YearHandsModel" 179 y_M_startAnew := Or.inl (tb_at 1453 (by decide +kernel))
theorem kS0_M : kS0.take 382 ++ blk_M 382 = kS0 := by decide +kernel
set_option maxRecDepth 100000 in
set_option maxHeartbeats 20000000 in
theorem ci_M {S1 : KS} (hS1 : S1 = kS0.take 382) (hn : S1.length = 382) {M q1 q2 : KM} (hz : kblk M S1.length) (hq1 : f_M_clearBank (mupd (mupd M 382 5 (-1)) 382 59 (-1)) = some q1) (hq2 : f_M_startAnew q1 = some q2) : Cin y_M_init Y_M_init S1 ((1, kN 1), List.replicate (kN 1) none) M (blk_M S1.length) q2 := by
  unfold Cin
  have l1 : (S1 ++ [((1, kN 1), List.replicate (kN 1) none)]).length = S1.length + 1 := by rw [List.length_append]; rfl
  have l2 : (S1 ++ blk_M S1.length).length = S1.length + 53 := by rw [List.length_append, (bl_M _).1]
  have z1 : ksz (S1 ++ [((1, kN 1), List.replicate (kN 1) (none : Option Nat))]) = ksz S1 + 78 := by rw [ksz_app]; rfl
  have z2 : ksz (S1 ++ blk_M S1.length) = ksz S1 + 25300 := by rw [ksz_app, (bl_M _).2]
  refine ctr_ofL (α := Unit) (e := some ()) (a := ()) (κ := fun _ => .inr (none, S1 ++ blk_M S1.length, q2)) md_M_init (Nat.le_of_ble_eq_true rfl) (by rw [l1, l2, z1, z2]; omega) 0 rfl rfl (fun _ G hG hi0 => ?_)
  have hi := hi0 rfl
  have g1 : G.2.2.1.2.2.1 = S1.length + 53 := by rw [hG]; exact l2
  have g2 : G.2.2.1.2.2.2 = ksz S1 + 25300 := by rw [hG]; exact z2
  refine wk_M hi hz g1 g2 ?_
  rw [hn]
  have hE : KExt 435 (S1 ++ blk_M 382) := fun k q hk hq => by rw [hS1, kS0_M]; exact hq
  refine s_aload_n (dt_M_init 216 _ _ _ rfl) rfl ?_
  refine s_inv (y := y_M_clearBank) (Y' := Y_M_clearBank) (np := 0) (as := [VR (some 382)]) (r := none) (Or.inr (Or.inl ⟨(dt_M_init 217 _ _ _ rfl), kin_M_clearBank, 1, 382, 78, _, [], by decide, sc_382 hE, kse_M_clearBank, rfl, rfl⟩)) (kw_M_176) md_M_clearBank rfl rfl (c_M_clearBank hE _ _ hq1) ?_
  refine s_aload_n (dt_M_init 218 _ _ _ rfl) rfl ?_
  refine s_inv (y := y_M_startAnew) (Y' := Y_M_startAnew) (np := 0) (as := [VR (some 382)]) (r := none) (Or.inr (Or.inl ⟨(dt_M_init 219 _ _ _ rfl), kin_M_startAnew, 1, 382, 78, _, [], by decide, sc_382 hE, kse_M_startAnew, rfl, rfl⟩)) (kw_M_179) md_M_startAnew rfl rfl (c_M_startAnew hE _ _ hq2) ?_
  exact s_vret (dt_M_init 220 _ _ _ rfl) rfl rfl
