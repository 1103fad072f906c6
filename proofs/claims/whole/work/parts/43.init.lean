/-! THE CONSTRUCTORS of the house, the sheet, the tape and the reference. -/
def H0 : HSt := ((upd (upd (upd (upd (upd (upd (upd (upd (fun _ => 0) 0 20) 1 20) 2 20) 3 20) 4 20) 5 20) 6 20) 7 20), (fun _ => 0), (fun _ => 0), (fun _ => 0), (fun _ => 0), (fun _ => 0), 0, 3, 0)
set_option maxRecDepth 100000 in
set_option maxHeartbeats 4000000 in
theorem cn_house {β : zz_B} {b0 : Nat} : zCn β yX0_init cX0_init 2 1 20 6 48 [.ref b0] [(b0, .inr (0, [.null, .null, .null, .null, .null, .null, .int 0, .int 0, .int 0]))] (fun r w => r = none ∧ ∃ u : Nat → Nat, u 0 = b0 ∧ w = hW β u H0) := by
  refine zCn.of (by decide) rfl (Nat.le_of_ble_eq_true rfl) ?_
  intro Γ g hk hJ hI
  show zV β 2 Γ [(b0, .inr (0, [.null, .null, .null, .null, .null, .null, .int 0, .int 0, .int 0]))] 0 [(0, .ref b0)] []
  refine zv_aload_n (pc := 0) g dX0_init_0 0 rfl rfl ?_
  refine zv_obj (pc := 1) g wd_90 (by decide) (by decide) (Nat.le_of_ble_eq_true rfl) dX0_init_1 ?_
  refine zv_aload_n (pc := 4) g dX0_init_4 0 rfl rfl ?_
  refine zv_bipush (pc := 5) g dX0_init_5 (v := 8) (by decide) ?_
  refine zv_newI (pc := 7) (N := 8) (fun q1 => [(b0, .inr (0, [.null, .null, .null, .null, .null, .null, .int 0, .int 0, .int 0])), (q1, .inl (β.2.2.1.1, 8, .inl (fun _ => 0)))]) g (zK.sub (c0 := 1) (c := 5) (k0 := 8) (k := 40) hk) (by decide) (by decide) (by decide) (fun _ => rfl) dX0_init_7 (fun q1 => ?_)
  have g := zG.more g (zK.sub (c0 := 1) (c := 5) (k0 := 8) (k := 40) hk)
  have hJ := zJ.step (c0 := 1) (c := 5) (k0 := 8) (k := 40) hJ
  have hI : zI (zA Γ 1 8) := hI
  have hk := zK.step (c0 := 1) (c := 5) (k0 := 8) (k := 40) hk
  generalize zA Γ 1 8 = Γ1 at g hJ hI hk ⊢
  refine zv_putF (pc := 9) [(b0, .inr (0, [.ref q1, .null, .null, .null, .null, .null, .int 0, .int 0, .int 0])), (q1, .inl (β.2.2.1.1, 8, .inl (fun _ => 0)))] g hI ⟨fl_X0_9, tyX0_ok, nmX0, rfl, rfl⟩ 0 rfl rfl rfl (Nat.le_of_ble_eq_true rfl) rfl dX0_init_9 ?_
  refine zv_aload_n (pc := 12) g dX0_init_12 0 rfl rfl ?_
  refine zv_bipush (pc := 13) g dX0_init_13 (v := 8) (by decide) ?_
  refine zv_newI (pc := 15) (N := 8) (fun q2 => [(b0, .inr (0, [.ref q1, .null, .null, .null, .null, .null, .int 0, .int 0, .int 0])), (q1, .inl (β.2.2.1.1, 8, .inl (fun _ => 0))), (q2, .inl (β.2.2.1.1, 8, .inl (fun _ => 0)))]) g (zK.sub (c0 := 1) (c := 4) (k0 := 8) (k := 32) hk) (by decide) (by decide) (by decide) (fun _ => rfl) dX0_init_15 (fun q2 => ?_)
  have g := zG.more g (zK.sub (c0 := 1) (c := 4) (k0 := 8) (k := 32) hk)
  have hJ := zJ.step (c0 := 1) (c := 4) (k0 := 8) (k := 32) hJ
  have hI : zI (zA Γ1 1 8) := hI
  have hk := zK.step (c0 := 1) (c := 4) (k0 := 8) (k := 32) hk
  generalize zA Γ1 1 8 = Γ2 at g hJ hI hk ⊢
  refine zv_putF (pc := 17) [(b0, .inr (0, [.ref q1, .ref q2, .null, .null, .null, .null, .int 0, .int 0, .int 0])), (q1, .inl (β.2.2.1.1, 8, .inl (fun _ => 0))), (q2, .inl (β.2.2.1.1, 8, .inl (fun _ => 0)))] g hI ⟨fl_X0_15, tyX0_ok, nmX0, rfl, rfl⟩ 0 rfl rfl rfl (Nat.le_of_ble_eq_true rfl) rfl dX0_init_17 ?_
  refine zv_aload_n (pc := 20) g dX0_init_20 0 rfl rfl ?_
  refine zv_bipush (pc := 21) g dX0_init_21 (v := 8) (by decide) ?_
  refine zv_newI (pc := 23) (N := 8) (fun q3 => [(b0, .inr (0, [.ref q1, .ref q2, .null, .null, .null, .null, .int 0, .int 0, .int 0])), (q1, .inl (β.2.2.1.1, 8, .inl (fun _ => 0))), (q2, .inl (β.2.2.1.1, 8, .inl (fun _ => 0))), (q3, .inl (β.2.2.1.1, 8, .inl (fun _ => 0)))]) g (zK.sub (c0 := 1) (c := 3) (k0 := 8) (k := 24) hk) (by decide) (by decide) (by decide) (fun _ => rfl) dX0_init_23 (fun q3 => ?_)
  have g := zG.more g (zK.sub (c0 := 1) (c := 3) (k0 := 8) (k := 24) hk)
  have hJ := zJ.step (c0 := 1) (c := 3) (k0 := 8) (k := 24) hJ
  have hI : zI (zA Γ2 1 8) := hI
  have hk := zK.step (c0 := 1) (c := 3) (k0 := 8) (k := 24) hk
  generalize zA Γ2 1 8 = Γ3 at g hJ hI hk ⊢
  refine zv_putF (pc := 25) [(b0, .inr (0, [.ref q1, .ref q2, .ref q3, .null, .null, .null, .int 0, .int 0, .int 0])), (q1, .inl (β.2.2.1.1, 8, .inl (fun _ => 0))), (q2, .inl (β.2.2.1.1, 8, .inl (fun _ => 0))), (q3, .inl (β.2.2.1.1, 8, .inl (fun _ => 0)))] g hI ⟨fl_X0_18, tyX0_ok, nmX0, rfl, rfl⟩ 0 rfl rfl rfl (Nat.le_of_ble_eq_true rfl) rfl dX0_init_25 ?_
  refine zv_aload_n (pc := 28) g dX0_init_28 0 rfl rfl ?_
  refine zv_bipush (pc := 29) g dX0_init_29 (v := 8) (by decide) ?_
  refine zv_newI (pc := 31) (N := 8) (fun q4 => [(b0, .inr (0, [.ref q1, .ref q2, .ref q3, .null, .null, .null, .int 0, .int 0, .int 0])), (q1, .inl (β.2.2.1.1, 8, .inl (fun _ => 0))), (q2, .inl (β.2.2.1.1, 8, .inl (fun _ => 0))), (q3, .inl (β.2.2.1.1, 8, .inl (fun _ => 0))), (q4, .inl (β.2.2.1.1, 8, .inl (fun _ => 0)))]) g (zK.sub (c0 := 1) (c := 2) (k0 := 8) (k := 16) hk) (by decide) (by decide) (by decide) (fun _ => rfl) dX0_init_31 (fun q4 => ?_)
  have g := zG.more g (zK.sub (c0 := 1) (c := 2) (k0 := 8) (k := 16) hk)
  have hJ := zJ.step (c0 := 1) (c := 2) (k0 := 8) (k := 16) hJ
  have hI : zI (zA Γ3 1 8) := hI
  have hk := zK.step (c0 := 1) (c := 2) (k0 := 8) (k := 16) hk
  generalize zA Γ3 1 8 = Γ4 at g hJ hI hk ⊢
  refine zv_putF (pc := 33) [(b0, .inr (0, [.ref q1, .ref q2, .ref q3, .ref q4, .null, .null, .int 0, .int 0, .int 0])), (q1, .inl (β.2.2.1.1, 8, .inl (fun _ => 0))), (q2, .inl (β.2.2.1.1, 8, .inl (fun _ => 0))), (q3, .inl (β.2.2.1.1, 8, .inl (fun _ => 0))), (q4, .inl (β.2.2.1.1, 8, .inl (fun _ => 0)))] g hI ⟨fl_X0_21, tyX0_ok, nmX0, rfl, rfl⟩ 0 rfl rfl rfl (Nat.le_of_ble_eq_true rfl) rfl dX0_init_33 ?_
  refine zv_aload_n (pc := 36) g dX0_init_36 0 rfl rfl ?_
  refine zv_bipush (pc := 37) g dX0_init_37 (v := 8) (by decide) ?_
  refine zv_newI (pc := 39) (N := 8) (fun q5 => [(b0, .inr (0, [.ref q1, .ref q2, .ref q3, .ref q4, .null, .null, .int 0, .int 0, .int 0])), (q1, .inl (β.2.2.1.1, 8, .inl (fun _ => 0))), (q2, .inl (β.2.2.1.1, 8, .inl (fun _ => 0))), (q3, .inl (β.2.2.1.1, 8, .inl (fun _ => 0))), (q4, .inl (β.2.2.1.1, 8, .inl (fun _ => 0))), (q5, .inl (β.2.2.1.1, 8, .inl (fun _ => 0)))]) g (zK.sub (c0 := 1) (c := 1) (k0 := 8) (k := 8) hk) (by decide) (by decide) (by decide) (fun _ => rfl) dX0_init_39 (fun q5 => ?_)
  have g := zG.more g (zK.sub (c0 := 1) (c := 1) (k0 := 8) (k := 8) hk)
  have hJ := zJ.step (c0 := 1) (c := 1) (k0 := 8) (k := 8) hJ
  have hI : zI (zA Γ4 1 8) := hI
  have hk := zK.step (c0 := 1) (c := 1) (k0 := 8) (k := 8) hk
  generalize zA Γ4 1 8 = Γ5 at g hJ hI hk ⊢
  refine zv_putF (pc := 41) [(b0, .inr (0, [.ref q1, .ref q2, .ref q3, .ref q4, .ref q5, .null, .int 0, .int 0, .int 0])), (q1, .inl (β.2.2.1.1, 8, .inl (fun _ => 0))), (q2, .inl (β.2.2.1.1, 8, .inl (fun _ => 0))), (q3, .inl (β.2.2.1.1, 8, .inl (fun _ => 0))), (q4, .inl (β.2.2.1.1, 8, .inl (fun _ => 0))), (q5, .inl (β.2.2.1.1, 8, .inl (fun _ => 0)))] g hI ⟨fl_X0_24, tyX0_ok, nmX0, rfl, rfl⟩ 0 rfl rfl rfl (Nat.le_of_ble_eq_true rfl) rfl dX0_init_41 ?_
  refine zv_aload_n (pc := 44) g dX0_init_44 0 rfl rfl ?_
  refine zv_bipush (pc := 45) g dX0_init_45 (v := 8) (by decide) ?_
  refine zv_newI (pc := 47) (N := 8) (fun q6 => [(b0, .inr (0, [.ref q1, .ref q2, .ref q3, .ref q4, .ref q5, .null, .int 0, .int 0, .int 0])), (q1, .inl (β.2.2.1.1, 8, .inl (fun _ => 0))), (q2, .inl (β.2.2.1.1, 8, .inl (fun _ => 0))), (q3, .inl (β.2.2.1.1, 8, .inl (fun _ => 0))), (q4, .inl (β.2.2.1.1, 8, .inl (fun _ => 0))), (q5, .inl (β.2.2.1.1, 8, .inl (fun _ => 0))), (q6, .inl (β.2.2.1.1, 8, .inl (fun _ => 0)))]) g (zK.sub (c0 := 1) (c := 0) (k0 := 8) (k := 0) hk) (by decide) (by decide) (by decide) (fun _ => rfl) dX0_init_47 (fun q6 => ?_)
  have g := zG.more g (zK.sub (c0 := 1) (c := 0) (k0 := 8) (k := 0) hk)
  have hJ := zJ.step (c0 := 1) (c := 0) (k0 := 8) (k := 0) hJ
  have hI : zI (zA Γ5 1 8) := hI
  have hk := zK.step (c0 := 1) (c := 0) (k0 := 8) (k := 0) hk
  generalize zA Γ5 1 8 = Γ6 at g hJ hI hk ⊢
  refine zv_putF (pc := 49) [(b0, .inr (0, [.ref q1, .ref q2, .ref q3, .ref q4, .ref q5, .ref q6, .int 0, .int 0, .int 0])), (q1, .inl (β.2.2.1.1, 8, .inl (fun _ => 0))), (q2, .inl (β.2.2.1.1, 8, .inl (fun _ => 0))), (q3, .inl (β.2.2.1.1, 8, .inl (fun _ => 0))), (q4, .inl (β.2.2.1.1, 8, .inl (fun _ => 0))), (q5, .inl (β.2.2.1.1, 8, .inl (fun _ => 0))), (q6, .inl (β.2.2.1.1, 8, .inl (fun _ => 0)))] g hI ⟨fl_X0_27, tyX0_ok, nmX0, rfl, rfl⟩ 0 rfl rfl rfl (Nat.le_of_ble_eq_true rfl) rfl dX0_init_49 ?_
  refine zv_aload_n (pc := 52) g dX0_init_52 0 rfl rfl ?_
  refine zv_iconst (pc := 53) g dX0_init_53 (v := 0) (by decide) ?_
  refine zv_put (pc := 54) [(b0, .inr (0, [.ref q1, .ref q2, .ref q3, .ref q4, .ref q5, .ref q6, .int 0, .int 0, .int 0])), (q1, .inl (β.2.2.1.1, 8, .inl (fun _ => 0))), (q2, .inl (β.2.2.1.1, 8, .inl (fun _ => 0))), (q3, .inl (β.2.2.1.1, 8, .inl (fun _ => 0))), (q4, .inl (β.2.2.1.1, 8, .inl (fun _ => 0))), (q5, .inl (β.2.2.1.1, 8, .inl (fun _ => 0))), (q6, .inl (β.2.2.1.1, 8, .inl (fun _ => 0)))] g fp_X0_30 0 rfl rfl rfl (Nat.le_of_ble_eq_true rfl) rfl dX0_init_54 ?_
  refine zv_aload_n (pc := 57) g dX0_init_57 0 rfl rfl ?_
  refine zv_iconst (pc := 58) g dX0_init_58 (v := 3) (by decide) ?_
  refine zv_put (pc := 59) [(b0, .inr (0, [.ref q1, .ref q2, .ref q3, .ref q4, .ref q5, .ref q6, .int 0, .int 3, .int 0])), (q1, .inl (β.2.2.1.1, 8, .inl (fun _ => 0))), (q2, .inl (β.2.2.1.1, 8, .inl (fun _ => 0))), (q3, .inl (β.2.2.1.1, 8, .inl (fun _ => 0))), (q4, .inl (β.2.2.1.1, 8, .inl (fun _ => 0))), (q5, .inl (β.2.2.1.1, 8, .inl (fun _ => 0))), (q6, .inl (β.2.2.1.1, 8, .inl (fun _ => 0)))] g fp_X0_34 0 rfl rfl rfl (Nat.le_of_ble_eq_true rfl) rfl dX0_init_59 ?_
  refine zv_aload_n (pc := 62) g dX0_init_62 0 rfl rfl ?_
  refine zv_iconst (pc := 63) g dX0_init_63 (v := 0) (by decide) ?_
  refine zv_put (pc := 64) [(b0, .inr (0, [.ref q1, .ref q2, .ref q3, .ref q4, .ref q5, .ref q6, .int 0, .int 3, .int 0])), (q1, .inl (β.2.2.1.1, 8, .inl (fun _ => 0))), (q2, .inl (β.2.2.1.1, 8, .inl (fun _ => 0))), (q3, .inl (β.2.2.1.1, 8, .inl (fun _ => 0))), (q4, .inl (β.2.2.1.1, 8, .inl (fun _ => 0))), (q5, .inl (β.2.2.1.1, 8, .inl (fun _ => 0))), (q6, .inl (β.2.2.1.1, 8, .inl (fun _ => 0)))] g fp_X0_37 0 rfl rfl rfl (Nat.le_of_ble_eq_true rfl) rfl dX0_init_64 ?_
  refine zv_iconst (pc := 67) g dX0_init_67 (v := 0) (by decide) ?_
  refine zv_istore_n (pc := 68) 1 [(1, .int 0), (0, .ref b0)] g dX0_init_68 rfl (by decide) rfl ?_
  refine zv_iload_n (pc := 69) g dX0_init_69 0 rfl rfl ?_
  refine zv_bipush (pc := 70) g dX0_init_70 (v := 8) (by decide) ?_
  refine zv_icmp_ge (pc := 72) 89 g dX0_init_72 rfl (fun q => absurd q (by decide)) (fun _ => ?_)
  refine zv_aload_n (pc := 75) g dX0_init_75 1 rfl rfl ?_
  refine zv_get (pc := 76) g fl_X0_9 0 rfl rfl dX0_init_76 ?_
  refine zv_iload_n (pc := 79) g dX0_init_79 0 rfl rfl ?_
  refine zv_bipush (pc := 80) g dX0_init_80 (v := 20) (by decide) ?_
  refine zv_ials (pc := 82) [(b0, .inr (0, [.ref q1, .ref q2, .ref q3, .ref q4, .ref q5, .ref q6, .int 0, .int 3, .int 0])), (q1, .inl (β.2.2.1.1, 8, .inl (upd (fun _ => 0) 0 20))), (q2, .inl (β.2.2.1.1, 8, .inl (fun _ => 0))), (q3, .inl (β.2.2.1.1, 8, .inl (fun _ => 0))), (q4, .inl (β.2.2.1.1, 8, .inl (fun _ => 0))), (q5, .inl (β.2.2.1.1, 8, .inl (fun _ => 0))), (q6, .inl (β.2.2.1.1, 8, .inl (fun _ => 0)))] g 1 rfl (show ¬ ((0 : Int32) < 0 ∨ 8 ≤ Int32.toNatClampNeg 0) by decide) rfl dX0_init_82 ?_
  refine zv_iinc (pc := 83) 1 [(1, .int 1), (0, .ref b0)] g dX0_init_83 0 rfl (by decide) (by decide) rfl ?_
  refine zv_goto (pc := 86) 69 g dX0_init_86 rfl ?_
  refine zv_iload_n (pc := 69) g dX0_init_69 0 rfl rfl ?_
  refine zv_bipush (pc := 70) g dX0_init_70 (v := 8) (by decide) ?_
  refine zv_icmp_ge (pc := 72) 89 g dX0_init_72 rfl (fun q => absurd q (by decide)) (fun _ => ?_)
  refine zv_aload_n (pc := 75) g dX0_init_75 1 rfl rfl ?_
  refine zv_get (pc := 76) g fl_X0_9 0 rfl rfl dX0_init_76 ?_
  refine zv_iload_n (pc := 79) g dX0_init_79 0 rfl rfl ?_
  refine zv_bipush (pc := 80) g dX0_init_80 (v := 20) (by decide) ?_
  refine zv_ials (pc := 82) [(b0, .inr (0, [.ref q1, .ref q2, .ref q3, .ref q4, .ref q5, .ref q6, .int 0, .int 3, .int 0])), (q1, .inl (β.2.2.1.1, 8, .inl (upd (upd (fun _ => 0) 0 20) 1 20))), (q2, .inl (β.2.2.1.1, 8, .inl (fun _ => 0))), (q3, .inl (β.2.2.1.1, 8, .inl (fun _ => 0))), (q4, .inl (β.2.2.1.1, 8, .inl (fun _ => 0))), (q5, .inl (β.2.2.1.1, 8, .inl (fun _ => 0))), (q6, .inl (β.2.2.1.1, 8, .inl (fun _ => 0)))] g 1 rfl (show ¬ ((1 : Int32) < 0 ∨ 8 ≤ Int32.toNatClampNeg 1) by decide) rfl dX0_init_82 ?_
  refine zv_iinc (pc := 83) 1 [(1, .int 2), (0, .ref b0)] g dX0_init_83 0 rfl (by decide) (by decide) rfl ?_
  refine zv_goto (pc := 86) 69 g dX0_init_86 rfl ?_
  refine zv_iload_n (pc := 69) g dX0_init_69 0 rfl rfl ?_
  refine zv_bipush (pc := 70) g dX0_init_70 (v := 8) (by decide) ?_
  refine zv_icmp_ge (pc := 72) 89 g dX0_init_72 rfl (fun q => absurd q (by decide)) (fun _ => ?_)
  refine zv_aload_n (pc := 75) g dX0_init_75 1 rfl rfl ?_
  refine zv_get (pc := 76) g fl_X0_9 0 rfl rfl dX0_init_76 ?_
  refine zv_iload_n (pc := 79) g dX0_init_79 0 rfl rfl ?_
  refine zv_bipush (pc := 80) g dX0_init_80 (v := 20) (by decide) ?_
  refine zv_ials (pc := 82) [(b0, .inr (0, [.ref q1, .ref q2, .ref q3, .ref q4, .ref q5, .ref q6, .int 0, .int 3, .int 0])), (q1, .inl (β.2.2.1.1, 8, .inl (upd (upd (upd (fun _ => 0) 0 20) 1 20) 2 20))), (q2, .inl (β.2.2.1.1, 8, .inl (fun _ => 0))), (q3, .inl (β.2.2.1.1, 8, .inl (fun _ => 0))), (q4, .inl (β.2.2.1.1, 8, .inl (fun _ => 0))), (q5, .inl (β.2.2.1.1, 8, .inl (fun _ => 0))), (q6, .inl (β.2.2.1.1, 8, .inl (fun _ => 0)))] g 1 rfl (show ¬ ((2 : Int32) < 0 ∨ 8 ≤ Int32.toNatClampNeg 2) by decide) rfl dX0_init_82 ?_
  refine zv_iinc (pc := 83) 1 [(1, .int 3), (0, .ref b0)] g dX0_init_83 0 rfl (by decide) (by decide) rfl ?_
  refine zv_goto (pc := 86) 69 g dX0_init_86 rfl ?_
  refine zv_iload_n (pc := 69) g dX0_init_69 0 rfl rfl ?_
  refine zv_bipush (pc := 70) g dX0_init_70 (v := 8) (by decide) ?_
  refine zv_icmp_ge (pc := 72) 89 g dX0_init_72 rfl (fun q => absurd q (by decide)) (fun _ => ?_)
  refine zv_aload_n (pc := 75) g dX0_init_75 1 rfl rfl ?_
  refine zv_get (pc := 76) g fl_X0_9 0 rfl rfl dX0_init_76 ?_
  refine zv_iload_n (pc := 79) g dX0_init_79 0 rfl rfl ?_
  refine zv_bipush (pc := 80) g dX0_init_80 (v := 20) (by decide) ?_
  refine zv_ials (pc := 82) [(b0, .inr (0, [.ref q1, .ref q2, .ref q3, .ref q4, .ref q5, .ref q6, .int 0, .int 3, .int 0])), (q1, .inl (β.2.2.1.1, 8, .inl (upd (upd (upd (upd (fun _ => 0) 0 20) 1 20) 2 20) 3 20))), (q2, .inl (β.2.2.1.1, 8, .inl (fun _ => 0))), (q3, .inl (β.2.2.1.1, 8, .inl (fun _ => 0))), (q4, .inl (β.2.2.1.1, 8, .inl (fun _ => 0))), (q5, .inl (β.2.2.1.1, 8, .inl (fun _ => 0))), (q6, .inl (β.2.2.1.1, 8, .inl (fun _ => 0)))] g 1 rfl (show ¬ ((3 : Int32) < 0 ∨ 8 ≤ Int32.toNatClampNeg 3) by decide) rfl dX0_init_82 ?_
  refine zv_iinc (pc := 83) 1 [(1, .int 4), (0, .ref b0)] g dX0_init_83 0 rfl (by decide) (by decide) rfl ?_
  refine zv_goto (pc := 86) 69 g dX0_init_86 rfl ?_
  refine zv_iload_n (pc := 69) g dX0_init_69 0 rfl rfl ?_
  refine zv_bipush (pc := 70) g dX0_init_70 (v := 8) (by decide) ?_
  refine zv_icmp_ge (pc := 72) 89 g dX0_init_72 rfl (fun q => absurd q (by decide)) (fun _ => ?_)
  refine zv_aload_n (pc := 75) g dX0_init_75 1 rfl rfl ?_
  refine zv_get (pc := 76) g fl_X0_9 0 rfl rfl dX0_init_76 ?_
  refine zv_iload_n (pc := 79) g dX0_init_79 0 rfl rfl ?_
  refine zv_bipush (pc := 80) g dX0_init_80 (v := 20) (by decide) ?_
  refine zv_ials (pc := 82) [(b0, .inr (0, [.ref q1, .ref q2, .ref q3, .ref q4, .ref q5, .ref q6, .int 0, .int 3, .int 0])), (q1, .inl (β.2.2.1.1, 8, .inl (upd (upd (upd (upd (upd (fun _ => 0) 0 20) 1 20) 2 20) 3 20) 4 20))), (q2, .inl (β.2.2.1.1, 8, .inl (fun _ => 0))), (q3, .inl (β.2.2.1.1, 8, .inl (fun _ => 0))), (q4, .inl (β.2.2.1.1, 8, .inl (fun _ => 0))), (q5, .inl (β.2.2.1.1, 8, .inl (fun _ => 0))), (q6, .inl (β.2.2.1.1, 8, .inl (fun _ => 0)))] g 1 rfl (show ¬ ((4 : Int32) < 0 ∨ 8 ≤ Int32.toNatClampNeg 4) by decide) rfl dX0_init_82 ?_
  refine zv_iinc (pc := 83) 1 [(1, .int 5), (0, .ref b0)] g dX0_init_83 0 rfl (by decide) (by decide) rfl ?_
  refine zv_goto (pc := 86) 69 g dX0_init_86 rfl ?_
  refine zv_iload_n (pc := 69) g dX0_init_69 0 rfl rfl ?_
  refine zv_bipush (pc := 70) g dX0_init_70 (v := 8) (by decide) ?_
  refine zv_icmp_ge (pc := 72) 89 g dX0_init_72 rfl (fun q => absurd q (by decide)) (fun _ => ?_)
  refine zv_aload_n (pc := 75) g dX0_init_75 1 rfl rfl ?_
  refine zv_get (pc := 76) g fl_X0_9 0 rfl rfl dX0_init_76 ?_
  refine zv_iload_n (pc := 79) g dX0_init_79 0 rfl rfl ?_
  refine zv_bipush (pc := 80) g dX0_init_80 (v := 20) (by decide) ?_
  refine zv_ials (pc := 82) [(b0, .inr (0, [.ref q1, .ref q2, .ref q3, .ref q4, .ref q5, .ref q6, .int 0, .int 3, .int 0])), (q1, .inl (β.2.2.1.1, 8, .inl (upd (upd (upd (upd (upd (upd (fun _ => 0) 0 20) 1 20) 2 20) 3 20) 4 20) 5 20))), (q2, .inl (β.2.2.1.1, 8, .inl (fun _ => 0))), (q3, .inl (β.2.2.1.1, 8, .inl (fun _ => 0))), (q4, .inl (β.2.2.1.1, 8, .inl (fun _ => 0))), (q5, .inl (β.2.2.1.1, 8, .inl (fun _ => 0))), (q6, .inl (β.2.2.1.1, 8, .inl (fun _ => 0)))] g 1 rfl (show ¬ ((5 : Int32) < 0 ∨ 8 ≤ Int32.toNatClampNeg 5) by decide) rfl dX0_init_82 ?_
  refine zv_iinc (pc := 83) 1 [(1, .int 6), (0, .ref b0)] g dX0_init_83 0 rfl (by decide) (by decide) rfl ?_
  refine zv_goto (pc := 86) 69 g dX0_init_86 rfl ?_
  refine zv_iload_n (pc := 69) g dX0_init_69 0 rfl rfl ?_
  refine zv_bipush (pc := 70) g dX0_init_70 (v := 8) (by decide) ?_
  refine zv_icmp_ge (pc := 72) 89 g dX0_init_72 rfl (fun q => absurd q (by decide)) (fun _ => ?_)
  refine zv_aload_n (pc := 75) g dX0_init_75 1 rfl rfl ?_
  refine zv_get (pc := 76) g fl_X0_9 0 rfl rfl dX0_init_76 ?_
  refine zv_iload_n (pc := 79) g dX0_init_79 0 rfl rfl ?_
  refine zv_bipush (pc := 80) g dX0_init_80 (v := 20) (by decide) ?_
  refine zv_ials (pc := 82) [(b0, .inr (0, [.ref q1, .ref q2, .ref q3, .ref q4, .ref q5, .ref q6, .int 0, .int 3, .int 0])), (q1, .inl (β.2.2.1.1, 8, .inl (upd (upd (upd (upd (upd (upd (upd (fun _ => 0) 0 20) 1 20) 2 20) 3 20) 4 20) 5 20) 6 20))), (q2, .inl (β.2.2.1.1, 8, .inl (fun _ => 0))), (q3, .inl (β.2.2.1.1, 8, .inl (fun _ => 0))), (q4, .inl (β.2.2.1.1, 8, .inl (fun _ => 0))), (q5, .inl (β.2.2.1.1, 8, .inl (fun _ => 0))), (q6, .inl (β.2.2.1.1, 8, .inl (fun _ => 0)))] g 1 rfl (show ¬ ((6 : Int32) < 0 ∨ 8 ≤ Int32.toNatClampNeg 6) by decide) rfl dX0_init_82 ?_
  refine zv_iinc (pc := 83) 1 [(1, .int 7), (0, .ref b0)] g dX0_init_83 0 rfl (by decide) (by decide) rfl ?_
  refine zv_goto (pc := 86) 69 g dX0_init_86 rfl ?_
  refine zv_iload_n (pc := 69) g dX0_init_69 0 rfl rfl ?_
  refine zv_bipush (pc := 70) g dX0_init_70 (v := 8) (by decide) ?_
  refine zv_icmp_ge (pc := 72) 89 g dX0_init_72 rfl (fun q => absurd q (by decide)) (fun _ => ?_)
  refine zv_aload_n (pc := 75) g dX0_init_75 1 rfl rfl ?_
  refine zv_get (pc := 76) g fl_X0_9 0 rfl rfl dX0_init_76 ?_
  refine zv_iload_n (pc := 79) g dX0_init_79 0 rfl rfl ?_
  refine zv_bipush (pc := 80) g dX0_init_80 (v := 20) (by decide) ?_
  refine zv_ials (pc := 82) [(b0, .inr (0, [.ref q1, .ref q2, .ref q3, .ref q4, .ref q5, .ref q6, .int 0, .int 3, .int 0])), (q1, .inl (β.2.2.1.1, 8, .inl (upd (upd (upd (upd (upd (upd (upd (upd (fun _ => 0) 0 20) 1 20) 2 20) 3 20) 4 20) 5 20) 6 20) 7 20))), (q2, .inl (β.2.2.1.1, 8, .inl (fun _ => 0))), (q3, .inl (β.2.2.1.1, 8, .inl (fun _ => 0))), (q4, .inl (β.2.2.1.1, 8, .inl (fun _ => 0))), (q5, .inl (β.2.2.1.1, 8, .inl (fun _ => 0))), (q6, .inl (β.2.2.1.1, 8, .inl (fun _ => 0)))] g 1 rfl (show ¬ ((7 : Int32) < 0 ∨ 8 ≤ Int32.toNatClampNeg 7) by decide) rfl dX0_init_82 ?_
  refine zv_iinc (pc := 83) 1 [(1, .int 8), (0, .ref b0)] g dX0_init_83 0 rfl (by decide) (by decide) rfl ?_
  refine zv_goto (pc := 86) 69 g dX0_init_86 rfl ?_
  refine zv_iload_n (pc := 69) g dX0_init_69 0 rfl rfl ?_
  refine zv_bipush (pc := 70) g dX0_init_70 (v := 8) (by decide) ?_
  refine zv_icmp_ge (pc := 72) 89 g dX0_init_72 rfl (fun _ => ?_) (fun q => absurd (by decide) q)
  exact zv_vret (pc := 89) g (zJ.done hJ) dX0_init_89 ⟨rfl, fun i => [b0, q1, q2, q3, q4, q5, q6].getD i 0, rfl, rfl⟩
def S0 : SSt := ((fun _ => 0), 0, 0)
set_option maxRecDepth 100000 in
set_option maxHeartbeats 4000000 in
theorem cn_sheet {β : zz_B} {b0 : Nat} : zCn β yX2_init cX2_init 1 1 20 1 40 [.ref b0] [(b0, .inr (1, [.null, .int 0, .int 0]))] (fun r w => r = none ∧ ∃ u : Nat → Nat, u 0 = b0 ∧ w = sW β u S0) := by
  refine zCn.of (by decide) rfl (Nat.le_of_ble_eq_true rfl) ?_
  intro Γ g hk hJ hI
  show zV β 1 Γ [(b0, .inr (1, [.null, .int 0, .int 0]))] 0 [(0, .ref b0)] []
  refine zv_aload_n (pc := 0) g dX2_init_0 0 rfl rfl ?_
  refine zv_obj (pc := 1) g wd_170 (by decide) (by decide) (Nat.le_of_ble_eq_true rfl) dX2_init_1 ?_
  refine zv_aload_n (pc := 4) g dX2_init_4 0 rfl rfl ?_
  refine zv_bipush (pc := 5) g dX2_init_5 (v := 40) (by decide) ?_
  refine zv_newJ (pc := 7) (N := 40) (fun q1 => [(b0, .inr (1, [.null, .int 0, .int 0])), (q1, .inl (β.2.2.1.2.1, 40, .inr (.inl (fun _ => 0))))]) g (zK.sub (c0 := 1) (c := 0) (k0 := 40) (k := 0) hk) (by decide) (by decide) (by decide) (fun _ => rfl) dX2_init_7 (fun q1 => ?_)
  have g := zG.more g (zK.sub (c0 := 1) (c := 0) (k0 := 40) (k := 0) hk)
  have hJ := zJ.step (c0 := 1) (c := 0) (k0 := 40) (k := 0) hJ
  have hI : zI (zA Γ 1 40) := hI
  have hk := zK.step (c0 := 1) (c := 0) (k0 := 40) (k := 0) hk
  generalize zA Γ 1 40 = Γ1 at g hJ hI hk ⊢
  refine zv_putF (pc := 9) [(b0, .inr (1, [.ref q1, .int 0, .int 0])), (q1, .inl (β.2.2.1.2.1, 40, .inr (.inl (fun _ => 0))))] g hI ⟨fl_X2_9, tyX2_ok, nmX2, rfl, rfl⟩ 0 rfl rfl rfl (Nat.le_of_ble_eq_true rfl) rfl dX2_init_9 ?_
  refine zv_aload_n (pc := 12) g dX2_init_12 0 rfl rfl ?_
  refine zv_iconst (pc := 13) g dX2_init_13 (v := 0) (by decide) ?_
  refine zv_put (pc := 14) [(b0, .inr (1, [.ref q1, .int 0, .int 0])), (q1, .inl (β.2.2.1.2.1, 40, .inr (.inl (fun _ => 0))))] g fp_X2_15 0 rfl rfl rfl (Nat.le_of_ble_eq_true rfl) rfl dX2_init_14 ?_
  refine zv_aload_n (pc := 17) g dX2_init_17 0 rfl rfl ?_
  refine zv_iconst (pc := 18) g dX2_init_18 (v := 0) (by decide) ?_
  refine zv_put (pc := 19) [(b0, .inr (1, [.ref q1, .int 0, .int 0])), (q1, .inl (β.2.2.1.2.1, 40, .inr (.inl (fun _ => 0))))] g fp_X2_19 0 rfl rfl rfl (Nat.le_of_ble_eq_true rfl) rfl dX2_init_19 ?_
  exact zv_vret (pc := 22) g (zJ.done hJ) dX2_init_22 ⟨rfl, fun i => [b0, q1].getD i 0, rfl, rfl⟩
def T0 : TSt := ((fun _ => 0), 0, 0, 0, 0, 0, 0)
set_option maxRecDepth 100000 in
set_option maxHeartbeats 4000000 in
theorem cn_tape {β : zz_B} {b0 : Nat} : zCn β yX3_init cX3_init 1 1 20 1 120 [.ref b0] [(b0, .inr (2, [.null, .int 0, .int 0, .int 0, .int 0, .int 0, .int 0]))] (fun r w => r = none ∧ ∃ u : Nat → Nat, u 0 = b0 ∧ w = tW β u T0) := by
  refine zCn.of (by decide) rfl (Nat.le_of_ble_eq_true rfl) ?_
  intro Γ g hk hJ hI
  show zV β 1 Γ [(b0, .inr (2, [.null, .int 0, .int 0, .int 0, .int 0, .int 0, .int 0]))] 0 [(0, .ref b0)] []
  refine zv_aload_n (pc := 0) g dX3_init_0 0 rfl rfl ?_
  refine zv_obj (pc := 1) g wd_140 (by decide) (by decide) (Nat.le_of_ble_eq_true rfl) dX3_init_1 ?_
  refine zv_aload_n (pc := 4) g dX3_init_4 0 rfl rfl ?_
  refine zv_bipush (pc := 5) g dX3_init_5 (v := 120) (by decide) ?_
  refine zv_newI (pc := 7) (N := 120) (fun q1 => [(b0, .inr (2, [.null, .int 0, .int 0, .int 0, .int 0, .int 0, .int 0])), (q1, .inl (β.2.2.1.1, 120, .inl (fun _ => 0)))]) g (zK.sub (c0 := 1) (c := 0) (k0 := 120) (k := 0) hk) (by decide) (by decide) (by decide) (fun _ => rfl) dX3_init_7 (fun q1 => ?_)
  have g := zG.more g (zK.sub (c0 := 1) (c := 0) (k0 := 120) (k := 0) hk)
  have hJ := zJ.step (c0 := 1) (c := 0) (k0 := 120) (k := 0) hJ
  have hI : zI (zA Γ 1 120) := hI
  have hk := zK.step (c0 := 1) (c := 0) (k0 := 120) (k := 0) hk
  generalize zA Γ 1 120 = Γ1 at g hJ hI hk ⊢
  refine zv_putF (pc := 9) [(b0, .inr (2, [.ref q1, .int 0, .int 0, .int 0, .int 0, .int 0, .int 0])), (q1, .inl (β.2.2.1.1, 120, .inl (fun _ => 0)))] g hI ⟨fl_X3_9, tyX3_ok, nmX3, rfl, rfl⟩ 0 rfl rfl rfl (Nat.le_of_ble_eq_true rfl) rfl dX3_init_9 ?_
  refine zv_aload_n (pc := 12) g dX3_init_12 0 rfl rfl ?_
  refine zv_iconst (pc := 13) g dX3_init_13 (v := 0) (by decide) ?_
  refine zv_put (pc := 14) [(b0, .inr (2, [.ref q1, .int 0, .int 0, .int 0, .int 0, .int 0, .int 0])), (q1, .inl (β.2.2.1.1, 120, .inl (fun _ => 0)))] g fp_X3_15 0 rfl rfl rfl (Nat.le_of_ble_eq_true rfl) rfl dX3_init_14 ?_
  refine zv_aload_n (pc := 17) g dX3_init_17 0 rfl rfl ?_
  refine zv_iconst (pc := 18) g dX3_init_18 (v := 0) (by decide) ?_
  refine zv_put (pc := 19) [(b0, .inr (2, [.ref q1, .int 0, .int 0, .int 0, .int 0, .int 0, .int 0])), (q1, .inl (β.2.2.1.1, 120, .inl (fun _ => 0)))] g fp_X3_19 0 rfl rfl rfl (Nat.le_of_ble_eq_true rfl) rfl dX3_init_19 ?_
  refine zv_aload_n (pc := 22) g dX3_init_22 0 rfl rfl ?_
  refine zv_iconst (pc := 23) g dX3_init_23 (v := 0) (by decide) ?_
  refine zv_put (pc := 24) [(b0, .inr (2, [.ref q1, .int 0, .int 0, .int 0, .int 0, .int 0, .int 0])), (q1, .inl (β.2.2.1.1, 120, .inl (fun _ => 0)))] g fp_X3_22 0 rfl rfl rfl (Nat.le_of_ble_eq_true rfl) rfl dX3_init_24 ?_
  refine zv_aload_n (pc := 27) g dX3_init_27 0 rfl rfl ?_
  refine zv_iconst (pc := 28) g dX3_init_28 (v := 0) (by decide) ?_
  refine zv_put (pc := 29) [(b0, .inr (2, [.ref q1, .int 0, .int 0, .int 0, .int 0, .int 0, .int 0])), (q1, .inl (β.2.2.1.1, 120, .inl (fun _ => 0)))] g fp_X3_25 0 rfl rfl rfl (Nat.le_of_ble_eq_true rfl) rfl dX3_init_29 ?_
  refine zv_aload_n (pc := 32) g dX3_init_32 0 rfl rfl ?_
  refine zv_iconst (pc := 33) g dX3_init_33 (v := 0) (by decide) ?_
  refine zv_put (pc := 34) [(b0, .inr (2, [.ref q1, .int 0, .int 0, .int 0, .int 0, .int 0, .int 0])), (q1, .inl (β.2.2.1.1, 120, .inl (fun _ => 0)))] g fp_X3_28 0 rfl rfl rfl (Nat.le_of_ble_eq_true rfl) rfl dX3_init_34 ?_
  refine zv_aload_n (pc := 37) g dX3_init_37 0 rfl rfl ?_
  refine zv_iconst (pc := 38) g dX3_init_38 (v := 0) (by decide) ?_
  refine zv_put (pc := 39) [(b0, .inr (2, [.ref q1, .int 0, .int 0, .int 0, .int 0, .int 0, .int 0])), (q1, .inl (β.2.2.1.1, 120, .inl (fun _ => 0)))] g fp_X3_31 0 rfl rfl rfl (Nat.le_of_ble_eq_true rfl) rfl dX3_init_39 ?_
  exact zv_vret (pc := 42) g (zJ.done hJ) dX3_init_42 ⟨rfl, fun i => [b0, q1].getD i 0, rfl, rfl⟩
def nM0 : MSt := ((upd (fun _ => 0) 1 3), (fun _ => 0), (fun _ => 0), (fun _ => 0), (fun _ => 0), 0, 0, 0, 0, 0, 0, 0, (fun _ => 0), (fun _ => 0), (fun _ => 0), (fun _ => 0), (fun _ => 0), (fun _ => 0), 0)
def nM1 : MSt := m_row_s nM0 (upd (m_row nM0) (Int32.toNatClampNeg ((3 + (2 * 0)) + 0)) 20)
def nM2 : MSt := m_row_s nM1 (upd (m_row nM1) (Int32.toNatClampNeg ((3 + (2 * 1)) + 0)) 20)
def nM3 : MSt := m_row_s nM2 (upd (m_row nM2) (Int32.toNatClampNeg ((3 + (2 * 2)) + 0)) 20)
def nM4 : MSt := m_row_s nM3 (upd (m_row nM3) (Int32.toNatClampNeg ((3 + (2 * 3)) + 0)) 20)
def nM5 : MSt := m_row_s nM4 (upd (m_row nM4) (Int32.toNatClampNeg ((3 + (2 * 4)) + 0)) 20)
def nM6 : MSt := m_row_s nM5 (upd (m_row nM5) (Int32.toNatClampNeg ((3 + (2 * 5)) + 0)) 20)
def nM7 : MSt := m_row_s nM6 (upd (m_row nM6) (Int32.toNatClampNeg ((3 + (2 * 6)) + 0)) 20)
def nM8 : MSt := m_row_s nM7 (upd (m_row nM7) (Int32.toNatClampNeg ((3 + (2 * 7)) + 0)) 20)
set_option maxRecDepth 100000 in
set_option maxHeartbeats 4000000 in
theorem cn_model {β : zz_B} {b0 : Nat} : zCn β yX5_init cX5_init 2 1 23 11 590 [.ref b0] [(b0, .inr (4, [.null, .null, .null, .null, .null, .int 0, .int 0, .int 0, .int 0, .long 0, .int 0, .int 0, .null, .null, .null, .null, .null, .null, .int 0]))] (fun r w => r = none ∧ ∃ u : Nat → Nat, u 0 = b0 ∧ w = mW β u nM8) := by
  refine zCn.of (by decide) rfl (Nat.le_of_ble_eq_true rfl) ?_
  intro Γ g hk hJ hI
  show zV β 2 Γ [(b0, .inr (4, [.null, .null, .null, .null, .null, .int 0, .int 0, .int 0, .int 0, .long 0, .int 0, .int 0, .null, .null, .null, .null, .null, .null, .int 0]))] 0 [(0, .ref b0)] []
  refine zv_aload_n (pc := 0) g dX5_init_0 0 rfl rfl ?_
  refine zv_obj (pc := 1) g wd_670 (by decide) (by decide) (Nat.le_of_ble_eq_true rfl) dX5_init_1 ?_
  refine zv_aload_n (pc := 4) g dX5_init_4 0 rfl rfl ?_
  refine zv_bipush (pc := 5) g dX5_init_5 (v := 51) (by decide) ?_
  refine zv_newI (pc := 7) (N := 51) (fun q1 => [(b0, .inr (4, [.null, .null, .null, .null, .null, .int 0, .int 0, .int 0, .int 0, .long 0, .int 0, .int 0, .null, .null, .null, .null, .null, .null, .int 0])), (q1, .inl (β.2.2.1.1, 51, .inl (fun _ => 0)))]) g (zK.sub (c0 := 1) (c := 10) (k0 := 51) (k := 539) hk) (by decide) (by decide) (by decide) (fun _ => rfl) dX5_init_7 (fun q1 => ?_)
  have g := zG.more g (zK.sub (c0 := 1) (c := 10) (k0 := 51) (k := 539) hk)
  have hJ := zJ.step (c0 := 1) (c := 10) (k0 := 51) (k := 539) hJ
  have hI : zI (zA Γ 1 51) := hI
  have hk := zK.step (c0 := 1) (c := 10) (k0 := 51) (k := 539) hk
  generalize zA Γ 1 51 = Γ1 at g hJ hI hk ⊢
  refine zv_putF (pc := 9) [(b0, .inr (4, [.ref q1, .null, .null, .null, .null, .int 0, .int 0, .int 0, .int 0, .long 0, .int 0, .int 0, .null, .null, .null, .null, .null, .null, .int 0])), (q1, .inl (β.2.2.1.1, 51, .inl (fun _ => 0)))] g hI ⟨fl_X5_7, tyX5_ok, nmX5, rfl, rfl⟩ 0 rfl rfl rfl (Nat.le_of_ble_eq_true rfl) rfl dX5_init_9 ?_
  refine zv_aload_n (pc := 12) g dX5_init_12 0 rfl rfl ?_
  refine zv_bipush (pc := 13) g dX5_init_13 (v := 7) (by decide) ?_
  refine zv_newI (pc := 15) (N := 7) (fun q2 => [(b0, .inr (4, [.ref q1, .null, .null, .null, .null, .int 0, .int 0, .int 0, .int 0, .long 0, .int 0, .int 0, .null, .null, .null, .null, .null, .null, .int 0])), (q1, .inl (β.2.2.1.1, 51, .inl (fun _ => 0))), (q2, .inl (β.2.2.1.1, 7, .inl (fun _ => 0)))]) g (zK.sub (c0 := 1) (c := 9) (k0 := 7) (k := 532) hk) (by decide) (by decide) (by decide) (fun _ => rfl) dX5_init_15 (fun q2 => ?_)
  have g := zG.more g (zK.sub (c0 := 1) (c := 9) (k0 := 7) (k := 532) hk)
  have hJ := zJ.step (c0 := 1) (c := 9) (k0 := 7) (k := 532) hJ
  have hI : zI (zA Γ1 1 7) := hI
  have hk := zK.step (c0 := 1) (c := 9) (k0 := 7) (k := 532) hk
  generalize zA Γ1 1 7 = Γ2 at g hJ hI hk ⊢
  refine zv_putF (pc := 17) [(b0, .inr (4, [.ref q1, .ref q2, .null, .null, .null, .int 0, .int 0, .int 0, .int 0, .long 0, .int 0, .int 0, .null, .null, .null, .null, .null, .null, .int 0])), (q1, .inl (β.2.2.1.1, 51, .inl (fun _ => 0))), (q2, .inl (β.2.2.1.1, 7, .inl (fun _ => 0)))] g hI ⟨fl_X5_13, tyX5_ok, nmX5, rfl, rfl⟩ 0 rfl rfl rfl (Nat.le_of_ble_eq_true rfl) rfl dX5_init_17 ?_
  refine zv_aload_n (pc := 20) g dX5_init_20 0 rfl rfl ?_
  refine zv_bipush (pc := 21) g dX5_init_21 (v := 51) (by decide) ?_
  refine zv_newI (pc := 23) (N := 51) (fun q3 => [(b0, .inr (4, [.ref q1, .ref q2, .null, .null, .null, .int 0, .int 0, .int 0, .int 0, .long 0, .int 0, .int 0, .null, .null, .null, .null, .null, .null, .int 0])), (q1, .inl (β.2.2.1.1, 51, .inl (fun _ => 0))), (q2, .inl (β.2.2.1.1, 7, .inl (fun _ => 0))), (q3, .inl (β.2.2.1.1, 51, .inl (fun _ => 0)))]) g (zK.sub (c0 := 1) (c := 8) (k0 := 51) (k := 481) hk) (by decide) (by decide) (by decide) (fun _ => rfl) dX5_init_23 (fun q3 => ?_)
  have g := zG.more g (zK.sub (c0 := 1) (c := 8) (k0 := 51) (k := 481) hk)
  have hJ := zJ.step (c0 := 1) (c := 8) (k0 := 51) (k := 481) hJ
  have hI : zI (zA Γ2 1 51) := hI
  have hk := zK.step (c0 := 1) (c := 8) (k0 := 51) (k := 481) hk
  generalize zA Γ2 1 51 = Γ3 at g hJ hI hk ⊢
  refine zv_putF (pc := 25) [(b0, .inr (4, [.ref q1, .ref q2, .ref q3, .null, .null, .int 0, .int 0, .int 0, .int 0, .long 0, .int 0, .int 0, .null, .null, .null, .null, .null, .null, .int 0])), (q1, .inl (β.2.2.1.1, 51, .inl (fun _ => 0))), (q2, .inl (β.2.2.1.1, 7, .inl (fun _ => 0))), (q3, .inl (β.2.2.1.1, 51, .inl (fun _ => 0)))] g hI ⟨fl_X5_16, tyX5_ok, nmX5, rfl, rfl⟩ 0 rfl rfl rfl (Nat.le_of_ble_eq_true rfl) rfl dX5_init_25 ?_
  refine zv_aload_n (pc := 28) g dX5_init_28 0 rfl rfl ?_
  refine zv_bipush (pc := 29) g dX5_init_29 (v := 51) (by decide) ?_
  refine zv_newI (pc := 31) (N := 51) (fun q4 => [(b0, .inr (4, [.ref q1, .ref q2, .ref q3, .null, .null, .int 0, .int 0, .int 0, .int 0, .long 0, .int 0, .int 0, .null, .null, .null, .null, .null, .null, .int 0])), (q1, .inl (β.2.2.1.1, 51, .inl (fun _ => 0))), (q2, .inl (β.2.2.1.1, 7, .inl (fun _ => 0))), (q3, .inl (β.2.2.1.1, 51, .inl (fun _ => 0))), (q4, .inl (β.2.2.1.1, 51, .inl (fun _ => 0)))]) g (zK.sub (c0 := 1) (c := 7) (k0 := 51) (k := 430) hk) (by decide) (by decide) (by decide) (fun _ => rfl) dX5_init_31 (fun q4 => ?_)
  have g := zG.more g (zK.sub (c0 := 1) (c := 7) (k0 := 51) (k := 430) hk)
  have hJ := zJ.step (c0 := 1) (c := 7) (k0 := 51) (k := 430) hJ
  have hI : zI (zA Γ3 1 51) := hI
  have hk := zK.step (c0 := 1) (c := 7) (k0 := 51) (k := 430) hk
  generalize zA Γ3 1 51 = Γ4 at g hJ hI hk ⊢
  refine zv_putF (pc := 33) [(b0, .inr (4, [.ref q1, .ref q2, .ref q3, .ref q4, .null, .int 0, .int 0, .int 0, .int 0, .long 0, .int 0, .int 0, .null, .null, .null, .null, .null, .null, .int 0])), (q1, .inl (β.2.2.1.1, 51, .inl (fun _ => 0))), (q2, .inl (β.2.2.1.1, 7, .inl (fun _ => 0))), (q3, .inl (β.2.2.1.1, 51, .inl (fun _ => 0))), (q4, .inl (β.2.2.1.1, 51, .inl (fun _ => 0)))] g hI ⟨fl_X5_19, tyX5_ok, nmX5, rfl, rfl⟩ 0 rfl rfl rfl (Nat.le_of_ble_eq_true rfl) rfl dX5_init_33 ?_
  refine zv_aload_n (pc := 36) g dX5_init_36 0 rfl rfl ?_
  refine zv_bipush (pc := 37) g dX5_init_37 (v := 120) (by decide) ?_
  refine zv_newI (pc := 39) (N := 120) (fun q5 => [(b0, .inr (4, [.ref q1, .ref q2, .ref q3, .ref q4, .null, .int 0, .int 0, .int 0, .int 0, .long 0, .int 0, .int 0, .null, .null, .null, .null, .null, .null, .int 0])), (q1, .inl (β.2.2.1.1, 51, .inl (fun _ => 0))), (q2, .inl (β.2.2.1.1, 7, .inl (fun _ => 0))), (q3, .inl (β.2.2.1.1, 51, .inl (fun _ => 0))), (q4, .inl (β.2.2.1.1, 51, .inl (fun _ => 0))), (q5, .inl (β.2.2.1.1, 120, .inl (fun _ => 0)))]) g (zK.sub (c0 := 1) (c := 6) (k0 := 120) (k := 310) hk) (by decide) (by decide) (by decide) (fun _ => rfl) dX5_init_39 (fun q5 => ?_)
  have g := zG.more g (zK.sub (c0 := 1) (c := 6) (k0 := 120) (k := 310) hk)
  have hJ := zJ.step (c0 := 1) (c := 6) (k0 := 120) (k := 310) hJ
  have hI : zI (zA Γ4 1 120) := hI
  have hk := zK.step (c0 := 1) (c := 6) (k0 := 120) (k := 310) hk
  generalize zA Γ4 1 120 = Γ5 at g hJ hI hk ⊢
  refine zv_putF (pc := 41) [(b0, .inr (4, [.ref q1, .ref q2, .ref q3, .ref q4, .ref q5, .int 0, .int 0, .int 0, .int 0, .long 0, .int 0, .int 0, .null, .null, .null, .null, .null, .null, .int 0])), (q1, .inl (β.2.2.1.1, 51, .inl (fun _ => 0))), (q2, .inl (β.2.2.1.1, 7, .inl (fun _ => 0))), (q3, .inl (β.2.2.1.1, 51, .inl (fun _ => 0))), (q4, .inl (β.2.2.1.1, 51, .inl (fun _ => 0))), (q5, .inl (β.2.2.1.1, 120, .inl (fun _ => 0)))] g hI ⟨fl_X5_22, tyX5_ok, nmX5, rfl, rfl⟩ 0 rfl rfl rfl (Nat.le_of_ble_eq_true rfl) rfl dX5_init_41 ?_
  refine zv_aload_n (pc := 44) g dX5_init_44 0 rfl rfl ?_
  refine zv_iconst (pc := 45) g dX5_init_45 (v := 4) (by decide) ?_
  refine zv_newI (pc := 46) (N := 4) (fun q6 => [(b0, .inr (4, [.ref q1, .ref q2, .ref q3, .ref q4, .ref q5, .int 0, .int 0, .int 0, .int 0, .long 0, .int 0, .int 0, .null, .null, .null, .null, .null, .null, .int 0])), (q1, .inl (β.2.2.1.1, 51, .inl (fun _ => 0))), (q2, .inl (β.2.2.1.1, 7, .inl (fun _ => 0))), (q3, .inl (β.2.2.1.1, 51, .inl (fun _ => 0))), (q4, .inl (β.2.2.1.1, 51, .inl (fun _ => 0))), (q5, .inl (β.2.2.1.1, 120, .inl (fun _ => 0))), (q6, .inl (β.2.2.1.1, 4, .inl (fun _ => 0)))]) g (zK.sub (c0 := 1) (c := 5) (k0 := 4) (k := 306) hk) (by decide) (by decide) (by decide) (fun _ => rfl) dX5_init_46 (fun q6 => ?_)
  have g := zG.more g (zK.sub (c0 := 1) (c := 5) (k0 := 4) (k := 306) hk)
  have hJ := zJ.step (c0 := 1) (c := 5) (k0 := 4) (k := 306) hJ
  have hI : zI (zA Γ5 1 4) := hI
  have hk := zK.step (c0 := 1) (c := 5) (k0 := 4) (k := 306) hk
  generalize zA Γ5 1 4 = Γ6 at g hJ hI hk ⊢
  refine zv_putF (pc := 48) [(b0, .inr (4, [.ref q1, .ref q2, .ref q3, .ref q4, .ref q5, .int 0, .int 0, .int 0, .int 0, .long 0, .int 0, .int 0, .ref q6, .null, .null, .null, .null, .null, .int 0])), (q1, .inl (β.2.2.1.1, 51, .inl (fun _ => 0))), (q2, .inl (β.2.2.1.1, 7, .inl (fun _ => 0))), (q3, .inl (β.2.2.1.1, 51, .inl (fun _ => 0))), (q4, .inl (β.2.2.1.1, 51, .inl (fun _ => 0))), (q5, .inl (β.2.2.1.1, 120, .inl (fun _ => 0))), (q6, .inl (β.2.2.1.1, 4, .inl (fun _ => 0)))] g hI ⟨fl_X5_25, tyX5_ok, nmX5, rfl, rfl⟩ 0 rfl rfl rfl (Nat.le_of_ble_eq_true rfl) rfl dX5_init_48 ?_
  refine zv_aload_n (pc := 51) g dX5_init_51 0 rfl rfl ?_
  refine zv_iconst (pc := 52) g dX5_init_52 (v := 4) (by decide) ?_
  refine zv_newI (pc := 53) (N := 4) (fun q7 => [(b0, .inr (4, [.ref q1, .ref q2, .ref q3, .ref q4, .ref q5, .int 0, .int 0, .int 0, .int 0, .long 0, .int 0, .int 0, .ref q6, .null, .null, .null, .null, .null, .int 0])), (q1, .inl (β.2.2.1.1, 51, .inl (fun _ => 0))), (q2, .inl (β.2.2.1.1, 7, .inl (fun _ => 0))), (q3, .inl (β.2.2.1.1, 51, .inl (fun _ => 0))), (q4, .inl (β.2.2.1.1, 51, .inl (fun _ => 0))), (q5, .inl (β.2.2.1.1, 120, .inl (fun _ => 0))), (q6, .inl (β.2.2.1.1, 4, .inl (fun _ => 0))), (q7, .inl (β.2.2.1.1, 4, .inl (fun _ => 0)))]) g (zK.sub (c0 := 1) (c := 4) (k0 := 4) (k := 302) hk) (by decide) (by decide) (by decide) (fun _ => rfl) dX5_init_53 (fun q7 => ?_)
  have g := zG.more g (zK.sub (c0 := 1) (c := 4) (k0 := 4) (k := 302) hk)
  have hJ := zJ.step (c0 := 1) (c := 4) (k0 := 4) (k := 302) hJ
  have hI : zI (zA Γ6 1 4) := hI
  have hk := zK.step (c0 := 1) (c := 4) (k0 := 4) (k := 302) hk
  generalize zA Γ6 1 4 = Γ7 at g hJ hI hk ⊢
  refine zv_putF (pc := 55) [(b0, .inr (4, [.ref q1, .ref q2, .ref q3, .ref q4, .ref q5, .int 0, .int 0, .int 0, .int 0, .long 0, .int 0, .int 0, .ref q6, .ref q7, .null, .null, .null, .null, .int 0])), (q1, .inl (β.2.2.1.1, 51, .inl (fun _ => 0))), (q2, .inl (β.2.2.1.1, 7, .inl (fun _ => 0))), (q3, .inl (β.2.2.1.1, 51, .inl (fun _ => 0))), (q4, .inl (β.2.2.1.1, 51, .inl (fun _ => 0))), (q5, .inl (β.2.2.1.1, 120, .inl (fun _ => 0))), (q6, .inl (β.2.2.1.1, 4, .inl (fun _ => 0))), (q7, .inl (β.2.2.1.1, 4, .inl (fun _ => 0)))] g hI ⟨fl_X5_28, tyX5_ok, nmX5, rfl, rfl⟩ 0 rfl rfl rfl (Nat.le_of_ble_eq_true rfl) rfl dX5_init_55 ?_
  refine zv_aload_n (pc := 58) g dX5_init_58 0 rfl rfl ?_
  refine zv_sipush (pc := 59) g dX5_init_59 (v := 160) (by decide) ?_
  refine zv_newJ (pc := 62) (N := 160) (fun q8 => [(b0, .inr (4, [.ref q1, .ref q2, .ref q3, .ref q4, .ref q5, .int 0, .int 0, .int 0, .int 0, .long 0, .int 0, .int 0, .ref q6, .ref q7, .null, .null, .null, .null, .int 0])), (q1, .inl (β.2.2.1.1, 51, .inl (fun _ => 0))), (q2, .inl (β.2.2.1.1, 7, .inl (fun _ => 0))), (q3, .inl (β.2.2.1.1, 51, .inl (fun _ => 0))), (q4, .inl (β.2.2.1.1, 51, .inl (fun _ => 0))), (q5, .inl (β.2.2.1.1, 120, .inl (fun _ => 0))), (q6, .inl (β.2.2.1.1, 4, .inl (fun _ => 0))), (q7, .inl (β.2.2.1.1, 4, .inl (fun _ => 0))), (q8, .inl (β.2.2.1.2.1, 160, .inr (.inl (fun _ => 0))))]) g (zK.sub (c0 := 1) (c := 3) (k0 := 160) (k := 142) hk) (by decide) (by decide) (by decide) (fun _ => rfl) dX5_init_62 (fun q8 => ?_)
  have g := zG.more g (zK.sub (c0 := 1) (c := 3) (k0 := 160) (k := 142) hk)
  have hJ := zJ.step (c0 := 1) (c := 3) (k0 := 160) (k := 142) hJ
  have hI : zI (zA Γ7 1 160) := hI
  have hk := zK.step (c0 := 1) (c := 3) (k0 := 160) (k := 142) hk
  generalize zA Γ7 1 160 = Γ8 at g hJ hI hk ⊢
  refine zv_putF (pc := 64) [(b0, .inr (4, [.ref q1, .ref q2, .ref q3, .ref q4, .ref q5, .int 0, .int 0, .int 0, .int 0, .long 0, .int 0, .int 0, .ref q6, .ref q7, .ref q8, .null, .null, .null, .int 0])), (q1, .inl (β.2.2.1.1, 51, .inl (fun _ => 0))), (q2, .inl (β.2.2.1.1, 7, .inl (fun _ => 0))), (q3, .inl (β.2.2.1.1, 51, .inl (fun _ => 0))), (q4, .inl (β.2.2.1.1, 51, .inl (fun _ => 0))), (q5, .inl (β.2.2.1.1, 120, .inl (fun _ => 0))), (q6, .inl (β.2.2.1.1, 4, .inl (fun _ => 0))), (q7, .inl (β.2.2.1.1, 4, .inl (fun _ => 0))), (q8, .inl (β.2.2.1.2.1, 160, .inr (.inl (fun _ => 0))))] g hI ⟨fl_X5_31, tyX5_ok, nmX5, rfl, rfl⟩ 0 rfl rfl rfl (Nat.le_of_ble_eq_true rfl) rfl dX5_init_64 ?_
  refine zv_aload_n (pc := 67) g dX5_init_67 0 rfl rfl ?_
  refine zv_bipush (pc := 68) g dX5_init_68 (v := 40) (by decide) ?_
  refine zv_newJ (pc := 70) (N := 40) (fun q9 => [(b0, .inr (4, [.ref q1, .ref q2, .ref q3, .ref q4, .ref q5, .int 0, .int 0, .int 0, .int 0, .long 0, .int 0, .int 0, .ref q6, .ref q7, .ref q8, .null, .null, .null, .int 0])), (q1, .inl (β.2.2.1.1, 51, .inl (fun _ => 0))), (q2, .inl (β.2.2.1.1, 7, .inl (fun _ => 0))), (q3, .inl (β.2.2.1.1, 51, .inl (fun _ => 0))), (q4, .inl (β.2.2.1.1, 51, .inl (fun _ => 0))), (q5, .inl (β.2.2.1.1, 120, .inl (fun _ => 0))), (q6, .inl (β.2.2.1.1, 4, .inl (fun _ => 0))), (q7, .inl (β.2.2.1.1, 4, .inl (fun _ => 0))), (q8, .inl (β.2.2.1.2.1, 160, .inr (.inl (fun _ => 0)))), (q9, .inl (β.2.2.1.2.1, 40, .inr (.inl (fun _ => 0))))]) g (zK.sub (c0 := 1) (c := 2) (k0 := 40) (k := 102) hk) (by decide) (by decide) (by decide) (fun _ => rfl) dX5_init_70 (fun q9 => ?_)
  have g := zG.more g (zK.sub (c0 := 1) (c := 2) (k0 := 40) (k := 102) hk)
  have hJ := zJ.step (c0 := 1) (c := 2) (k0 := 40) (k := 102) hJ
  have hI : zI (zA Γ8 1 40) := hI
  have hk := zK.step (c0 := 1) (c := 2) (k0 := 40) (k := 102) hk
  generalize zA Γ8 1 40 = Γ9 at g hJ hI hk ⊢
  refine zv_putF (pc := 72) [(b0, .inr (4, [.ref q1, .ref q2, .ref q3, .ref q4, .ref q5, .int 0, .int 0, .int 0, .int 0, .long 0, .int 0, .int 0, .ref q6, .ref q7, .ref q8, .ref q9, .null, .null, .int 0])), (q1, .inl (β.2.2.1.1, 51, .inl (fun _ => 0))), (q2, .inl (β.2.2.1.1, 7, .inl (fun _ => 0))), (q3, .inl (β.2.2.1.1, 51, .inl (fun _ => 0))), (q4, .inl (β.2.2.1.1, 51, .inl (fun _ => 0))), (q5, .inl (β.2.2.1.1, 120, .inl (fun _ => 0))), (q6, .inl (β.2.2.1.1, 4, .inl (fun _ => 0))), (q7, .inl (β.2.2.1.1, 4, .inl (fun _ => 0))), (q8, .inl (β.2.2.1.2.1, 160, .inr (.inl (fun _ => 0)))), (q9, .inl (β.2.2.1.2.1, 40, .inr (.inl (fun _ => 0))))] g hI ⟨fl_X5_35, tyX5_ok, nmX5, rfl, rfl⟩ 0 rfl rfl rfl (Nat.le_of_ble_eq_true rfl) rfl dX5_init_72 ?_
  refine zv_aload_n (pc := 75) g dX5_init_75 0 rfl rfl ?_
  refine zv_bipush (pc := 76) g dX5_init_76 (v := 51) (by decide) ?_
  refine zv_newI (pc := 78) (N := 51) (fun q10 => [(b0, .inr (4, [.ref q1, .ref q2, .ref q3, .ref q4, .ref q5, .int 0, .int 0, .int 0, .int 0, .long 0, .int 0, .int 0, .ref q6, .ref q7, .ref q8, .ref q9, .null, .null, .int 0])), (q1, .inl (β.2.2.1.1, 51, .inl (fun _ => 0))), (q2, .inl (β.2.2.1.1, 7, .inl (fun _ => 0))), (q3, .inl (β.2.2.1.1, 51, .inl (fun _ => 0))), (q4, .inl (β.2.2.1.1, 51, .inl (fun _ => 0))), (q5, .inl (β.2.2.1.1, 120, .inl (fun _ => 0))), (q6, .inl (β.2.2.1.1, 4, .inl (fun _ => 0))), (q7, .inl (β.2.2.1.1, 4, .inl (fun _ => 0))), (q8, .inl (β.2.2.1.2.1, 160, .inr (.inl (fun _ => 0)))), (q9, .inl (β.2.2.1.2.1, 40, .inr (.inl (fun _ => 0)))), (q10, .inl (β.2.2.1.1, 51, .inl (fun _ => 0)))]) g (zK.sub (c0 := 1) (c := 1) (k0 := 51) (k := 51) hk) (by decide) (by decide) (by decide) (fun _ => rfl) dX5_init_78 (fun q10 => ?_)
  have g := zG.more g (zK.sub (c0 := 1) (c := 1) (k0 := 51) (k := 51) hk)
  have hJ := zJ.step (c0 := 1) (c := 1) (k0 := 51) (k := 51) hJ
  have hI : zI (zA Γ9 1 51) := hI
  have hk := zK.step (c0 := 1) (c := 1) (k0 := 51) (k := 51) hk
  generalize zA Γ9 1 51 = Γ10 at g hJ hI hk ⊢
  refine zv_putF (pc := 80) [(b0, .inr (4, [.ref q1, .ref q2, .ref q3, .ref q4, .ref q5, .int 0, .int 0, .int 0, .int 0, .long 0, .int 0, .int 0, .ref q6, .ref q7, .ref q8, .ref q9, .ref q10, .null, .int 0])), (q1, .inl (β.2.2.1.1, 51, .inl (fun _ => 0))), (q2, .inl (β.2.2.1.1, 7, .inl (fun _ => 0))), (q3, .inl (β.2.2.1.1, 51, .inl (fun _ => 0))), (q4, .inl (β.2.2.1.1, 51, .inl (fun _ => 0))), (q5, .inl (β.2.2.1.1, 120, .inl (fun _ => 0))), (q6, .inl (β.2.2.1.1, 4, .inl (fun _ => 0))), (q7, .inl (β.2.2.1.1, 4, .inl (fun _ => 0))), (q8, .inl (β.2.2.1.2.1, 160, .inr (.inl (fun _ => 0)))), (q9, .inl (β.2.2.1.2.1, 40, .inr (.inl (fun _ => 0)))), (q10, .inl (β.2.2.1.1, 51, .inl (fun _ => 0)))] g hI ⟨fl_X5_38, tyX5_ok, nmX5, rfl, rfl⟩ 0 rfl rfl rfl (Nat.le_of_ble_eq_true rfl) rfl dX5_init_80 ?_
  refine zv_aload_n (pc := 83) g dX5_init_83 0 rfl rfl ?_
  refine zv_bipush (pc := 84) g dX5_init_84 (v := 51) (by decide) ?_
  refine zv_newI (pc := 86) (N := 51) (fun q11 => [(b0, .inr (4, [.ref q1, .ref q2, .ref q3, .ref q4, .ref q5, .int 0, .int 0, .int 0, .int 0, .long 0, .int 0, .int 0, .ref q6, .ref q7, .ref q8, .ref q9, .ref q10, .null, .int 0])), (q1, .inl (β.2.2.1.1, 51, .inl (fun _ => 0))), (q2, .inl (β.2.2.1.1, 7, .inl (fun _ => 0))), (q3, .inl (β.2.2.1.1, 51, .inl (fun _ => 0))), (q4, .inl (β.2.2.1.1, 51, .inl (fun _ => 0))), (q5, .inl (β.2.2.1.1, 120, .inl (fun _ => 0))), (q6, .inl (β.2.2.1.1, 4, .inl (fun _ => 0))), (q7, .inl (β.2.2.1.1, 4, .inl (fun _ => 0))), (q8, .inl (β.2.2.1.2.1, 160, .inr (.inl (fun _ => 0)))), (q9, .inl (β.2.2.1.2.1, 40, .inr (.inl (fun _ => 0)))), (q10, .inl (β.2.2.1.1, 51, .inl (fun _ => 0))), (q11, .inl (β.2.2.1.1, 51, .inl (fun _ => 0)))]) g (zK.sub (c0 := 1) (c := 0) (k0 := 51) (k := 0) hk) (by decide) (by decide) (by decide) (fun _ => rfl) dX5_init_86 (fun q11 => ?_)
  have g := zG.more g (zK.sub (c0 := 1) (c := 0) (k0 := 51) (k := 0) hk)
  have hJ := zJ.step (c0 := 1) (c := 0) (k0 := 51) (k := 0) hJ
  have hI : zI (zA Γ10 1 51) := hI
  have hk := zK.step (c0 := 1) (c := 0) (k0 := 51) (k := 0) hk
  generalize zA Γ10 1 51 = Γ11 at g hJ hI hk ⊢
  refine zv_putF (pc := 88) [(b0, .inr (4, [.ref q1, .ref q2, .ref q3, .ref q4, .ref q5, .int 0, .int 0, .int 0, .int 0, .long 0, .int 0, .int 0, .ref q6, .ref q7, .ref q8, .ref q9, .ref q10, .ref q11, .int 0])), (q1, .inl (β.2.2.1.1, 51, .inl (fun _ => 0))), (q2, .inl (β.2.2.1.1, 7, .inl (fun _ => 0))), (q3, .inl (β.2.2.1.1, 51, .inl (fun _ => 0))), (q4, .inl (β.2.2.1.1, 51, .inl (fun _ => 0))), (q5, .inl (β.2.2.1.1, 120, .inl (fun _ => 0))), (q6, .inl (β.2.2.1.1, 4, .inl (fun _ => 0))), (q7, .inl (β.2.2.1.1, 4, .inl (fun _ => 0))), (q8, .inl (β.2.2.1.2.1, 160, .inr (.inl (fun _ => 0)))), (q9, .inl (β.2.2.1.2.1, 40, .inr (.inl (fun _ => 0)))), (q10, .inl (β.2.2.1.1, 51, .inl (fun _ => 0))), (q11, .inl (β.2.2.1.1, 51, .inl (fun _ => 0)))] g hI ⟨fl_X5_41, tyX5_ok, nmX5, rfl, rfl⟩ 0 rfl rfl rfl (Nat.le_of_ble_eq_true rfl) rfl dX5_init_88 ?_
  refine zv_aload_n (pc := 91) g dX5_init_91 0 rfl rfl ?_
  refine zv_get (pc := 92) g fl_X5_7 0 rfl rfl dX5_init_92 ?_
  refine zv_iconst (pc := 95) g dX5_init_95 (v := 1) (by decide) ?_
  refine zv_iconst (pc := 96) g dX5_init_96 (v := 3) (by decide) ?_
  refine zv_ials (pc := 97) [(b0, .inr (4, [.ref q1, .ref q2, .ref q3, .ref q4, .ref q5, .int 0, .int 0, .int 0, .int 0, .long 0, .int 0, .int 0, .ref q6, .ref q7, .ref q8, .ref q9, .ref q10, .ref q11, .int 0])), (q1, .inl (β.2.2.1.1, 51, .inl (upd (fun _ => 0) 1 3))), (q2, .inl (β.2.2.1.1, 7, .inl (fun _ => 0))), (q3, .inl (β.2.2.1.1, 51, .inl (fun _ => 0))), (q4, .inl (β.2.2.1.1, 51, .inl (fun _ => 0))), (q5, .inl (β.2.2.1.1, 120, .inl (fun _ => 0))), (q6, .inl (β.2.2.1.1, 4, .inl (fun _ => 0))), (q7, .inl (β.2.2.1.1, 4, .inl (fun _ => 0))), (q8, .inl (β.2.2.1.2.1, 160, .inr (.inl (fun _ => 0)))), (q9, .inl (β.2.2.1.2.1, 40, .inr (.inl (fun _ => 0)))), (q10, .inl (β.2.2.1.1, 51, .inl (fun _ => 0))), (q11, .inl (β.2.2.1.1, 51, .inl (fun _ => 0)))] g 1 rfl (show ¬ ((1 : Int32) < 0 ∨ 51 ≤ Int32.toNatClampNeg 1) by decide) rfl dX5_init_97 ?_
  refine zv_iconst (pc := 98) g dX5_init_98 (v := 0) (by decide) ?_
  refine zv_istore_n (pc := 99) 1 [(1, .int 0), (0, .ref b0)] g dX5_init_99 rfl (by decide) rfl ?_
  generalize ha : (fun i => [b0, q1, q2, q3, q4, q5, q6, q7, q8, q9, q10, q11].getD i 0) = a
  have e0 : a 0 = b0 := by rw [← ha]; rfl
  have ew : [(b0, .inr (4, [.ref q1, .ref q2, .ref q3, .ref q4, .ref q5, .int 0, .int 0, .int 0, .int 0, .long 0, .int 0, .int 0, .ref q6, .ref q7, .ref q8, .ref q9, .ref q10, .ref q11, .int 0])), (q1, .inl (β.2.2.1.1, 51, .inl (upd (fun _ => 0) 1 3))), (q2, .inl (β.2.2.1.1, 7, .inl (fun _ => 0))), (q3, .inl (β.2.2.1.1, 51, .inl (fun _ => 0))), (q4, .inl (β.2.2.1.1, 51, .inl (fun _ => 0))), (q5, .inl (β.2.2.1.1, 120, .inl (fun _ => 0))), (q6, .inl (β.2.2.1.1, 4, .inl (fun _ => 0))), (q7, .inl (β.2.2.1.1, 4, .inl (fun _ => 0))), (q8, .inl (β.2.2.1.2.1, 160, .inr (.inl (fun _ => 0)))), (q9, .inl (β.2.2.1.2.1, 40, .inr (.inl (fun _ => 0)))), (q10, .inl (β.2.2.1.1, 51, .inl (fun _ => 0))), (q11, .inl (β.2.2.1.1, 51, .inl (fun _ => 0)))] = mW β a nM0 := by rw [← ha]; rfl
  rw [ew, ← e0]
  refine zv_iload_n (pc := 100) g dX5_init_100 0 rfl rfl ?_
  refine zv_bipush (pc := 101) g dX5_init_101 (v := 8) (by decide) ?_
  refine zv_icmp_ge (pc := 103) 120 g dX5_init_103 rfl (fun q => absurd q (by decide)) (fun _ => ?_)
  refine zv_aload_n (pc := 106) g dX5_init_106 1 rfl rfl ?_
  refine zv_iload_n (pc := 107) g dX5_init_107 0 rfl rfl ?_
  refine zv_iconst (pc := 108) g dX5_init_108 (v := 0) (by decide) ?_
  refine zv_bipush (pc := 109) g dX5_init_109 (v := 20) (by decide) ?_
  have h0 : wX5_places (fun S => S = nM1) nM0 0 0 20 := ⟨show ¬ (((3 + (2 * 0)) + 0 : Int32) < 0 ∨ 51 ≤ Int32.toNatClampNeg ((3 + (2 * 0)) + 0)) by decide, fun _ e => e⟩
  refine zv_cVv (pc := 111) g cw_X5_44 (ctX5_places h0) (by decide) (by decide) zz_p0 (mW β a) (fun T => zz_p1 T) (q := 0) rfl rfl rfl rfl rfl (Nat.le_of_ble_eq_true rfl) dX5_init_111 (fun S0 h => ?_)
  rw [h]
  refine zv_iinc (pc := 114) 1 [(1, .int 1), (0, .ref (a 0))] g dX5_init_114 0 rfl (by decide) (by decide) rfl ?_
  refine zv_goto (pc := 117) 100 g dX5_init_117 rfl ?_
  refine zv_iload_n (pc := 100) g dX5_init_100 0 rfl rfl ?_
  refine zv_bipush (pc := 101) g dX5_init_101 (v := 8) (by decide) ?_
  refine zv_icmp_ge (pc := 103) 120 g dX5_init_103 rfl (fun q => absurd q (by decide)) (fun _ => ?_)
  refine zv_aload_n (pc := 106) g dX5_init_106 1 rfl rfl ?_
  refine zv_iload_n (pc := 107) g dX5_init_107 0 rfl rfl ?_
  refine zv_iconst (pc := 108) g dX5_init_108 (v := 0) (by decide) ?_
  refine zv_bipush (pc := 109) g dX5_init_109 (v := 20) (by decide) ?_
  have h1 : wX5_places (fun S => S = nM2) nM1 1 0 20 := ⟨show ¬ (((3 + (2 * 1)) + 0 : Int32) < 0 ∨ 51 ≤ Int32.toNatClampNeg ((3 + (2 * 1)) + 0)) by decide, fun _ e => e⟩
  refine zv_cVv (pc := 111) g cw_X5_44 (ctX5_places h1) (by decide) (by decide) zz_p0 (mW β a) (fun T => zz_p1 T) (q := 0) rfl rfl rfl rfl rfl (Nat.le_of_ble_eq_true rfl) dX5_init_111 (fun S1 h => ?_)
  rw [h]
  refine zv_iinc (pc := 114) 1 [(1, .int 2), (0, .ref (a 0))] g dX5_init_114 0 rfl (by decide) (by decide) rfl ?_
  refine zv_goto (pc := 117) 100 g dX5_init_117 rfl ?_
  refine zv_iload_n (pc := 100) g dX5_init_100 0 rfl rfl ?_
  refine zv_bipush (pc := 101) g dX5_init_101 (v := 8) (by decide) ?_
  refine zv_icmp_ge (pc := 103) 120 g dX5_init_103 rfl (fun q => absurd q (by decide)) (fun _ => ?_)
  refine zv_aload_n (pc := 106) g dX5_init_106 1 rfl rfl ?_
  refine zv_iload_n (pc := 107) g dX5_init_107 0 rfl rfl ?_
  refine zv_iconst (pc := 108) g dX5_init_108 (v := 0) (by decide) ?_
  refine zv_bipush (pc := 109) g dX5_init_109 (v := 20) (by decide) ?_
  have h2 : wX5_places (fun S => S = nM3) nM2 2 0 20 := ⟨show ¬ (((3 + (2 * 2)) + 0 : Int32) < 0 ∨ 51 ≤ Int32.toNatClampNeg ((3 + (2 * 2)) + 0)) by decide, fun _ e => e⟩
  refine zv_cVv (pc := 111) g cw_X5_44 (ctX5_places h2) (by decide) (by decide) zz_p0 (mW β a) (fun T => zz_p1 T) (q := 0) rfl rfl rfl rfl rfl (Nat.le_of_ble_eq_true rfl) dX5_init_111 (fun S2 h => ?_)
  rw [h]
  refine zv_iinc (pc := 114) 1 [(1, .int 3), (0, .ref (a 0))] g dX5_init_114 0 rfl (by decide) (by decide) rfl ?_
  refine zv_goto (pc := 117) 100 g dX5_init_117 rfl ?_
  refine zv_iload_n (pc := 100) g dX5_init_100 0 rfl rfl ?_
  refine zv_bipush (pc := 101) g dX5_init_101 (v := 8) (by decide) ?_
  refine zv_icmp_ge (pc := 103) 120 g dX5_init_103 rfl (fun q => absurd q (by decide)) (fun _ => ?_)
  refine zv_aload_n (pc := 106) g dX5_init_106 1 rfl rfl ?_
  refine zv_iload_n (pc := 107) g dX5_init_107 0 rfl rfl ?_
  refine zv_iconst (pc := 108) g dX5_init_108 (v := 0) (by decide) ?_
  refine zv_bipush (pc := 109) g dX5_init_109 (v := 20) (by decide) ?_
  have h3 : wX5_places (fun S => S = nM4) nM3 3 0 20 := ⟨show ¬ (((3 + (2 * 3)) + 0 : Int32) < 0 ∨ 51 ≤ Int32.toNatClampNeg ((3 + (2 * 3)) + 0)) by decide, fun _ e => e⟩
  refine zv_cVv (pc := 111) g cw_X5_44 (ctX5_places h3) (by decide) (by decide) zz_p0 (mW β a) (fun T => zz_p1 T) (q := 0) rfl rfl rfl rfl rfl (Nat.le_of_ble_eq_true rfl) dX5_init_111 (fun S3 h => ?_)
  rw [h]
  refine zv_iinc (pc := 114) 1 [(1, .int 4), (0, .ref (a 0))] g dX5_init_114 0 rfl (by decide) (by decide) rfl ?_
  refine zv_goto (pc := 117) 100 g dX5_init_117 rfl ?_
  refine zv_iload_n (pc := 100) g dX5_init_100 0 rfl rfl ?_
  refine zv_bipush (pc := 101) g dX5_init_101 (v := 8) (by decide) ?_
  refine zv_icmp_ge (pc := 103) 120 g dX5_init_103 rfl (fun q => absurd q (by decide)) (fun _ => ?_)
  refine zv_aload_n (pc := 106) g dX5_init_106 1 rfl rfl ?_
  refine zv_iload_n (pc := 107) g dX5_init_107 0 rfl rfl ?_
  refine zv_iconst (pc := 108) g dX5_init_108 (v := 0) (by decide) ?_
  refine zv_bipush (pc := 109) g dX5_init_109 (v := 20) (by decide) ?_
  have h4 : wX5_places (fun S => S = nM5) nM4 4 0 20 := ⟨show ¬ (((3 + (2 * 4)) + 0 : Int32) < 0 ∨ 51 ≤ Int32.toNatClampNeg ((3 + (2 * 4)) + 0)) by decide, fun _ e => e⟩
  refine zv_cVv (pc := 111) g cw_X5_44 (ctX5_places h4) (by decide) (by decide) zz_p0 (mW β a) (fun T => zz_p1 T) (q := 0) rfl rfl rfl rfl rfl (Nat.le_of_ble_eq_true rfl) dX5_init_111 (fun S4 h => ?_)
  rw [h]
  refine zv_iinc (pc := 114) 1 [(1, .int 5), (0, .ref (a 0))] g dX5_init_114 0 rfl (by decide) (by decide) rfl ?_
  refine zv_goto (pc := 117) 100 g dX5_init_117 rfl ?_
  refine zv_iload_n (pc := 100) g dX5_init_100 0 rfl rfl ?_
  refine zv_bipush (pc := 101) g dX5_init_101 (v := 8) (by decide) ?_
  refine zv_icmp_ge (pc := 103) 120 g dX5_init_103 rfl (fun q => absurd q (by decide)) (fun _ => ?_)
  refine zv_aload_n (pc := 106) g dX5_init_106 1 rfl rfl ?_
  refine zv_iload_n (pc := 107) g dX5_init_107 0 rfl rfl ?_
  refine zv_iconst (pc := 108) g dX5_init_108 (v := 0) (by decide) ?_
  refine zv_bipush (pc := 109) g dX5_init_109 (v := 20) (by decide) ?_
  have h5 : wX5_places (fun S => S = nM6) nM5 5 0 20 := ⟨show ¬ (((3 + (2 * 5)) + 0 : Int32) < 0 ∨ 51 ≤ Int32.toNatClampNeg ((3 + (2 * 5)) + 0)) by decide, fun _ e => e⟩
  refine zv_cVv (pc := 111) g cw_X5_44 (ctX5_places h5) (by decide) (by decide) zz_p0 (mW β a) (fun T => zz_p1 T) (q := 0) rfl rfl rfl rfl rfl (Nat.le_of_ble_eq_true rfl) dX5_init_111 (fun S5 h => ?_)
  rw [h]
  refine zv_iinc (pc := 114) 1 [(1, .int 6), (0, .ref (a 0))] g dX5_init_114 0 rfl (by decide) (by decide) rfl ?_
  refine zv_goto (pc := 117) 100 g dX5_init_117 rfl ?_
  refine zv_iload_n (pc := 100) g dX5_init_100 0 rfl rfl ?_
  refine zv_bipush (pc := 101) g dX5_init_101 (v := 8) (by decide) ?_
  refine zv_icmp_ge (pc := 103) 120 g dX5_init_103 rfl (fun q => absurd q (by decide)) (fun _ => ?_)
  refine zv_aload_n (pc := 106) g dX5_init_106 1 rfl rfl ?_
  refine zv_iload_n (pc := 107) g dX5_init_107 0 rfl rfl ?_
  refine zv_iconst (pc := 108) g dX5_init_108 (v := 0) (by decide) ?_
  refine zv_bipush (pc := 109) g dX5_init_109 (v := 20) (by decide) ?_
  have h6 : wX5_places (fun S => S = nM7) nM6 6 0 20 := ⟨show ¬ (((3 + (2 * 6)) + 0 : Int32) < 0 ∨ 51 ≤ Int32.toNatClampNeg ((3 + (2 * 6)) + 0)) by decide, fun _ e => e⟩
  refine zv_cVv (pc := 111) g cw_X5_44 (ctX5_places h6) (by decide) (by decide) zz_p0 (mW β a) (fun T => zz_p1 T) (q := 0) rfl rfl rfl rfl rfl (Nat.le_of_ble_eq_true rfl) dX5_init_111 (fun S6 h => ?_)
  rw [h]
  refine zv_iinc (pc := 114) 1 [(1, .int 7), (0, .ref (a 0))] g dX5_init_114 0 rfl (by decide) (by decide) rfl ?_
  refine zv_goto (pc := 117) 100 g dX5_init_117 rfl ?_
  refine zv_iload_n (pc := 100) g dX5_init_100 0 rfl rfl ?_
  refine zv_bipush (pc := 101) g dX5_init_101 (v := 8) (by decide) ?_
  refine zv_icmp_ge (pc := 103) 120 g dX5_init_103 rfl (fun q => absurd q (by decide)) (fun _ => ?_)
  refine zv_aload_n (pc := 106) g dX5_init_106 1 rfl rfl ?_
  refine zv_iload_n (pc := 107) g dX5_init_107 0 rfl rfl ?_
  refine zv_iconst (pc := 108) g dX5_init_108 (v := 0) (by decide) ?_
  refine zv_bipush (pc := 109) g dX5_init_109 (v := 20) (by decide) ?_
  have h7 : wX5_places (fun S => S = nM8) nM7 7 0 20 := ⟨show ¬ (((3 + (2 * 7)) + 0 : Int32) < 0 ∨ 51 ≤ Int32.toNatClampNeg ((3 + (2 * 7)) + 0)) by decide, fun _ e => e⟩
  refine zv_cVv (pc := 111) g cw_X5_44 (ctX5_places h7) (by decide) (by decide) zz_p0 (mW β a) (fun T => zz_p1 T) (q := 0) rfl rfl rfl rfl rfl (Nat.le_of_ble_eq_true rfl) dX5_init_111 (fun S7 h => ?_)
  rw [h]
  refine zv_iinc (pc := 114) 1 [(1, .int 8), (0, .ref (a 0))] g dX5_init_114 0 rfl (by decide) (by decide) rfl ?_
  refine zv_goto (pc := 117) 100 g dX5_init_117 rfl ?_
  refine zv_iload_n (pc := 100) g dX5_init_100 0 rfl rfl ?_
  refine zv_bipush (pc := 101) g dX5_init_101 (v := 8) (by decide) ?_
  refine zv_icmp_ge (pc := 103) 120 g dX5_init_103 rfl (fun _ => ?_) (fun q => absurd (by decide) q)
  exact zv_vret (pc := 120) g (zJ.done hJ) dX5_init_120 ⟨rfl, a, e0, rfl⟩
