/-! THE CONSTRUCTOR of the program. -/
def bX (b0 : Nat) (u1 u2 u3 u4 t : Nat → Nat) (sh fo : Nat) (s0 s1 s2 s3 : Nat → Nat) : Nat → Nat := fun i => [b0, u1 0, u1 1, u1 2, u1 3, u1 4, u1 5, u1 6, u2 0, u2 1, u2 2, u2 3, u2 4, u2 5, u2 6, u3 0, u3 1, u3 2, u3 3, u3 4, u3 5, u3 6, u4 0, u4 1, u4 2, u4 3, u4 4, u4 5, u4 6, t 0, t 1, sh, s0 0, s0 1, s1 0, s1 1, s2 0, s2 1, s3 0, s3 1, fo].getD i 0
theorem bX_sh (b0 : Nat) (u1 u2 u3 u4 t : Nat → Nat) (sh fo : Nat) (s0 s1 s2 s3 : Nat → Nat) : (va_up (va_up (va_up (va_up (fun _ => none) 0 (some (s0 0))) 1 (some (s1 0))) 2 (some (s2 0))) 3 (some (s3 0))) = xsF (bX b0 u1 u2 u3 u4 t sh fo s0 s1 s2 s3) := by
  funext i
  rcases i with _ | _ | _ | _ | i
  · rfl
  · rfl
  · rfl
  · rfl
  · simp [va_up, xsF]
def X0 : XSt := (H0, H0, H0, H0, T0, (fun _ => S0), (fun _ => 0), 0)
theorem ff_X4_12 : zz_FF RX4 12 3 0 RX4 TX4 8 tyX4 := ⟨fl_X4_12, tyX4_ok, nmX4, rfl, rfl⟩
theorem ff_X4_16 : zz_FF RX4 16 3 1 RX4 TX4 8 tyX4 := ⟨fl_X4_16, tyX4_ok, nmX4, rfl, rfl⟩
theorem ff_X4_19 : zz_FF RX4 19 3 2 RX4 TX4 8 tyX4 := ⟨fl_X4_19, tyX4_ok, nmX4, rfl, rfl⟩
theorem ff_X4_22 : zz_FF RX4 22 3 3 RX4 TX4 8 tyX4 := ⟨fl_X4_22, tyX4_ok, nmX4, rfl, rfl⟩
theorem ff_X4_28 : zz_FF RX4 28 3 4 RX4 TX4 8 tyX4 := ⟨fl_X4_28, tyX4_ok, nmX4, rfl, rfl⟩
theorem ff_X4_34 : zz_FF RX4 34 3 5 RX4 TX4 8 tyX4 := ⟨fl_X4_34, tyX4_ok, nmX4, rfl, rfl⟩
theorem ff_X4_38 : zz_FF RX4 38 3 6 RX4 TX4 8 tyX4 := ⟨fl_X4_38, tyX4_ok, nmX4, rfl, rfl⟩
theorem cb_X4_11 : zz_CB RX4 11 yX0_init cX0_init 2 none 0 := ⟨wd_87, wd_65, wd_89, by decide +kernel⟩
theorem df_H : ∀ j, j < 9 → defaultValue (tyX0 j) = vp_V [.null, .null, .null, .null, .null, .null, .int 0, .int 0, .int 0] j := by
  intro j hj
  match j, hj with
  | 0, _ => rfl
  | 1, _ => rfl
  | 2, _ => rfl
  | 3, _ => rfl
  | 4, _ => rfl
  | 5, _ => rfl
  | 6, _ => rfl
  | 7, _ => rfl
  | 8, _ => rfl
  | k + 9, hk => exact absurd hk (by omega)
theorem df_T : ∀ j, j < 7 → defaultValue (tyX3 j) = vp_V [.null, .int 0, .int 0, .int 0, .int 0, .int 0, .int 0] j := by
  intro j hj
  match j, hj with
  | 0, _ => rfl
  | 1, _ => rfl
  | 2, _ => rfl
  | 3, _ => rfl
  | 4, _ => rfl
  | 5, _ => rfl
  | 6, _ => rfl
  | k + 7, hk => exact absurd hk (by omega)
theorem df_S : ∀ j, j < 3 → defaultValue (tyX2 j) = vp_V [.null, .int 0, .int 0] j := by
  intro j hj
  match j, hj with
  | 0, _ => rfl
  | 1, _ => rfl
  | 2, _ => rfl
  | k + 3, hk => exact absurd hk (by omega)
set_option maxRecDepth 100000 in
set_option maxHeartbeats 4000000 in
theorem cn_rounds {β : zz_B} {b0 : Nat} : zCn β yX4_init cX4_init 2 2 41 40 538 [.ref b0] [(b0, .inr (3, [.null, .null, .null, .null, .null, .null, .null, .int 0]))] (fun r w => r = none ∧ ∃ b : Nat → Nat, b 0 = b0 ∧ w.Perm (xW β b X0)) := by
  refine zCn.of (by decide) rfl (Nat.le_of_ble_eq_true rfl) ?_
  intro Γ g hk hJ hI
  show zV β 2 Γ [(b0, .inr (3, [.null, .null, .null, .null, .null, .null, .null, .int 0]))] 0 [(0, .ref b0)] []
  refine zv_aload_n (pc := 0) g dX4_init_0 0 rfl rfl ?_
  refine zv_obj (pc := 1) g wd_82 (by decide) (by decide) (Nat.le_of_ble_eq_true rfl) dX4_init_1 ?_
  refine zv_aload_n (pc := 4) g dX4_init_4 0 rfl rfl ?_
  refine zv_newo (pc := 5) [.null, .null, .null, .null, .null, .null, .int 0, .int 0, .int 0] (fun q => ([(b0, .inr (3, [.null, .null, .null, .null, .null, .null, .null, .int 0]))] ++ [(q, .inr (0, [.null, .null, .null, .null, .null, .null, .int 0, .int 0, .int 0]))])) g (zK.sub (c0 := 1) (c := 39) (k0 := 9) (k := 529) hk) zinX0 tyX0_ok (ci := 0) rfl wd_85 wd_86 wd_65 df_H (fun _ => rfl) dX4_init_5 (fun q => ?_)
  have g := zG.more g (zK.sub (c0 := 1) (c := 39) (k0 := 9) (k := 529) hk)
  have hJ := zJ.step (c0 := 1) (c := 39) (k0 := 9) (k := 529) hJ
  have hI : zI (zA Γ 1 9) := hI
  have hk := zK.step (c0 := 1) (c := 39) (k0 := 9) (k := 529) hk
  generalize zA Γ 1 9 = Γ1 at g hJ hI hk ⊢
  refine zv_dup (pc := 8) g dX4_init_8 rfl ?_
  refine zv_cI (pc := 9) (wc := [(q, .inr (0, [.null, .null, .null, .null, .null, .null, .int 0, .int 0, .int 0]))]) (suf := [(b0, .inr (3, [.null, .null, .null, .null, .null, .null, .null, .int 0]))]) g (zK.sub (c0 := 6) (c := 33) (k0 := 48) (k := 481) hk) cb_X4_11 wd_88 rfl cn_house (by decide) (by decide) List.perm_append_comm (Nat.le_of_ble_eq_true rfl) dX4_init_9 ?_
  have g := zG.more g (zK.sub (c0 := 6) (c := 33) (k0 := 48) (k := 481) hk)
  have hJ := zJ.step (c0 := 6) (c := 33) (k0 := 48) (k := 481) hJ
  have hI : zI (zA Γ1 6 48) := hI
  have hk := zK.step (c0 := 6) (c := 33) (k0 := 48) (k := 481) hk
  generalize zA Γ1 6 48 = Γ2 at g hJ hI hk ⊢
  rintro w ⟨u1, rfl, rfl⟩
  refine zv_perm List.perm_append_comm ?_
  show zV β 2 Γ2 ((b0, .inr (3, [.null, .null, .null, .null, .null, .null, .null, .int 0])) :: hW β u1 H0) 12 [(0, .ref b0)] _
  refine zv_putF (pc := 12) ((b0, .inr (3, [.ref (u1 0), .null, .null, .null, .null, .null, .null, .int 0])) :: hW β u1 H0) g hI ff_X4_12 0 rfl rfl rfl (Nat.le_of_ble_eq_true rfl) rfl dX4_init_12 ?_
  refine zv_aload_n (pc := 15) g dX4_init_15 0 rfl rfl ?_
  refine zv_newo (pc := 16) [.null, .null, .null, .null, .null, .null, .int 0, .int 0, .int 0] (fun q => (((b0, .inr (3, [.ref (u1 0), .null, .null, .null, .null, .null, .null, .int 0])) :: hW β u1 H0) ++ [(q, .inr (0, [.null, .null, .null, .null, .null, .null, .int 0, .int 0, .int 0]))])) g (zK.sub (c0 := 1) (c := 32) (k0 := 9) (k := 472) hk) zinX0 tyX0_ok (ci := 0) rfl wd_85 wd_86 wd_65 df_H (fun _ => rfl) dX4_init_16 (fun q => ?_)
  have g := zG.more g (zK.sub (c0 := 1) (c := 32) (k0 := 9) (k := 472) hk)
  have hJ := zJ.step (c0 := 1) (c := 32) (k0 := 9) (k := 472) hJ
  have hI : zI (zA Γ2 1 9) := hI
  have hk := zK.step (c0 := 1) (c := 32) (k0 := 9) (k := 472) hk
  generalize zA Γ2 1 9 = Γ3 at g hJ hI hk ⊢
  refine zv_dup (pc := 19) g dX4_init_19 rfl ?_
  refine zv_cI (pc := 20) (wc := [(q, .inr (0, [.null, .null, .null, .null, .null, .null, .int 0, .int 0, .int 0]))]) (suf := ((b0, .inr (3, [.ref (u1 0), .null, .null, .null, .null, .null, .null, .int 0])) :: hW β u1 H0)) g (zK.sub (c0 := 6) (c := 26) (k0 := 48) (k := 424) hk) cb_X4_11 wd_88 rfl cn_house (by decide) (by decide) List.perm_append_comm (Nat.le_of_ble_eq_true rfl) dX4_init_20 ?_
  have g := zG.more g (zK.sub (c0 := 6) (c := 26) (k0 := 48) (k := 424) hk)
  have hJ := zJ.step (c0 := 6) (c := 26) (k0 := 48) (k := 424) hJ
  have hI : zI (zA Γ3 6 48) := hI
  have hk := zK.step (c0 := 6) (c := 26) (k0 := 48) (k := 424) hk
  generalize zA Γ3 6 48 = Γ4 at g hJ hI hk ⊢
  rintro w ⟨u2, rfl, rfl⟩
  refine zv_perm List.perm_append_comm ?_
  show zV β 2 Γ4 ((b0, .inr (3, [.ref (u1 0), .null, .null, .null, .null, .null, .null, .int 0])) :: (hW β u1 H0 ++ hW β u2 H0)) 23 [(0, .ref b0)] _
  refine zv_putF (pc := 23) ((b0, .inr (3, [.ref (u1 0), .ref (u2 0), .null, .null, .null, .null, .null, .int 0])) :: (hW β u1 H0 ++ hW β u2 H0)) g hI ff_X4_16 0 rfl rfl rfl (Nat.le_of_ble_eq_true rfl) rfl dX4_init_23 ?_
  refine zv_aload_n (pc := 26) g dX4_init_26 0 rfl rfl ?_
  refine zv_newo (pc := 27) [.null, .null, .null, .null, .null, .null, .int 0, .int 0, .int 0] (fun q => (((b0, .inr (3, [.ref (u1 0), .ref (u2 0), .null, .null, .null, .null, .null, .int 0])) :: (hW β u1 H0 ++ hW β u2 H0)) ++ [(q, .inr (0, [.null, .null, .null, .null, .null, .null, .int 0, .int 0, .int 0]))])) g (zK.sub (c0 := 1) (c := 25) (k0 := 9) (k := 415) hk) zinX0 tyX0_ok (ci := 0) rfl wd_85 wd_86 wd_65 df_H (fun _ => rfl) dX4_init_27 (fun q => ?_)
  have g := zG.more g (zK.sub (c0 := 1) (c := 25) (k0 := 9) (k := 415) hk)
  have hJ := zJ.step (c0 := 1) (c := 25) (k0 := 9) (k := 415) hJ
  have hI : zI (zA Γ4 1 9) := hI
  have hk := zK.step (c0 := 1) (c := 25) (k0 := 9) (k := 415) hk
  generalize zA Γ4 1 9 = Γ5 at g hJ hI hk ⊢
  refine zv_dup (pc := 30) g dX4_init_30 rfl ?_
  refine zv_cI (pc := 31) (wc := [(q, .inr (0, [.null, .null, .null, .null, .null, .null, .int 0, .int 0, .int 0]))]) (suf := ((b0, .inr (3, [.ref (u1 0), .ref (u2 0), .null, .null, .null, .null, .null, .int 0])) :: (hW β u1 H0 ++ hW β u2 H0))) g (zK.sub (c0 := 6) (c := 19) (k0 := 48) (k := 367) hk) cb_X4_11 wd_88 rfl cn_house (by decide) (by decide) List.perm_append_comm (Nat.le_of_ble_eq_true rfl) dX4_init_31 ?_
  have g := zG.more g (zK.sub (c0 := 6) (c := 19) (k0 := 48) (k := 367) hk)
  have hJ := zJ.step (c0 := 6) (c := 19) (k0 := 48) (k := 367) hJ
  have hI : zI (zA Γ5 6 48) := hI
  have hk := zK.step (c0 := 6) (c := 19) (k0 := 48) (k := 367) hk
  generalize zA Γ5 6 48 = Γ6 at g hJ hI hk ⊢
  rintro w ⟨u3, rfl, rfl⟩
  refine zv_perm List.perm_append_comm ?_
  show zV β 2 Γ6 ((b0, .inr (3, [.ref (u1 0), .ref (u2 0), .null, .null, .null, .null, .null, .int 0])) :: ((hW β u1 H0 ++ hW β u2 H0) ++ hW β u3 H0)) 34 [(0, .ref b0)] _
  refine zv_putF (pc := 34) ((b0, .inr (3, [.ref (u1 0), .ref (u2 0), .ref (u3 0), .null, .null, .null, .null, .int 0])) :: ((hW β u1 H0 ++ hW β u2 H0) ++ hW β u3 H0)) g hI ff_X4_19 0 rfl rfl rfl (Nat.le_of_ble_eq_true rfl) rfl dX4_init_34 ?_
  refine zv_aload_n (pc := 37) g dX4_init_37 0 rfl rfl ?_
  refine zv_newo (pc := 38) [.null, .null, .null, .null, .null, .null, .int 0, .int 0, .int 0] (fun q => (((b0, .inr (3, [.ref (u1 0), .ref (u2 0), .ref (u3 0), .null, .null, .null, .null, .int 0])) :: ((hW β u1 H0 ++ hW β u2 H0) ++ hW β u3 H0)) ++ [(q, .inr (0, [.null, .null, .null, .null, .null, .null, .int 0, .int 0, .int 0]))])) g (zK.sub (c0 := 1) (c := 18) (k0 := 9) (k := 358) hk) zinX0 tyX0_ok (ci := 0) rfl wd_85 wd_86 wd_65 df_H (fun _ => rfl) dX4_init_38 (fun q => ?_)
  have g := zG.more g (zK.sub (c0 := 1) (c := 18) (k0 := 9) (k := 358) hk)
  have hJ := zJ.step (c0 := 1) (c := 18) (k0 := 9) (k := 358) hJ
  have hI : zI (zA Γ6 1 9) := hI
  have hk := zK.step (c0 := 1) (c := 18) (k0 := 9) (k := 358) hk
  generalize zA Γ6 1 9 = Γ7 at g hJ hI hk ⊢
  refine zv_dup (pc := 41) g dX4_init_41 rfl ?_
  refine zv_cI (pc := 42) (wc := [(q, .inr (0, [.null, .null, .null, .null, .null, .null, .int 0, .int 0, .int 0]))]) (suf := ((b0, .inr (3, [.ref (u1 0), .ref (u2 0), .ref (u3 0), .null, .null, .null, .null, .int 0])) :: ((hW β u1 H0 ++ hW β u2 H0) ++ hW β u3 H0))) g (zK.sub (c0 := 6) (c := 12) (k0 := 48) (k := 310) hk) cb_X4_11 wd_88 rfl cn_house (by decide) (by decide) List.perm_append_comm (Nat.le_of_ble_eq_true rfl) dX4_init_42 ?_
  have g := zG.more g (zK.sub (c0 := 6) (c := 12) (k0 := 48) (k := 310) hk)
  have hJ := zJ.step (c0 := 6) (c := 12) (k0 := 48) (k := 310) hJ
  have hI : zI (zA Γ7 6 48) := hI
  have hk := zK.step (c0 := 6) (c := 12) (k0 := 48) (k := 310) hk
  generalize zA Γ7 6 48 = Γ8 at g hJ hI hk ⊢
  rintro w ⟨u4, rfl, rfl⟩
  refine zv_perm List.perm_append_comm ?_
  show zV β 2 Γ8 ((b0, .inr (3, [.ref (u1 0), .ref (u2 0), .ref (u3 0), .null, .null, .null, .null, .int 0])) :: (((hW β u1 H0 ++ hW β u2 H0) ++ hW β u3 H0) ++ hW β u4 H0)) 45 [(0, .ref b0)] _
  refine zv_putF (pc := 45) ((b0, .inr (3, [.ref (u1 0), .ref (u2 0), .ref (u3 0), .ref (u4 0), .null, .null, .null, .int 0])) :: (((hW β u1 H0 ++ hW β u2 H0) ++ hW β u3 H0) ++ hW β u4 H0)) g hI ff_X4_22 0 rfl rfl rfl (Nat.le_of_ble_eq_true rfl) rfl dX4_init_45 ?_
  refine zv_aload_n (pc := 48) g dX4_init_48 0 rfl rfl ?_
  refine zv_newo (pc := 49) [.null, .int 0, .int 0, .int 0, .int 0, .int 0, .int 0] (fun q => (((b0, .inr (3, [.ref (u1 0), .ref (u2 0), .ref (u3 0), .ref (u4 0), .null, .null, .null, .int 0])) :: (((hW β u1 H0 ++ hW β u2 H0) ++ hW β u3 H0) ++ hW β u4 H0)) ++ [(q, .inr (2, [.null, .int 0, .int 0, .int 0, .int 0, .int 0, .int 0]))])) g (zK.sub (c0 := 1) (c := 11) (k0 := 7) (k := 303) hk) zinX3 tyX3_ok (ci := 2) rfl wd_135 wd_136 wd_66 df_T (fun _ => rfl) dX4_init_49 (fun q => ?_)
  have g := zG.more g (zK.sub (c0 := 1) (c := 11) (k0 := 7) (k := 303) hk)
  have hJ := zJ.step (c0 := 1) (c := 11) (k0 := 7) (k := 303) hJ
  have hI : zI (zA Γ8 1 7) := hI
  have hk := zK.step (c0 := 1) (c := 11) (k0 := 7) (k := 303) hk
  generalize zA Γ8 1 7 = Γ9 at g hJ hI hk ⊢
  refine zv_dup (pc := 52) g dX4_init_52 rfl ?_
  refine zv_cIN (pc := 53) (wc := [(q, .inr (2, [.null, .int 0, .int 0, .int 0, .int 0, .int 0, .int 0]))]) (suf := ((b0, .inr (3, [.ref (u1 0), .ref (u2 0), .ref (u3 0), .ref (u4 0), .null, .null, .null, .int 0])) :: (((hW β u1 H0 ++ hW β u2 H0) ++ hW β u3 H0) ++ hW β u4 H0))) g (zK.sub (c0 := 1) (c := 10) (k0 := 120) (k := 183) hk) (fun A U H h => h.2.2.2.2.1) wd_66 wd_139 (by decide +kernel) wd_138 rfl cn_tape (by decide) (by decide) List.perm_append_comm (Nat.le_of_ble_eq_true rfl) dX4_init_53 ?_
  have g := zG.more g (zK.sub (c0 := 1) (c := 10) (k0 := 120) (k := 183) hk)
  have hJ := zJ.step (c0 := 1) (c := 10) (k0 := 120) (k := 183) hJ
  have hI : zI (zA Γ9 1 120) := hI
  have hk := zK.step (c0 := 1) (c := 10) (k0 := 120) (k := 183) hk
  generalize zA Γ9 1 120 = Γ10 at g hJ hI hk ⊢
  rintro w ⟨t, rfl, rfl⟩
  refine zv_perm List.perm_append_comm ?_
  show zV β 2 Γ10 ((b0, .inr (3, [.ref (u1 0), .ref (u2 0), .ref (u3 0), .ref (u4 0), .null, .null, .null, .int 0])) :: ((((hW β u1 H0 ++ hW β u2 H0) ++ hW β u3 H0) ++ hW β u4 H0) ++ tW β t T0)) 56 [(0, .ref b0)] _
  refine zv_putF (pc := 56) ((b0, .inr (3, [.ref (u1 0), .ref (u2 0), .ref (u3 0), .ref (u4 0), .ref (t 0), .null, .null, .int 0])) :: ((((hW β u1 H0 ++ hW β u2 H0) ++ hW β u3 H0) ++ hW β u4 H0) ++ tW β t T0)) g hI ff_X4_28 0 rfl rfl rfl (Nat.le_of_ble_eq_true rfl) rfl dX4_init_56 ?_
  refine zv_aload_n (pc := 59) g dX4_init_59 0 rfl rfl ?_
  refine zv_iconst (pc := 60) g dX4_init_60 (v := 4) (by decide) ?_
  refine zv_newS (pc := 61) (N := 4) (fun sh => ((b0, .inr (3, [.ref (u1 0), .ref (u2 0), .ref (u3 0), .ref (u4 0), .ref (t 0), .null, .null, .int 0])) :: (((((hW β u1 H0 ++ hW β u2 H0) ++ hW β u3 H0) ++ hW β u4 H0) ++ tW β t T0) ++ [(sh, .inl (β.2.2.1.2.2, 4, .inr (.inr (.inr (.inr (fun _ => none))))))]))) g (zK.sub (c0 := 1) (c := 9) (k0 := 4) (k := 179) hk) (by decide) (by decide) (by decide) wd_164 (fun _ => rfl) dX4_init_61 (fun sh => ?_)
  have g := zG.more g (zK.sub (c0 := 1) (c := 9) (k0 := 4) (k := 179) hk)
  have hJ := zJ.step (c0 := 1) (c := 9) (k0 := 4) (k := 179) hJ
  have hI : zI (zA Γ10 1 4) := hI
  have hk := zK.step (c0 := 1) (c := 9) (k0 := 4) (k := 179) hk
  generalize zA Γ10 1 4 = Γ11 at g hJ hI hk ⊢
  refine zv_putF (pc := 64) ((b0, .inr (3, [.ref (u1 0), .ref (u2 0), .ref (u3 0), .ref (u4 0), .ref (t 0), .ref sh, .null, .int 0])) :: (((((hW β u1 H0 ++ hW β u2 H0) ++ hW β u3 H0) ++ hW β u4 H0) ++ tW β t T0) ++ [(sh, .inl (β.2.2.1.2.2, 4, .inr (.inr (.inr (.inr (fun _ => none))))))])) g hI ff_X4_34 0 rfl rfl rfl (Nat.le_of_ble_eq_true rfl) rfl dX4_init_64 ?_
  refine zv_aload_n (pc := 67) g dX4_init_67 0 rfl rfl ?_
  refine zv_bipush (pc := 68) g dX4_init_68 (v := 7) (by decide) ?_
  refine zv_newI (pc := 70) (N := 7) (fun fo => ((b0, .inr (3, [.ref (u1 0), .ref (u2 0), .ref (u3 0), .ref (u4 0), .ref (t 0), .ref sh, .null, .int 0])) :: ((((((hW β u1 H0 ++ hW β u2 H0) ++ hW β u3 H0) ++ hW β u4 H0) ++ tW β t T0) ++ [(sh, .inl (β.2.2.1.2.2, 4, .inr (.inr (.inr (.inr (fun _ => none))))))]) ++ [(fo, .inl (β.2.2.1.1, 7, .inl (fun _ => 0)))]))) g (zK.sub (c0 := 1) (c := 8) (k0 := 7) (k := 172) hk) (by decide) (by decide) (by decide) (fun _ => rfl) dX4_init_70 (fun fo => ?_)
  have g := zG.more g (zK.sub (c0 := 1) (c := 8) (k0 := 7) (k := 172) hk)
  have hJ := zJ.step (c0 := 1) (c := 8) (k0 := 7) (k := 172) hJ
  have hI : zI (zA Γ11 1 7) := hI
  have hk := zK.step (c0 := 1) (c := 8) (k0 := 7) (k := 172) hk
  generalize zA Γ11 1 7 = Γ12 at g hJ hI hk ⊢
  refine zv_putF (pc := 72) ((b0, .inr (3, [.ref (u1 0), .ref (u2 0), .ref (u3 0), .ref (u4 0), .ref (t 0), .ref sh, .ref fo, .int 0])) :: ((((((hW β u1 H0 ++ hW β u2 H0) ++ hW β u3 H0) ++ hW β u4 H0) ++ tW β t T0) ++ [(sh, .inl (β.2.2.1.2.2, 4, .inr (.inr (.inr (.inr (fun _ => none))))))]) ++ [(fo, .inl (β.2.2.1.1, 7, .inl (fun _ => 0)))])) g hI ff_X4_38 0 rfl rfl rfl (Nat.le_of_ble_eq_true rfl) rfl dX4_init_72 ?_
  refine zv_aload_n (pc := 75) g dX4_init_75 0 rfl rfl ?_
  refine zv_iconst (pc := 76) g dX4_init_76 (v := 0) (by decide) ?_
  refine zv_put (pc := 77) ((b0, .inr (3, [.ref (u1 0), .ref (u2 0), .ref (u3 0), .ref (u4 0), .ref (t 0), .ref sh, .ref fo, .int 0])) :: ((((((hW β u1 H0 ++ hW β u2 H0) ++ hW β u3 H0) ++ hW β u4 H0) ++ tW β t T0) ++ [(sh, .inl (β.2.2.1.2.2, 4, .inr (.inr (.inr (.inr (fun _ => none))))))]) ++ [(fo, .inl (β.2.2.1.1, 7, .inl (fun _ => 0)))])) g fp_X4_42 0 rfl rfl rfl (Nat.le_of_ble_eq_true rfl) rfl dX4_init_77 ?_
  refine zv_iconst (pc := 80) g dX4_init_80 (v := 0) (by decide) ?_
  refine zv_istore_n (pc := 81) 1 [(1, .int 0), (0, .ref b0)] g dX4_init_81 rfl (by decide) rfl ?_
  refine zv_iload_n (pc := 82) g dX4_init_82 0 rfl rfl ?_
  refine zv_iconst (pc := 83) g dX4_init_83 (v := 4) (by decide) ?_
  refine zv_icmp_ge (pc := 84) 106 g dX4_init_84 rfl (fun q => absurd q (by decide)) (fun _ => ?_)
  refine zv_aload_n (pc := 87) g dX4_init_87 1 rfl rfl ?_
  refine zv_get (pc := 88) g fl_X4_34 0 rfl rfl dX4_init_88 ?_
  refine zv_iload_n (pc := 91) g dX4_init_91 0 rfl rfl ?_
  refine zv_newo (pc := 92) [.null, .int 0, .int 0] (fun q => (((b0, .inr (3, [.ref (u1 0), .ref (u2 0), .ref (u3 0), .ref (u4 0), .ref (t 0), .ref sh, .ref fo, .int 0])) :: ((((((hW β u1 H0 ++ hW β u2 H0) ++ hW β u3 H0) ++ hW β u4 H0) ++ tW β t T0) ++ [(sh, .inl (β.2.2.1.2.2, 4, .inr (.inr (.inr (.inr (fun _ => none))))))]) ++ [(fo, .inl (β.2.2.1.1, 7, .inl (fun _ => 0)))])) ++ [(q, .inr (1, [.null, .int 0, .int 0]))])) g (zK.sub (c0 := 1) (c := 7) (k0 := 3) (k := 169) hk) zinX2 tyX2_ok (ci := 1) rfl wd_164 wd_166 wd_67 df_S (fun _ => rfl) dX4_init_92 (fun q => ?_)
  have g := zG.more g (zK.sub (c0 := 1) (c := 7) (k0 := 3) (k := 169) hk)
  have hJ := zJ.step (c0 := 1) (c := 7) (k0 := 3) (k := 169) hJ
  have hI : zI (zA Γ12 1 3) := hI
  have hk := zK.step (c0 := 1) (c := 7) (k0 := 3) (k := 169) hk
  generalize zA Γ12 1 3 = Γ13 at g hJ hI hk ⊢
  refine zv_dup (pc := 95) g dX4_init_95 rfl ?_
  refine zv_cIN (pc := 96) (wc := [(q, .inr (1, [.null, .int 0, .int 0]))]) (suf := ((b0, .inr (3, [.ref (u1 0), .ref (u2 0), .ref (u3 0), .ref (u4 0), .ref (t 0), .ref sh, .ref fo, .int 0])) :: ((((((hW β u1 H0 ++ hW β u2 H0) ++ hW β u3 H0) ++ hW β u4 H0) ++ tW β t T0) ++ [(sh, .inl (β.2.2.1.2.2, 4, .inr (.inr (.inr (.inr (fun _ => none))))))]) ++ [(fo, .inl (β.2.2.1.1, 7, .inl (fun _ => 0)))]))) g (zK.sub (c0 := 1) (c := 6) (k0 := 40) (k := 129) hk) (fun A U H h => h.2.2.2.2.2.1) wd_67 wd_169 (by decide +kernel) wd_168 rfl cn_sheet (by decide) (by decide) List.perm_append_comm (Nat.le_of_ble_eq_true rfl) dX4_init_96 ?_
  have g := zG.more g (zK.sub (c0 := 1) (c := 6) (k0 := 40) (k := 129) hk)
  have hJ := zJ.step (c0 := 1) (c := 6) (k0 := 40) (k := 129) hJ
  have hI : zI (zA Γ13 1 40) := hI
  have hk := zK.step (c0 := 1) (c := 6) (k0 := 40) (k := 129) hk
  generalize zA Γ13 1 40 = Γ14 at g hJ hI hk ⊢
  rintro w ⟨s0, rfl, rfl⟩
  refine zv_perm List.perm_append_comm ?_
  show zV β 2 Γ14 ((b0, .inr (3, [.ref (u1 0), .ref (u2 0), .ref (u3 0), .ref (u4 0), .ref (t 0), .ref sh, .ref fo, .int 0])) :: (((((((hW β u1 H0 ++ hW β u2 H0) ++ hW β u3 H0) ++ hW β u4 H0) ++ tW β t T0) ++ [(sh, .inl (β.2.2.1.2.2, 4, .inr (.inr (.inr (.inr (fun _ => none))))))]) ++ [(fo, .inl (β.2.2.1.1, 7, .inl (fun _ => 0)))]) ++ sW β s0 S0)) 99 [(1, .int 0), (0, .ref b0)] _
  refine zv_sts (pc := 99) ((b0, .inr (3, [.ref (u1 0), .ref (u2 0), .ref (u3 0), .ref (u4 0), .ref (t 0), .ref sh, .ref fo, .int 0])) :: (((((((hW β u1 H0 ++ hW β u2 H0) ++ hW β u3 H0) ++ hW β u4 H0) ++ tW β t T0) ++ [(sh, .inl (β.2.2.1.2.2, 4, .inr (.inr (.inr (.inr (va_up (fun _ => none) 0 (some (s0 0))))))))]) ++ [(fo, .inl (β.2.2.1.1, 7, .inl (fun _ => 0)))]) ++ sW β s0 S0)) g 31 33 rfl rfl (show ¬ ((0 : Int32) < 0 ∨ 4 ≤ Int32.toNatClampNeg 0) by decide) rfl dX4_init_99 ?_
  refine zv_iinc (pc := 100) 1 [(1, .int 1), (0, .ref b0)] g dX4_init_100 0 rfl (by decide) (by decide) rfl ?_
  refine zv_goto (pc := 103) 82 g dX4_init_103 rfl ?_
  refine zv_iload_n (pc := 82) g dX4_init_82 0 rfl rfl ?_
  refine zv_iconst (pc := 83) g dX4_init_83 (v := 4) (by decide) ?_
  refine zv_icmp_ge (pc := 84) 106 g dX4_init_84 rfl (fun q => absurd q (by decide)) (fun _ => ?_)
  refine zv_aload_n (pc := 87) g dX4_init_87 1 rfl rfl ?_
  refine zv_get (pc := 88) g fl_X4_34 0 rfl rfl dX4_init_88 ?_
  refine zv_iload_n (pc := 91) g dX4_init_91 0 rfl rfl ?_
  refine zv_newo (pc := 92) [.null, .int 0, .int 0] (fun q => (((b0, .inr (3, [.ref (u1 0), .ref (u2 0), .ref (u3 0), .ref (u4 0), .ref (t 0), .ref sh, .ref fo, .int 0])) :: (((((((hW β u1 H0 ++ hW β u2 H0) ++ hW β u3 H0) ++ hW β u4 H0) ++ tW β t T0) ++ [(sh, .inl (β.2.2.1.2.2, 4, .inr (.inr (.inr (.inr (va_up (fun _ => none) 0 (some (s0 0))))))))]) ++ [(fo, .inl (β.2.2.1.1, 7, .inl (fun _ => 0)))]) ++ sW β s0 S0)) ++ [(q, .inr (1, [.null, .int 0, .int 0]))])) g (zK.sub (c0 := 1) (c := 5) (k0 := 3) (k := 126) hk) zinX2 tyX2_ok (ci := 1) rfl wd_164 wd_166 wd_67 df_S (fun _ => rfl) dX4_init_92 (fun q => ?_)
  have g := zG.more g (zK.sub (c0 := 1) (c := 5) (k0 := 3) (k := 126) hk)
  have hJ := zJ.step (c0 := 1) (c := 5) (k0 := 3) (k := 126) hJ
  have hI : zI (zA Γ14 1 3) := hI
  have hk := zK.step (c0 := 1) (c := 5) (k0 := 3) (k := 126) hk
  generalize zA Γ14 1 3 = Γ15 at g hJ hI hk ⊢
  refine zv_dup (pc := 95) g dX4_init_95 rfl ?_
  refine zv_cIN (pc := 96) (wc := [(q, .inr (1, [.null, .int 0, .int 0]))]) (suf := ((b0, .inr (3, [.ref (u1 0), .ref (u2 0), .ref (u3 0), .ref (u4 0), .ref (t 0), .ref sh, .ref fo, .int 0])) :: (((((((hW β u1 H0 ++ hW β u2 H0) ++ hW β u3 H0) ++ hW β u4 H0) ++ tW β t T0) ++ [(sh, .inl (β.2.2.1.2.2, 4, .inr (.inr (.inr (.inr (va_up (fun _ => none) 0 (some (s0 0))))))))]) ++ [(fo, .inl (β.2.2.1.1, 7, .inl (fun _ => 0)))]) ++ sW β s0 S0))) g (zK.sub (c0 := 1) (c := 4) (k0 := 40) (k := 86) hk) (fun A U H h => h.2.2.2.2.2.1) wd_67 wd_169 (by decide +kernel) wd_168 rfl cn_sheet (by decide) (by decide) List.perm_append_comm (Nat.le_of_ble_eq_true rfl) dX4_init_96 ?_
  have g := zG.more g (zK.sub (c0 := 1) (c := 4) (k0 := 40) (k := 86) hk)
  have hJ := zJ.step (c0 := 1) (c := 4) (k0 := 40) (k := 86) hJ
  have hI : zI (zA Γ15 1 40) := hI
  have hk := zK.step (c0 := 1) (c := 4) (k0 := 40) (k := 86) hk
  generalize zA Γ15 1 40 = Γ16 at g hJ hI hk ⊢
  rintro w ⟨s1, rfl, rfl⟩
  refine zv_perm List.perm_append_comm ?_
  show zV β 2 Γ16 ((b0, .inr (3, [.ref (u1 0), .ref (u2 0), .ref (u3 0), .ref (u4 0), .ref (t 0), .ref sh, .ref fo, .int 0])) :: ((((((((hW β u1 H0 ++ hW β u2 H0) ++ hW β u3 H0) ++ hW β u4 H0) ++ tW β t T0) ++ [(sh, .inl (β.2.2.1.2.2, 4, .inr (.inr (.inr (.inr (va_up (fun _ => none) 0 (some (s0 0))))))))]) ++ [(fo, .inl (β.2.2.1.1, 7, .inl (fun _ => 0)))]) ++ sW β s0 S0) ++ sW β s1 S0)) 99 [(1, .int 1), (0, .ref b0)] _
  refine zv_sts (pc := 99) ((b0, .inr (3, [.ref (u1 0), .ref (u2 0), .ref (u3 0), .ref (u4 0), .ref (t 0), .ref sh, .ref fo, .int 0])) :: ((((((((hW β u1 H0 ++ hW β u2 H0) ++ hW β u3 H0) ++ hW β u4 H0) ++ tW β t T0) ++ [(sh, .inl (β.2.2.1.2.2, 4, .inr (.inr (.inr (.inr (va_up (va_up (fun _ => none) 0 (some (s0 0))) 1 (some (s1 0))))))))]) ++ [(fo, .inl (β.2.2.1.1, 7, .inl (fun _ => 0)))]) ++ sW β s0 S0) ++ sW β s1 S0)) g 31 35 rfl rfl (show ¬ ((1 : Int32) < 0 ∨ 4 ≤ Int32.toNatClampNeg 1) by decide) rfl dX4_init_99 ?_
  refine zv_iinc (pc := 100) 1 [(1, .int 2), (0, .ref b0)] g dX4_init_100 0 rfl (by decide) (by decide) rfl ?_
  refine zv_goto (pc := 103) 82 g dX4_init_103 rfl ?_
  refine zv_iload_n (pc := 82) g dX4_init_82 0 rfl rfl ?_
  refine zv_iconst (pc := 83) g dX4_init_83 (v := 4) (by decide) ?_
  refine zv_icmp_ge (pc := 84) 106 g dX4_init_84 rfl (fun q => absurd q (by decide)) (fun _ => ?_)
  refine zv_aload_n (pc := 87) g dX4_init_87 1 rfl rfl ?_
  refine zv_get (pc := 88) g fl_X4_34 0 rfl rfl dX4_init_88 ?_
  refine zv_iload_n (pc := 91) g dX4_init_91 0 rfl rfl ?_
  refine zv_newo (pc := 92) [.null, .int 0, .int 0] (fun q => (((b0, .inr (3, [.ref (u1 0), .ref (u2 0), .ref (u3 0), .ref (u4 0), .ref (t 0), .ref sh, .ref fo, .int 0])) :: ((((((((hW β u1 H0 ++ hW β u2 H0) ++ hW β u3 H0) ++ hW β u4 H0) ++ tW β t T0) ++ [(sh, .inl (β.2.2.1.2.2, 4, .inr (.inr (.inr (.inr (va_up (va_up (fun _ => none) 0 (some (s0 0))) 1 (some (s1 0))))))))]) ++ [(fo, .inl (β.2.2.1.1, 7, .inl (fun _ => 0)))]) ++ sW β s0 S0) ++ sW β s1 S0)) ++ [(q, .inr (1, [.null, .int 0, .int 0]))])) g (zK.sub (c0 := 1) (c := 3) (k0 := 3) (k := 83) hk) zinX2 tyX2_ok (ci := 1) rfl wd_164 wd_166 wd_67 df_S (fun _ => rfl) dX4_init_92 (fun q => ?_)
  have g := zG.more g (zK.sub (c0 := 1) (c := 3) (k0 := 3) (k := 83) hk)
  have hJ := zJ.step (c0 := 1) (c := 3) (k0 := 3) (k := 83) hJ
  have hI : zI (zA Γ16 1 3) := hI
  have hk := zK.step (c0 := 1) (c := 3) (k0 := 3) (k := 83) hk
  generalize zA Γ16 1 3 = Γ17 at g hJ hI hk ⊢
  refine zv_dup (pc := 95) g dX4_init_95 rfl ?_
  refine zv_cIN (pc := 96) (wc := [(q, .inr (1, [.null, .int 0, .int 0]))]) (suf := ((b0, .inr (3, [.ref (u1 0), .ref (u2 0), .ref (u3 0), .ref (u4 0), .ref (t 0), .ref sh, .ref fo, .int 0])) :: ((((((((hW β u1 H0 ++ hW β u2 H0) ++ hW β u3 H0) ++ hW β u4 H0) ++ tW β t T0) ++ [(sh, .inl (β.2.2.1.2.2, 4, .inr (.inr (.inr (.inr (va_up (va_up (fun _ => none) 0 (some (s0 0))) 1 (some (s1 0))))))))]) ++ [(fo, .inl (β.2.2.1.1, 7, .inl (fun _ => 0)))]) ++ sW β s0 S0) ++ sW β s1 S0))) g (zK.sub (c0 := 1) (c := 2) (k0 := 40) (k := 43) hk) (fun A U H h => h.2.2.2.2.2.1) wd_67 wd_169 (by decide +kernel) wd_168 rfl cn_sheet (by decide) (by decide) List.perm_append_comm (Nat.le_of_ble_eq_true rfl) dX4_init_96 ?_
  have g := zG.more g (zK.sub (c0 := 1) (c := 2) (k0 := 40) (k := 43) hk)
  have hJ := zJ.step (c0 := 1) (c := 2) (k0 := 40) (k := 43) hJ
  have hI : zI (zA Γ17 1 40) := hI
  have hk := zK.step (c0 := 1) (c := 2) (k0 := 40) (k := 43) hk
  generalize zA Γ17 1 40 = Γ18 at g hJ hI hk ⊢
  rintro w ⟨s2, rfl, rfl⟩
  refine zv_perm List.perm_append_comm ?_
  show zV β 2 Γ18 ((b0, .inr (3, [.ref (u1 0), .ref (u2 0), .ref (u3 0), .ref (u4 0), .ref (t 0), .ref sh, .ref fo, .int 0])) :: (((((((((hW β u1 H0 ++ hW β u2 H0) ++ hW β u3 H0) ++ hW β u4 H0) ++ tW β t T0) ++ [(sh, .inl (β.2.2.1.2.2, 4, .inr (.inr (.inr (.inr (va_up (va_up (fun _ => none) 0 (some (s0 0))) 1 (some (s1 0))))))))]) ++ [(fo, .inl (β.2.2.1.1, 7, .inl (fun _ => 0)))]) ++ sW β s0 S0) ++ sW β s1 S0) ++ sW β s2 S0)) 99 [(1, .int 2), (0, .ref b0)] _
  refine zv_sts (pc := 99) ((b0, .inr (3, [.ref (u1 0), .ref (u2 0), .ref (u3 0), .ref (u4 0), .ref (t 0), .ref sh, .ref fo, .int 0])) :: (((((((((hW β u1 H0 ++ hW β u2 H0) ++ hW β u3 H0) ++ hW β u4 H0) ++ tW β t T0) ++ [(sh, .inl (β.2.2.1.2.2, 4, .inr (.inr (.inr (.inr (va_up (va_up (va_up (fun _ => none) 0 (some (s0 0))) 1 (some (s1 0))) 2 (some (s2 0))))))))]) ++ [(fo, .inl (β.2.2.1.1, 7, .inl (fun _ => 0)))]) ++ sW β s0 S0) ++ sW β s1 S0) ++ sW β s2 S0)) g 31 37 rfl rfl (show ¬ ((2 : Int32) < 0 ∨ 4 ≤ Int32.toNatClampNeg 2) by decide) rfl dX4_init_99 ?_
  refine zv_iinc (pc := 100) 1 [(1, .int 3), (0, .ref b0)] g dX4_init_100 0 rfl (by decide) (by decide) rfl ?_
  refine zv_goto (pc := 103) 82 g dX4_init_103 rfl ?_
  refine zv_iload_n (pc := 82) g dX4_init_82 0 rfl rfl ?_
  refine zv_iconst (pc := 83) g dX4_init_83 (v := 4) (by decide) ?_
  refine zv_icmp_ge (pc := 84) 106 g dX4_init_84 rfl (fun q => absurd q (by decide)) (fun _ => ?_)
  refine zv_aload_n (pc := 87) g dX4_init_87 1 rfl rfl ?_
  refine zv_get (pc := 88) g fl_X4_34 0 rfl rfl dX4_init_88 ?_
  refine zv_iload_n (pc := 91) g dX4_init_91 0 rfl rfl ?_
  refine zv_newo (pc := 92) [.null, .int 0, .int 0] (fun q => (((b0, .inr (3, [.ref (u1 0), .ref (u2 0), .ref (u3 0), .ref (u4 0), .ref (t 0), .ref sh, .ref fo, .int 0])) :: (((((((((hW β u1 H0 ++ hW β u2 H0) ++ hW β u3 H0) ++ hW β u4 H0) ++ tW β t T0) ++ [(sh, .inl (β.2.2.1.2.2, 4, .inr (.inr (.inr (.inr (va_up (va_up (va_up (fun _ => none) 0 (some (s0 0))) 1 (some (s1 0))) 2 (some (s2 0))))))))]) ++ [(fo, .inl (β.2.2.1.1, 7, .inl (fun _ => 0)))]) ++ sW β s0 S0) ++ sW β s1 S0) ++ sW β s2 S0)) ++ [(q, .inr (1, [.null, .int 0, .int 0]))])) g (zK.sub (c0 := 1) (c := 1) (k0 := 3) (k := 40) hk) zinX2 tyX2_ok (ci := 1) rfl wd_164 wd_166 wd_67 df_S (fun _ => rfl) dX4_init_92 (fun q => ?_)
  have g := zG.more g (zK.sub (c0 := 1) (c := 1) (k0 := 3) (k := 40) hk)
  have hJ := zJ.step (c0 := 1) (c := 1) (k0 := 3) (k := 40) hJ
  have hI : zI (zA Γ18 1 3) := hI
  have hk := zK.step (c0 := 1) (c := 1) (k0 := 3) (k := 40) hk
  generalize zA Γ18 1 3 = Γ19 at g hJ hI hk ⊢
  refine zv_dup (pc := 95) g dX4_init_95 rfl ?_
  refine zv_cIN (pc := 96) (wc := [(q, .inr (1, [.null, .int 0, .int 0]))]) (suf := ((b0, .inr (3, [.ref (u1 0), .ref (u2 0), .ref (u3 0), .ref (u4 0), .ref (t 0), .ref sh, .ref fo, .int 0])) :: (((((((((hW β u1 H0 ++ hW β u2 H0) ++ hW β u3 H0) ++ hW β u4 H0) ++ tW β t T0) ++ [(sh, .inl (β.2.2.1.2.2, 4, .inr (.inr (.inr (.inr (va_up (va_up (va_up (fun _ => none) 0 (some (s0 0))) 1 (some (s1 0))) 2 (some (s2 0))))))))]) ++ [(fo, .inl (β.2.2.1.1, 7, .inl (fun _ => 0)))]) ++ sW β s0 S0) ++ sW β s1 S0) ++ sW β s2 S0))) g (zK.sub (c0 := 1) (c := 0) (k0 := 40) (k := 0) hk) (fun A U H h => h.2.2.2.2.2.1) wd_67 wd_169 (by decide +kernel) wd_168 rfl cn_sheet (by decide) (by decide) List.perm_append_comm (Nat.le_of_ble_eq_true rfl) dX4_init_96 ?_
  have g := zG.more g (zK.sub (c0 := 1) (c := 0) (k0 := 40) (k := 0) hk)
  have hJ := zJ.step (c0 := 1) (c := 0) (k0 := 40) (k := 0) hJ
  have hI : zI (zA Γ19 1 40) := hI
  have hk := zK.step (c0 := 1) (c := 0) (k0 := 40) (k := 0) hk
  generalize zA Γ19 1 40 = Γ20 at g hJ hI hk ⊢
  rintro w ⟨s3, rfl, rfl⟩
  refine zv_perm List.perm_append_comm ?_
  show zV β 2 Γ20 ((b0, .inr (3, [.ref (u1 0), .ref (u2 0), .ref (u3 0), .ref (u4 0), .ref (t 0), .ref sh, .ref fo, .int 0])) :: ((((((((((hW β u1 H0 ++ hW β u2 H0) ++ hW β u3 H0) ++ hW β u4 H0) ++ tW β t T0) ++ [(sh, .inl (β.2.2.1.2.2, 4, .inr (.inr (.inr (.inr (va_up (va_up (va_up (fun _ => none) 0 (some (s0 0))) 1 (some (s1 0))) 2 (some (s2 0))))))))]) ++ [(fo, .inl (β.2.2.1.1, 7, .inl (fun _ => 0)))]) ++ sW β s0 S0) ++ sW β s1 S0) ++ sW β s2 S0) ++ sW β s3 S0)) 99 [(1, .int 3), (0, .ref b0)] _
  refine zv_sts (pc := 99) ((b0, .inr (3, [.ref (u1 0), .ref (u2 0), .ref (u3 0), .ref (u4 0), .ref (t 0), .ref sh, .ref fo, .int 0])) :: ((((((((((hW β u1 H0 ++ hW β u2 H0) ++ hW β u3 H0) ++ hW β u4 H0) ++ tW β t T0) ++ [(sh, .inl (β.2.2.1.2.2, 4, .inr (.inr (.inr (.inr (va_up (va_up (va_up (va_up (fun _ => none) 0 (some (s0 0))) 1 (some (s1 0))) 2 (some (s2 0))) 3 (some (s3 0))))))))]) ++ [(fo, .inl (β.2.2.1.1, 7, .inl (fun _ => 0)))]) ++ sW β s0 S0) ++ sW β s1 S0) ++ sW β s2 S0) ++ sW β s3 S0)) g 31 39 rfl rfl (show ¬ ((3 : Int32) < 0 ∨ 4 ≤ Int32.toNatClampNeg 3) by decide) rfl dX4_init_99 ?_
  refine zv_iinc (pc := 100) 1 [(1, .int 4), (0, .ref b0)] g dX4_init_100 0 rfl (by decide) (by decide) rfl ?_
  refine zv_goto (pc := 103) 82 g dX4_init_103 rfl ?_
  refine zv_iload_n (pc := 82) g dX4_init_82 0 rfl rfl ?_
  refine zv_iconst (pc := 83) g dX4_init_83 (v := 4) (by decide) ?_
  refine zv_icmp_ge (pc := 84) 106 g dX4_init_84 rfl (fun _ => ?_) (fun q => absurd (by decide) q)
  refine zv_vret (pc := 106) g (zJ.done hJ) dX4_init_106 ⟨rfl, bX b0 u1 u2 u3 u4 t sh fo s0 s1 s2 s3, rfl, ?_⟩
  rw [bX_sh b0 u1 u2 u3 u4 t sh fo s0 s1 s2 s3]
  exact (List.perm_append_comm (l₁ := [(fo, .inl (β.2.2.1.1, 7, .inl (fun _ => 0)))]) (l₂ := (((sW β s0 S0 ++ sW β s1 S0) ++ sW β s2 S0) ++ sW β s3 S0))).append_left ((b0, .inr (3, [.ref (u1 0), .ref (u2 0), .ref (u3 0), .ref (u4 0), .ref (t 0), .ref sh, .ref fo, .int 0])) :: (((((hW β u1 H0 ++ hW β u2 H0) ++ hW β u3 H0) ++ hW β u4 H0) ++ tW β t T0) ++ [(sh, .inl (β.2.2.1.2.2, 4, .inr (.inr (.inr (.inr (xsF (bX b0 u1 u2 u3 u4 t sh fo s0 s1 s2 s3)))))))]))
