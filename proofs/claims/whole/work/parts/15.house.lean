def wX0_becomeAs (post : (HSt × HSt) → Prop) (S : HSt × HSt) : Prop := ∀ S1 : HSt × HSt, S1 = ((h_day_s S.1 (h_day S.2)), S.2) → (∀ S2 : HSt × HSt, S2 = ((h_fall_s S1.1 (h_fall S1.2)), S1.2) → (∀ S3 : HSt × HSt, S3 = ((h_dusters_s S2.1 (h_dusters S2.2)), S2.2) → ((¬ (0 : Int32) < 0 ∧ ¬ (0 : Int32) < 0 ∧ ¬ (8 : Int32) < 0 ∧ (Int32.toNatClampNeg 0) + (Int32.toNatClampNeg 8) ≤ 8 ∧ (Int32.toNatClampNeg 0) + (Int32.toNatClampNeg 8) ≤ 8) ∧ (∀ S4 : HSt × HSt, S4 = ((h_dust_s S3.1 (va_cpy (h_dust S3.2) (h_dust S3.1) (Int32.toNatClampNeg 0) (Int32.toNatClampNeg 0) (Int32.toNatClampNeg 8))), S3.2) → ((¬ (0 : Int32) < 0 ∧ ¬ (0 : Int32) < 0 ∧ ¬ (8 : Int32) < 0 ∧ (Int32.toNatClampNeg 0) + (Int32.toNatClampNeg 8) ≤ 8 ∧ (Int32.toNatClampNeg 0) + (Int32.toNatClampNeg 8) ≤ 8) ∧ (∀ S5 : HSt × HSt, S5 = ((h_memories_s S4.1 (va_cpy (h_memories S4.2) (h_memories S4.1) (Int32.toNatClampNeg 0) (Int32.toNatClampNeg 0) (Int32.toNatClampNeg 8))), S4.2) → ((¬ (0 : Int32) < 0 ∧ ¬ (0 : Int32) < 0 ∧ ¬ (8 : Int32) < 0 ∧ (Int32.toNatClampNeg 0) + (Int32.toNatClampNeg 8) ≤ 8 ∧ (Int32.toNatClampNeg 0) + (Int32.toNatClampNeg 8) ≤ 8) ∧ (∀ S6 : HSt × HSt, S6 = ((h_kinds_s S5.1 (va_cpy (h_kinds S5.2) (h_kinds S5.1) (Int32.toNatClampNeg 0) (Int32.toNatClampNeg 0) (Int32.toNatClampNeg 8))), S5.2) → ((¬ (0 : Int32) < 0 ∧ ¬ (0 : Int32) < 0 ∧ ¬ (8 : Int32) < 0 ∧ (Int32.toNatClampNeg 0) + (Int32.toNatClampNeg 8) ≤ 8 ∧ (Int32.toNatClampNeg 0) + (Int32.toNatClampNeg 8) ≤ 8) ∧ (∀ S7 : HSt × HSt, S7 = ((h_held_s S6.1 (va_cpy (h_held S6.2) (h_held S6.1) (Int32.toNatClampNeg 0) (Int32.toNatClampNeg 0) (Int32.toNatClampNeg 8))), S6.2) → ((¬ (0 : Int32) < 0 ∧ ¬ (0 : Int32) < 0 ∧ ¬ (8 : Int32) < 0 ∧ (Int32.toNatClampNeg 0) + (Int32.toNatClampNeg 8) ≤ 8 ∧ (Int32.toNatClampNeg 0) + (Int32.toNatClampNeg 8) ≤ 8) ∧ (∀ S8 : HSt × HSt, S8 = ((h_grimes_s S7.1 (va_cpy (h_grimes S7.2) (h_grimes S7.1) (Int32.toNatClampNeg 0) (Int32.toNatClampNeg 0) (Int32.toNatClampNeg 8))), S7.2) → ((¬ (0 : Int32) < 0 ∧ ¬ (0 : Int32) < 0 ∧ ¬ (8 : Int32) < 0 ∧ (Int32.toNatClampNeg 0) + (Int32.toNatClampNeg 8) ≤ 8 ∧ (Int32.toNatClampNeg 0) + (Int32.toNatClampNeg 8) ≤ 8) ∧ (∀ S9 : HSt × HSt, S9 = ((h_rounds_s S8.1 (va_cpy (h_rounds S8.2) (h_rounds S8.1) (Int32.toNatClampNeg 0) (Int32.toNatClampNeg 0) (Int32.toNatClampNeg 8))), S8.2) → (post S9)))))))))))))))
set_option maxRecDepth 100000 in
set_option maxHeartbeats 4000000 in
theorem ctX0_becomeAs {β : zz_B} {u o : Nat → Nat} {post : (HSt × HSt) → Prop} {S : HSt × HSt} (h : wX0_becomeAs post S) : zCv β yX0_becomeAs cX0_becomeAs 2 none 1 60 [.ref (u 0), .ref (o 0)] (hhW β u o) S post := by
  unfold wX0_becomeAs at h
  unfold zCv
  refine zC.of (by decide) (Nat.le_of_ble_eq_true rfl) ?_
  intro Γ g hR
  show zV β 2 Γ ((hhW β u o) S) 0 [(0, .ref (u 0)), (1, .ref (o 0))] []
  refine zv_aload_n (pc := 0) g dX0_becomeAs_0 0 rfl rfl ?_
  refine zv_aload_n (pc := 1) g dX0_becomeAs_1 1 rfl rfl ?_
  refine zv_get (pc := 2) g fl_X0_30 7 rfl rfl dX0_becomeAs_2 ?_
  refine zv_put (pc := 5) ((hhW β u o) ((h_day_s S.1 (h_day S.2)), S.2)) g fp_X0_30 0 rfl rfl rfl (Nat.le_of_ble_eq_true rfl) rfl dX0_becomeAs_5 ?_
  refine zv_nmS (wf := (hhW β u o)) (fun S1 eS1 => ?_)
  replace h := h S1 eS1
  refine zv_aload_n (pc := 8) g dX0_becomeAs_8 0 rfl rfl ?_
  refine zv_aload_n (pc := 9) g dX0_becomeAs_9 1 rfl rfl ?_
  refine zv_get (pc := 10) g fl_X0_34 7 rfl rfl dX0_becomeAs_10 ?_
  refine zv_put (pc := 13) ((hhW β u o) ((h_fall_s S1.1 (h_fall S1.2)), S1.2)) g fp_X0_34 0 rfl rfl rfl (Nat.le_of_ble_eq_true rfl) rfl dX0_becomeAs_13 ?_
  refine zv_nmS (wf := (hhW β u o)) (fun S2 eS2 => ?_)
  replace h := h S2 eS2
  refine zv_aload_n (pc := 16) g dX0_becomeAs_16 0 rfl rfl ?_
  refine zv_aload_n (pc := 17) g dX0_becomeAs_17 1 rfl rfl ?_
  refine zv_get (pc := 18) g fl_X0_37 7 rfl rfl dX0_becomeAs_18 ?_
  refine zv_put (pc := 21) ((hhW β u o) ((h_dusters_s S2.1 (h_dusters S2.2)), S2.2)) g fp_X0_37 0 rfl rfl rfl (Nat.le_of_ble_eq_true rfl) rfl dX0_becomeAs_21 ?_
  refine zv_nmS (wf := (hhW β u o)) (fun S3 eS3 => ?_)
  replace h := h S3 eS3
  refine zv_aload_n (pc := 24) g dX0_becomeAs_24 1 rfl rfl ?_
  refine zv_get (pc := 25) g fl_X0_9 7 rfl rfl dX0_becomeAs_25 ?_
  refine zv_iconst (pc := 28) g dX0_becomeAs_28 (v := 0) (by decide) ?_
  refine zv_aload_n (pc := 29) g dX0_becomeAs_29 0 rfl rfl ?_
  refine zv_get (pc := 30) g fl_X0_9 0 rfl rfl dX0_becomeAs_30 ?_
  refine zv_iconst (pc := 33) g dX0_becomeAs_33 (v := 0) (by decide) ?_
  refine zv_bipush (pc := 34) g dX0_becomeAs_34 (v := 8) (by decide) ?_
  obtain ⟨⟨hc1, hc2, hc3, hc4, hc5⟩, h⟩ := h
  refine zv_copyi (pc := 36) ((hhW β u o) ((h_dust_s S3.1 (va_cpy (h_dust S3.2) (h_dust S3.1) (Int32.toNatClampNeg 0) (Int32.toNatClampNeg 0) (Int32.toNatClampNeg 8))), S3.2)) g ca_X0_40 8 1 rfl rfl hc1 hc2 hc3 hc4 hc5 rfl (by decide) (by decide) (Nat.le_of_ble_eq_true rfl) dX0_becomeAs_36 ?_
  refine zv_nmS (wf := (hhW β u o)) (fun S4 eS4 => ?_)
  replace h := h S4 eS4
  refine zv_aload_n (pc := 39) g dX0_becomeAs_39 1 rfl rfl ?_
  refine zv_get (pc := 40) g fl_X0_15 7 rfl rfl dX0_becomeAs_40 ?_
  refine zv_iconst (pc := 43) g dX0_becomeAs_43 (v := 0) (by decide) ?_
  refine zv_aload_n (pc := 44) g dX0_becomeAs_44 0 rfl rfl ?_
  refine zv_get (pc := 45) g fl_X0_15 0 rfl rfl dX0_becomeAs_45 ?_
  refine zv_iconst (pc := 48) g dX0_becomeAs_48 (v := 0) (by decide) ?_
  refine zv_bipush (pc := 49) g dX0_becomeAs_49 (v := 8) (by decide) ?_
  obtain ⟨⟨hc1, hc2, hc3, hc4, hc5⟩, h⟩ := h
  refine zv_copyi (pc := 51) ((hhW β u o) ((h_memories_s S4.1 (va_cpy (h_memories S4.2) (h_memories S4.1) (Int32.toNatClampNeg 0) (Int32.toNatClampNeg 0) (Int32.toNatClampNeg 8))), S4.2)) g ca_X0_40 9 2 rfl rfl hc1 hc2 hc3 hc4 hc5 rfl (by decide) (by decide) (Nat.le_of_ble_eq_true rfl) dX0_becomeAs_51 ?_
  refine zv_nmS (wf := (hhW β u o)) (fun S5 eS5 => ?_)
  replace h := h S5 eS5
  refine zv_aload_n (pc := 54) g dX0_becomeAs_54 1 rfl rfl ?_
  refine zv_get (pc := 55) g fl_X0_18 7 rfl rfl dX0_becomeAs_55 ?_
  refine zv_iconst (pc := 58) g dX0_becomeAs_58 (v := 0) (by decide) ?_
  refine zv_aload_n (pc := 59) g dX0_becomeAs_59 0 rfl rfl ?_
  refine zv_get (pc := 60) g fl_X0_18 0 rfl rfl dX0_becomeAs_60 ?_
  refine zv_iconst (pc := 63) g dX0_becomeAs_63 (v := 0) (by decide) ?_
  refine zv_bipush (pc := 64) g dX0_becomeAs_64 (v := 8) (by decide) ?_
  obtain ⟨⟨hc1, hc2, hc3, hc4, hc5⟩, h⟩ := h
  refine zv_copyi (pc := 66) ((hhW β u o) ((h_kinds_s S5.1 (va_cpy (h_kinds S5.2) (h_kinds S5.1) (Int32.toNatClampNeg 0) (Int32.toNatClampNeg 0) (Int32.toNatClampNeg 8))), S5.2)) g ca_X0_40 10 3 rfl rfl hc1 hc2 hc3 hc4 hc5 rfl (by decide) (by decide) (Nat.le_of_ble_eq_true rfl) dX0_becomeAs_66 ?_
  refine zv_nmS (wf := (hhW β u o)) (fun S6 eS6 => ?_)
  replace h := h S6 eS6
  refine zv_aload_n (pc := 69) g dX0_becomeAs_69 1 rfl rfl ?_
  refine zv_get (pc := 70) g fl_X0_21 7 rfl rfl dX0_becomeAs_70 ?_
  refine zv_iconst (pc := 73) g dX0_becomeAs_73 (v := 0) (by decide) ?_
  refine zv_aload_n (pc := 74) g dX0_becomeAs_74 0 rfl rfl ?_
  refine zv_get (pc := 75) g fl_X0_21 0 rfl rfl dX0_becomeAs_75 ?_
  refine zv_iconst (pc := 78) g dX0_becomeAs_78 (v := 0) (by decide) ?_
  refine zv_bipush (pc := 79) g dX0_becomeAs_79 (v := 8) (by decide) ?_
  obtain ⟨⟨hc1, hc2, hc3, hc4, hc5⟩, h⟩ := h
  refine zv_copyi (pc := 81) ((hhW β u o) ((h_held_s S6.1 (va_cpy (h_held S6.2) (h_held S6.1) (Int32.toNatClampNeg 0) (Int32.toNatClampNeg 0) (Int32.toNatClampNeg 8))), S6.2)) g ca_X0_40 11 4 rfl rfl hc1 hc2 hc3 hc4 hc5 rfl (by decide) (by decide) (Nat.le_of_ble_eq_true rfl) dX0_becomeAs_81 ?_
  refine zv_nmS (wf := (hhW β u o)) (fun S7 eS7 => ?_)
  replace h := h S7 eS7
  refine zv_aload_n (pc := 84) g dX0_becomeAs_84 1 rfl rfl ?_
  refine zv_get (pc := 85) g fl_X0_24 7 rfl rfl dX0_becomeAs_85 ?_
  refine zv_iconst (pc := 88) g dX0_becomeAs_88 (v := 0) (by decide) ?_
  refine zv_aload_n (pc := 89) g dX0_becomeAs_89 0 rfl rfl ?_
  refine zv_get (pc := 90) g fl_X0_24 0 rfl rfl dX0_becomeAs_90 ?_
  refine zv_iconst (pc := 93) g dX0_becomeAs_93 (v := 0) (by decide) ?_
  refine zv_bipush (pc := 94) g dX0_becomeAs_94 (v := 8) (by decide) ?_
  obtain ⟨⟨hc1, hc2, hc3, hc4, hc5⟩, h⟩ := h
  refine zv_copyi (pc := 96) ((hhW β u o) ((h_grimes_s S7.1 (va_cpy (h_grimes S7.2) (h_grimes S7.1) (Int32.toNatClampNeg 0) (Int32.toNatClampNeg 0) (Int32.toNatClampNeg 8))), S7.2)) g ca_X0_40 12 5 rfl rfl hc1 hc2 hc3 hc4 hc5 rfl (by decide) (by decide) (Nat.le_of_ble_eq_true rfl) dX0_becomeAs_96 ?_
  refine zv_nmS (wf := (hhW β u o)) (fun S8 eS8 => ?_)
  replace h := h S8 eS8
  refine zv_aload_n (pc := 99) g dX0_becomeAs_99 1 rfl rfl ?_
  refine zv_get (pc := 100) g fl_X0_27 7 rfl rfl dX0_becomeAs_100 ?_
  refine zv_iconst (pc := 103) g dX0_becomeAs_103 (v := 0) (by decide) ?_
  refine zv_aload_n (pc := 104) g dX0_becomeAs_104 0 rfl rfl ?_
  refine zv_get (pc := 105) g fl_X0_27 0 rfl rfl dX0_becomeAs_105 ?_
  refine zv_iconst (pc := 108) g dX0_becomeAs_108 (v := 0) (by decide) ?_
  refine zv_bipush (pc := 109) g dX0_becomeAs_109 (v := 8) (by decide) ?_
  obtain ⟨⟨hc1, hc2, hc3, hc4, hc5⟩, h⟩ := h
  refine zv_copyi (pc := 111) ((hhW β u o) ((h_rounds_s S8.1 (va_cpy (h_rounds S8.2) (h_rounds S8.1) (Int32.toNatClampNeg 0) (Int32.toNatClampNeg 0) (Int32.toNatClampNeg 8))), S8.2)) g ca_X0_40 13 6 rfl rfl hc1 hc2 hc3 hc4 hc5 rfl (by decide) (by decide) (Nat.le_of_ble_eq_true rfl) dX0_becomeAs_111 ?_
  refine zv_nmS (wf := (hhW β u o)) (fun S9 eS9 => ?_)
  replace h := h S9 eS9
  exact zv_vret (pc := 114) g hR dX0_becomeAs_114 ⟨_, rfl, rfl, h⟩
def wX0_addDuster (post : Int32 → (HSt) → Prop) (S : HSt) (x1 : Int32) : Prop := ((h_dusters S) < (8 : Int32) → ∀ y2 : Int32, y2 = (h_dusters S) → (vp_in y2 8 ∧ (∀ S3 : HSt, S3 = (h_kinds_s S (upd (h_kinds S) (Int32.toNatClampNeg y2) x1)) → (vp_in y2 8 ∧ (∀ S4 : HSt, S4 = (h_held_s S3 (upd (h_held S3) (Int32.toNatClampNeg y2) 0)) → (vp_in y2 8 ∧ (∀ S5 : HSt, S5 = (h_grimes_s S4 (upd (h_grimes S4) (Int32.toNatClampNeg y2) 0)) → (vp_in y2 8 ∧ (∀ S6 : HSt, S6 = (h_rounds_s S5 (upd (h_rounds S5) (Int32.toNatClampNeg y2) y2)) → (∀ S7 : HSt, S7 = (h_dusters_s S6 ((h_dusters S6) + 1)) → (post y2 S7))))))))))) ∧ (¬ (h_dusters S) < (8 : Int32) → post (-1) S)
set_option maxRecDepth 100000 in
set_option maxHeartbeats 4000000 in
theorem ctX0_addDuster {β : zz_B} {u : Nat → Nat} {post : Int32 → (HSt) → Prop} {S : HSt} {x1 : Int32} (h : wX0_addDuster post S x1) : zCi β yX0_addDuster cX0_addDuster 3 (some .int) 0 0 [.ref (u 0), .int x1] (hW β u) S post := by
  unfold wX0_addDuster at h
  unfold zCi
  refine zC.of (by decide) (Nat.le_of_ble_eq_true rfl) ?_
  intro Γ g hR
  show zV β 3 Γ ((hW β u) S) 0 [(0, .ref (u 0)), (1, .int x1)] []
  refine zv_aload_n (pc := 0) g dX0_addDuster_0 0 rfl rfl ?_
  refine zv_get (pc := 1) g fl_X0_37 0 rfl rfl dX0_addDuster_1 ?_
  refine zv_bipush (pc := 4) g dX0_addDuster_4 (v := 8) (by decide) ?_
  refine zv_icmp_lt (pc := 6) 11 g dX0_addDuster_6 rfl (fun c1 => ?_) (fun c1 => ?_)
  · replace h := h.1 c1
    refine zv_aload_n (pc := 11) g dX0_addDuster_11 0 rfl rfl ?_
    refine zv_get (pc := 12) g fl_X0_37 0 rfl rfl dX0_addDuster_12 ?_
    refine zv_topi (fun y2 ey2 => ?_)
    replace h := h y2 ey2
    refine zv_istore_n (pc := 15) 2 [(2, .int y2), (0, .ref (u 0)), (1, .int x1)] g dX0_addDuster_15 rfl (by decide) rfl ?_
    refine zv_aload_n (pc := 16) g dX0_addDuster_16 1 rfl rfl ?_
    refine zv_get (pc := 17) g fl_X0_18 0 rfl rfl dX0_addDuster_17 ?_
    refine zv_iload_n (pc := 20) g dX0_addDuster_20 0 rfl rfl ?_
    refine zv_iload_n (pc := 21) g dX0_addDuster_21 2 rfl rfl ?_
    obtain ⟨hi, h⟩ := h
    refine zv_ials (pc := 22) ((hW β u) (h_kinds_s S (upd (h_kinds S) (Int32.toNatClampNeg y2) x1))) g 3 rfl hi rfl dX0_addDuster_22 ?_
    refine zv_nmS (wf := (hW β u)) (fun S3 eS3 => ?_)
    replace h := h S3 eS3
    refine zv_aload_n (pc := 23) g dX0_addDuster_23 1 rfl rfl ?_
    refine zv_get (pc := 24) g fl_X0_21 0 rfl rfl dX0_addDuster_24 ?_
    refine zv_iload_n (pc := 27) g dX0_addDuster_27 0 rfl rfl ?_
    refine zv_iconst (pc := 28) g dX0_addDuster_28 (v := 0) (by decide) ?_
    obtain ⟨hi, h⟩ := h
    refine zv_ials (pc := 29) ((hW β u) (h_held_s S3 (upd (h_held S3) (Int32.toNatClampNeg y2) 0))) g 4 rfl hi rfl dX0_addDuster_29 ?_
    refine zv_nmS (wf := (hW β u)) (fun S4 eS4 => ?_)
    replace h := h S4 eS4
    refine zv_aload_n (pc := 30) g dX0_addDuster_30 1 rfl rfl ?_
    refine zv_get (pc := 31) g fl_X0_24 0 rfl rfl dX0_addDuster_31 ?_
    refine zv_iload_n (pc := 34) g dX0_addDuster_34 0 rfl rfl ?_
    refine zv_iconst (pc := 35) g dX0_addDuster_35 (v := 0) (by decide) ?_
    obtain ⟨hi, h⟩ := h
    refine zv_ials (pc := 36) ((hW β u) (h_grimes_s S4 (upd (h_grimes S4) (Int32.toNatClampNeg y2) 0))) g 5 rfl hi rfl dX0_addDuster_36 ?_
    refine zv_nmS (wf := (hW β u)) (fun S5 eS5 => ?_)
    replace h := h S5 eS5
    refine zv_aload_n (pc := 37) g dX0_addDuster_37 1 rfl rfl ?_
    refine zv_get (pc := 38) g fl_X0_27 0 rfl rfl dX0_addDuster_38 ?_
    refine zv_iload_n (pc := 41) g dX0_addDuster_41 0 rfl rfl ?_
    refine zv_iload_n (pc := 42) g dX0_addDuster_42 0 rfl rfl ?_
    obtain ⟨hi, h⟩ := h
    refine zv_ials (pc := 43) ((hW β u) (h_rounds_s S5 (upd (h_rounds S5) (Int32.toNatClampNeg y2) y2))) g 6 rfl hi rfl dX0_addDuster_43 ?_
    refine zv_nmS (wf := (hW β u)) (fun S6 eS6 => ?_)
    replace h := h S6 eS6
    refine zv_aload_n (pc := 44) g dX0_addDuster_44 1 rfl rfl ?_
    refine zv_dup (pc := 45) g dX0_addDuster_45 rfl ?_
    refine zv_get (pc := 46) g fl_X0_37 0 rfl rfl dX0_addDuster_46 ?_
    refine zv_iconst (pc := 49) g dX0_addDuster_49 (v := 1) (by decide) ?_
    refine zv_iadd (pc := 50) g dX0_addDuster_50 ?_
    refine zv_put (pc := 51) ((hW β u) (h_dusters_s S6 ((h_dusters S6) + 1))) g fp_X0_37 0 rfl rfl rfl (Nat.le_of_ble_eq_true rfl) rfl dX0_addDuster_51 ?_
    refine zv_nmS (wf := (hW β u)) (fun S7 eS7 => ?_)
    replace h := h S7 eS7
    refine zv_iload_n (pc := 54) g dX0_addDuster_54 0 rfl rfl ?_
    exact zv_iret (pc := 55) g hR dX0_addDuster_55 ⟨_, _, rfl, rfl, h⟩
  · replace h := h.2 c1
    refine zv_iconst (pc := 9) g dX0_addDuster_9 (v := (-1)) (by decide) ?_
    exact zv_iret (pc := 10) g hR dX0_addDuster_10 ⟨_, _, rfl, rfl, h⟩
def wX0_whereIs (post : Int32 → Prop) (S : HSt) (x1 : Int32) : Prop := vp_in x1 8 ∧ (post (((h_day S) + (h_rounds S (Int32.toNatClampNeg x1))) &&& 7))
set_option maxRecDepth 100000 in
set_option maxHeartbeats 4000000 in
theorem ctX0_whereIs {β : zz_B} {u : Nat → Nat} {post : Int32 → Prop} {S : HSt} {x1 : Int32} (h : wX0_whereIs post S x1) : zCp β yX0_whereIs cX0_whereIs 2 (some .int) 0 0 [.ref (u 0), .int x1] ((hW β u) S) post := by
  unfold wX0_whereIs at h
  unfold zCp
  refine zC.of (by decide) (Nat.le_of_ble_eq_true rfl) ?_
  intro Γ g hR
  show zV β 2 Γ ((hW β u) S) 0 [(0, .ref (u 0)), (1, .int x1)] []
  refine zv_aload_n (pc := 0) g dX0_whereIs_0 0 rfl rfl ?_
  refine zv_get (pc := 1) g fl_X0_30 0 rfl rfl dX0_whereIs_1 ?_
  refine zv_aload_n (pc := 4) g dX0_whereIs_4 0 rfl rfl ?_
  refine zv_get (pc := 5) g fl_X0_27 0 rfl rfl dX0_whereIs_5 ?_
  refine zv_iload_n (pc := 8) g dX0_whereIs_8 1 rfl rfl ?_
  obtain ⟨hi, h⟩ := h
  refine zv_iald (pc := 9) g 6 rfl hi dX0_whereIs_9 ?_
  refine zv_iadd (pc := 10) g dX0_whereIs_10 ?_
  refine zv_bipush (pc := 11) g dX0_whereIs_11 (v := 7) (by decide) ?_
  refine zv_iand (pc := 13) g dX0_whereIs_13 ?_
  exact zv_iret (pc := 14) g hR dX0_whereIs_14 ⟨_, rfl, rfl, h⟩
def wX0_whoIsIn_4 (post : Int32 → Prop) (S : HSt) : Nat → (Int32) → (Int32) → (Int32) → Prop
  | 0, _, _, _ => False
  | f0 + 1, x1, x2, x3 => ((h_dusters S) ≤ x3 → post x2) ∧ (¬ (h_dusters S) ≤ x3 → wX0_whereIs (fun v2 => (¬ v2 = x1 → wX0_whoIsIn_4 post S f0 x1 x2 (x3 + 1)) ∧ (v2 = x1 → ∀ y4 : Int32, y4 = (x2 ||| (1 <<< (x3 &&& 31))) → (wX0_whoIsIn_4 post S f0 x1 y4 (x3 + 1)))) S x3)
set_option maxRecDepth 100000 in
set_option maxHeartbeats 4000000 in
theorem lX0_whoIsIn_4 {β : zz_B} {Γ : zz_X} {u : Nat → Nat} {post : Int32 → Prop} {S : HSt} (g : zG β 4 Γ cX0_whoIsIn RX0 1 21) (hR : zR β Γ (some .int) (fun r w => ∃ v : Int32, r = some (.int v) ∧ w = ((hW β u) S) ∧ post v)) : ∀ (f0 : Nat) (x1 : Int32) (x2 : Int32) (x3 : Int32) , wX0_whoIsIn_4 post S f0 x1 x2 x3 → zV β 4 Γ ((hW β u) S) 4 [(0, .ref (u 0)), (1, .int x1), (2, .int x2), (3, .int x3)] [] := by
  intro f0
  induction f0 with
  | zero => intro x1 x2 x3 h; exact h.elim
  | succ f0 ih0 =>
    intro x1 x2 x3 h
    rw [wX0_whoIsIn_4] at h
    refine zv_iload_n (pc := 4) g dX0_whoIsIn_4 3 rfl rfl ?_
    refine zv_aload_n (pc := 5) g dX0_whoIsIn_5 0 rfl rfl ?_
    refine zv_get (pc := 6) g fl_X0_37 0 rfl rfl dX0_whoIsIn_6 ?_
    refine zv_icmp_ge (pc := 9) 33 g dX0_whoIsIn_9 rfl (fun c1 => ?_) (fun c1 => ?_)
    · replace h := h.1 c1
      refine zv_iload_n (pc := 33) g dX0_whoIsIn_33 2 rfl rfl ?_
      exact zv_iret (pc := 34) g hR dX0_whoIsIn_34 ⟨_, rfl, rfl, h⟩
    · replace h := h.2 c1
      refine zv_aload_n (pc := 12) g dX0_whoIsIn_12 0 rfl rfl ?_
      refine zv_iload_n (pc := 13) g dX0_whoIsIn_13 3 rfl rfl ?_
      refine zv_cVp (pc := 14) g cw_X0_46 (ctX0_whereIs h) (by decide) (by decide) zz_p0 (q := 0) rfl rfl rfl rfl rfl (Nat.le_of_ble_eq_true rfl) dX0_whoIsIn_14 (fun v2 h => ?_)
      refine zv_iload_n (pc := 17) g dX0_whoIsIn_17 1 rfl rfl ?_
      refine zv_icmp_ne (pc := 18) 27 g dX0_whoIsIn_18 rfl (fun c3 => ?_) (fun c3 => ?_)
      · replace h := h.1 c3
        refine zv_iinc (pc := 27) 1 [(3, .int (x3 + 1)), (0, .ref (u 0)), (1, .int x1), (2, .int x2)] g dX0_whoIsIn_27 3 rfl (by decide) (by decide) rfl ?_
        refine zv_goto (pc := 30) 4 g dX0_whoIsIn_30 rfl ?_
        refine zv_sub [1, 2, 3, 0] rfl ?_
        exact ih0 _ _ _ h
      · replace h := h.2 c3
        refine zv_iload_n (pc := 21) g dX0_whoIsIn_21 2 rfl rfl ?_
        refine zv_iconst (pc := 22) g dX0_whoIsIn_22 (v := 1) (by decide) ?_
        refine zv_iload_n (pc := 23) g dX0_whoIsIn_23 3 rfl rfl ?_
        refine zv_ishl (pc := 24) g dX0_whoIsIn_24 ?_
        refine zv_ior (pc := 25) g dX0_whoIsIn_25 ?_
        refine zv_topi (fun y4 ey4 => ?_)
        replace h := h y4 ey4
        refine zv_istore_n (pc := 26) 2 [(2, .int y4), (0, .ref (u 0)), (1, .int x1), (3, .int x3)] g dX0_whoIsIn_26 rfl (by decide) rfl ?_
        refine zv_iinc (pc := 27) 1 [(3, .int (x3 + 1)), (2, .int y4), (0, .ref (u 0)), (1, .int x1)] g dX0_whoIsIn_27 3 rfl (by decide) (by decide) rfl ?_
        refine zv_goto (pc := 30) 4 g dX0_whoIsIn_30 rfl ?_
        refine zv_sub [2, 3, 1, 0] rfl ?_
        exact ih0 _ _ _ h
def wX0_whoIsIn (post : Int32 → Prop) (S : HSt) (x1 : Int32) : Prop := ∃ f5 : Nat, wX0_whoIsIn_4 post S f5 x1 0 0
set_option maxRecDepth 100000 in
set_option maxHeartbeats 4000000 in
theorem ctX0_whoIsIn {β : zz_B} {u : Nat → Nat} {post : Int32 → Prop} {S : HSt} {x1 : Int32} (h : wX0_whoIsIn post S x1) : zCp β yX0_whoIsIn cX0_whoIsIn 4 (some .int) 1 21 [.ref (u 0), .int x1] ((hW β u) S) post := by
  unfold wX0_whoIsIn at h
  unfold zCp
  refine zC.of (by decide) (Nat.le_of_ble_eq_true rfl) ?_
  intro Γ g hR
  show zV β 4 Γ ((hW β u) S) 0 [(0, .ref (u 0)), (1, .int x1)] []
  refine zv_iconst (pc := 0) g dX0_whoIsIn_0 (v := 0) (by decide) ?_
  refine zv_istore_n (pc := 1) 2 [(2, .int 0), (0, .ref (u 0)), (1, .int x1)] g dX0_whoIsIn_1 rfl (by decide) rfl ?_
  refine zv_iconst (pc := 2) g dX0_whoIsIn_2 (v := 0) (by decide) ?_
  refine zv_istore_n (pc := 3) 3 [(3, .int 0), (2, .int 0), (0, .ref (u 0)), (1, .int x1)] g dX0_whoIsIn_3 rfl (by decide) rfl ?_
  obtain ⟨f5, h⟩ := h
  refine zv_sub [2, 3, 1, 0] rfl ?_
  exact lX0_whoIsIn_4 g hR f5 _ _ _ h
def wX0_leastOf_4 (post : Int32 → Prop) : Nat → (Int32) → (Int32) → (Int32) → (Int32) → Prop
  | 0, _, _, _, _ => False
  | f0 + 1, x0, x1, x2, x3 => (x1 ≤ x3 → post (x0 &&& (x2 ^^^ (-1)))) ∧ (¬ x1 ≤ x3 → (x2 = 0 → post (x0 &&& (x2 ^^^ (-1)))) ∧ (¬ x2 = 0 → ∀ y3 : Int32, y3 = (x2 &&& (x2 - 1)) → (wX0_leastOf_4 post f0 x0 x1 y3 (x3 + 1))))
set_option maxRecDepth 100000 in
set_option maxHeartbeats 4000000 in
theorem lX0_leastOf_4 {β : zz_B} {Γ : zz_X} {post : Int32 → Prop} (g : zG β 4 Γ cX0_leastOf RX0 0 0) (hR : zR β Γ (some .int) (fun r w => ∃ v : Int32, r = some (.int v) ∧ w = [] ∧ post v)) : ∀ (f0 : Nat) (x0 : Int32) (x1 : Int32) (x2 : Int32) (x3 : Int32) , wX0_leastOf_4 post f0 x0 x1 x2 x3 → zV β 4 Γ [] 4 [(0, .int x0), (1, .int x1), (2, .int x2), (3, .int x3)] [] := by
  intro f0
  induction f0 with
  | zero => intro x0 x1 x2 x3 h; exact h.elim
  | succ f0 ih0 =>
    intro x0 x1 x2 x3 h
    rw [wX0_leastOf_4] at h
    refine zv_iload_n (pc := 4) g dX0_leastOf_4 3 rfl rfl ?_
    refine zv_iload_n (pc := 5) g dX0_leastOf_5 1 rfl rfl ?_
    refine zv_icmp_ge (pc := 6) 25 g dX0_leastOf_6 rfl (fun c1 => ?_) (fun c1 => ?_)
    · replace h := h.1 c1
      refine zv_iload_n (pc := 25) g dX0_leastOf_25 0 rfl rfl ?_
      refine zv_iload_n (pc := 26) g dX0_leastOf_26 2 rfl rfl ?_
      refine zv_iconst (pc := 27) g dX0_leastOf_27 (v := (-1)) (by decide) ?_
      refine zv_ixor (pc := 28) g dX0_leastOf_28 ?_
      refine zv_iand (pc := 29) g dX0_leastOf_29 ?_
      exact zv_iret (pc := 30) g hR dX0_leastOf_30 ⟨_, rfl, rfl, h⟩
    · replace h := h.2 c1
      refine zv_iload_n (pc := 9) g dX0_leastOf_9 2 rfl rfl ?_
      refine zv_if_eq (pc := 10) 25 g dX0_leastOf_10 rfl (fun c2 => ?_) (fun c2 => ?_)
      · replace h := h.1 c2
        refine zv_iload_n (pc := 25) g dX0_leastOf_25 0 rfl rfl ?_
        refine zv_iload_n (pc := 26) g dX0_leastOf_26 2 rfl rfl ?_
        refine zv_iconst (pc := 27) g dX0_leastOf_27 (v := (-1)) (by decide) ?_
        refine zv_ixor (pc := 28) g dX0_leastOf_28 ?_
        refine zv_iand (pc := 29) g dX0_leastOf_29 ?_
        exact zv_iret (pc := 30) g hR dX0_leastOf_30 ⟨_, rfl, rfl, h⟩
      · replace h := h.2 c2
        refine zv_iload_n (pc := 13) g dX0_leastOf_13 2 rfl rfl ?_
        refine zv_iload_n (pc := 14) g dX0_leastOf_14 2 rfl rfl ?_
        refine zv_iconst (pc := 15) g dX0_leastOf_15 (v := 1) (by decide) ?_
        refine zv_isub (pc := 16) g dX0_leastOf_16 ?_
        refine zv_iand (pc := 17) g dX0_leastOf_17 ?_
        refine zv_topi (fun y3 ey3 => ?_)
        replace h := h y3 ey3
        refine zv_istore_n (pc := 18) 2 [(2, .int y3), (0, .int x0), (1, .int x1), (3, .int x3)] g dX0_leastOf_18 rfl (by decide) rfl ?_
        refine zv_iinc (pc := 19) 1 [(3, .int (x3 + 1)), (2, .int y3), (0, .int x0), (1, .int x1)] g dX0_leastOf_19 3 rfl (by decide) (by decide) rfl ?_
        refine zv_goto (pc := 22) 4 g dX0_leastOf_22 rfl ?_
        refine zv_sub [2, 3, 1, 0] rfl ?_
        exact ih0 _ _ _ _ h
def wX0_leastOf (post : Int32 → Prop) (x0 : Int32) (x1 : Int32) : Prop := ∃ f4 : Nat, wX0_leastOf_4 post f4 x0 x1 x0 0
set_option maxRecDepth 100000 in
set_option maxHeartbeats 4000000 in
theorem ctX0_leastOf {β : zz_B} {post : Int32 → Prop} {x0 : Int32} {x1 : Int32} (h : wX0_leastOf post x0 x1) : zCp β yX0_leastOf cX0_leastOf 4 (some .int) 0 0 [.int x0, .int x1] [] post := by
  unfold wX0_leastOf at h
  unfold zCp
  refine zC.of (by decide) (Nat.le_of_ble_eq_true rfl) ?_
  intro Γ g hR
  show zV β 4 Γ [] 0 [(0, .int x0), (1, .int x1)] []
  refine zv_iload_n (pc := 0) g dX0_leastOf_0 0 rfl rfl ?_
  refine zv_istore_n (pc := 1) 2 [(2, .int x0), (0, .int x0), (1, .int x1)] g dX0_leastOf_1 rfl (by decide) rfl ?_
  refine zv_iconst (pc := 2) g dX0_leastOf_2 (v := 0) (by decide) ?_
  refine zv_istore_n (pc := 3) 3 [(3, .int 0), (2, .int x0), (0, .int x0), (1, .int x1)] g dX0_leastOf_3 rfl (by decide) rfl ?_
  obtain ⟨f4, h⟩ := h
  refine zv_sub [2, 3, 1, 0] rfl ?_
  exact lX0_leastOf_4 g hR f4 _ _ _ _ h
def wX0_goThrough_99 (post : Int32 → (HSt) → Prop) (S : HSt) (x1 : Int32) (x2 : Int32) (x4 : Int32) (x5 : Int32) (x6 : Int32) (x7 : Int32) (x8 : Int32) (x9 : Int32) (s0 : Int32) : Prop := vp_in x1 8 ∧ (∀ S13 : HSt, S13 = (h_held_s S (upd (h_held S) (Int32.toNatClampNeg x1) ((x5 ||| x7) &&& (s0 ^^^ (-1))))) → (vp_in x2 8 ∧ (∀ S14 : HSt, S14 = (h_memories_s S13 (upd (h_memories S13) (Int32.toNatClampNeg x2) ((x6 &&& (x7 ^^^ (-1))) ||| x8))) → (vp_in x2 8 ∧ (vp_in x2 8 ∧ (∀ S15 : HSt, S15 = (h_dust_s S14 (upd (h_dust S14) (Int32.toNatClampNeg x2) ((h_dust S14 (Int32.toNatClampNeg x2)) - x9))) → (vp_in x1 8 ∧ (∀ S16 : HSt, S16 = (h_grimes_s S15 (upd (h_grimes S15) (Int32.toNatClampNeg x1) (if (x4 + (x9 / 2)) < 99 then (x4 + (x9 / 2)) else 99))) → (post x9 S16)))))))))
set_option maxRecDepth 100000 in
set_option maxHeartbeats 4000000 in
theorem lX0_goThrough_99 {β : zz_B} {Γ : zz_X} {u : Nat → Nat} {post : Int32 → (HSt) → Prop} (g : zG β 11 Γ cX0_goThrough RX0 2 43) (hR : zR β Γ (some .int) (fun r w => ∃ (v : Int32) (T : HSt), r = some (.int v) ∧ w = (hW β u) T ∧ post v T)) (S : HSt) (x1 : Int32) (x2 : Int32) (x4 : Int32) (x5 : Int32) (x6 : Int32) (x7 : Int32) (x8 : Int32) (x9 : Int32) (s0 : Int32) (h : wX0_goThrough_99 post S x1 x2 x4 x5 x6 x7 x8 x9 s0) : zV β 11 Γ ((hW β u) S) 99 [(0, .ref (u 0)), (1, .int x1), (2, .int x2), (4, .int x4), (5, .int x5), (6, .int x6), (7, .int x7), (8, .int x8), (9, .int x9)] [.int s0] := by
  unfold wX0_goThrough_99 at h
  refine zv_istore (pc := 99) [(10, .int s0), (0, .ref (u 0)), (1, .int x1), (2, .int x2), (4, .int x4), (5, .int x5), (6, .int x6), (7, .int x7), (8, .int x8), (9, .int x9)] g dX0_goThrough_99 (by decide) rfl ?_
  refine zv_aload_n (pc := 101) g dX0_goThrough_101 1 rfl rfl ?_
  refine zv_get (pc := 102) g fl_X0_21 0 rfl rfl dX0_goThrough_102 ?_
  refine zv_iload_n (pc := 105) g dX0_goThrough_105 2 rfl rfl ?_
  refine zv_iload (pc := 106) g dX0_goThrough_106 5 rfl ?_
  refine zv_iload (pc := 108) g dX0_goThrough_108 7 rfl ?_
  refine zv_ior (pc := 110) g dX0_goThrough_110 ?_
  refine zv_iload (pc := 111) g dX0_goThrough_111 0 rfl ?_
  refine zv_iconst (pc := 113) g dX0_goThrough_113 (v := (-1)) (by decide) ?_
  refine zv_ixor (pc := 114) g dX0_goThrough_114 ?_
  refine zv_iand (pc := 115) g dX0_goThrough_115 ?_
  obtain ⟨hi, h⟩ := h
  refine zv_ials (pc := 116) ((hW β u) (h_held_s S (upd (h_held S) (Int32.toNatClampNeg x1) ((x5 ||| x7) &&& (s0 ^^^ (-1)))))) g 4 rfl hi rfl dX0_goThrough_116 ?_
  refine zv_nmS (wf := (hW β u)) (fun S13 eS13 => ?_)
  replace h := h S13 eS13
  refine zv_aload_n (pc := 117) g dX0_goThrough_117 1 rfl rfl ?_
  refine zv_get (pc := 118) g fl_X0_15 0 rfl rfl dX0_goThrough_118 ?_
  refine zv_iload_n (pc := 121) g dX0_goThrough_121 3 rfl rfl ?_
  refine zv_iload (pc := 122) g dX0_goThrough_122 6 rfl ?_
  refine zv_iload (pc := 124) g dX0_goThrough_124 7 rfl ?_
  refine zv_iconst (pc := 126) g dX0_goThrough_126 (v := (-1)) (by decide) ?_
  refine zv_ixor (pc := 127) g dX0_goThrough_127 ?_
  refine zv_iand (pc := 128) g dX0_goThrough_128 ?_
  refine zv_iload (pc := 129) g dX0_goThrough_129 8 rfl ?_
  refine zv_ior (pc := 131) g dX0_goThrough_131 ?_
  obtain ⟨hi, h⟩ := h
  refine zv_ials (pc := 132) ((hW β u) (h_memories_s S13 (upd (h_memories S13) (Int32.toNatClampNeg x2) ((x6 &&& (x7 ^^^ (-1))) ||| x8)))) g 2 rfl hi rfl dX0_goThrough_132 ?_
  refine zv_nmS (wf := (hW β u)) (fun S14 eS14 => ?_)
  replace h := h S14 eS14
  refine zv_aload_n (pc := 133) g dX0_goThrough_133 1 rfl rfl ?_
  refine zv_get (pc := 134) g fl_X0_9 0 rfl rfl dX0_goThrough_134 ?_
  refine zv_iload_n (pc := 137) g dX0_goThrough_137 3 rfl rfl ?_
  refine zv_dup2 (pc := 138) g dX0_goThrough_138 rfl rfl ?_
  obtain ⟨hi, h⟩ := h
  refine zv_iald (pc := 139) g 1 rfl hi dX0_goThrough_139 ?_
  refine zv_iload (pc := 140) g dX0_goThrough_140 9 rfl ?_
  refine zv_isub (pc := 142) g dX0_goThrough_142 ?_
  obtain ⟨hi, h⟩ := h
  refine zv_ials (pc := 143) ((hW β u) (h_dust_s S14 (upd (h_dust S14) (Int32.toNatClampNeg x2) ((h_dust S14 (Int32.toNatClampNeg x2)) - x9)))) g 1 rfl hi rfl dX0_goThrough_143 ?_
  refine zv_nmS (wf := (hW β u)) (fun S15 eS15 => ?_)
  replace h := h S15 eS15
  refine zv_aload_n (pc := 144) g dX0_goThrough_144 1 rfl rfl ?_
  refine zv_get (pc := 145) g fl_X0_24 0 rfl rfl dX0_goThrough_145 ?_
  refine zv_iload_n (pc := 148) g dX0_goThrough_148 2 rfl rfl ?_
  refine zv_bipush (pc := 149) g dX0_goThrough_149 (v := 99) (by decide) ?_
  refine zv_iload (pc := 151) g dX0_goThrough_151 4 rfl ?_
  refine zv_iload (pc := 153) g dX0_goThrough_153 9 rfl ?_
  refine zv_iconst (pc := 155) g dX0_goThrough_155 (v := 2) (by decide) ?_
  refine zv_idiv (pc := 156) g dX0_goThrough_156 (by decide) ?_
  refine zv_iadd (pc := 157) g dX0_goThrough_157 ?_
  refine zv_min (pc := 158) g cm_X0_57 (by decide) (by decide) (Nat.le_of_ble_eq_true rfl) dX0_goThrough_158 ?_
  obtain ⟨hi, h⟩ := h
  refine zv_ials (pc := 161) ((hW β u) (h_grimes_s S15 (upd (h_grimes S15) (Int32.toNatClampNeg x1) (if (x4 + (x9 / 2)) < 99 then (x4 + (x9 / 2)) else 99)))) g 5 rfl hi rfl dX0_goThrough_161 ?_
  refine zv_nmS (wf := (hW β u)) (fun S16 eS16 => ?_)
  replace h := h S16 eS16
  refine zv_iload (pc := 162) g dX0_goThrough_162 9 rfl ?_
  exact zv_iret (pc := 164) g hR dX0_goThrough_164 ⟨_, _, rfl, rfl, h⟩
def wX0_goThrough (post : Int32 → (HSt) → Prop) (S : HSt) (x1 : Int32) (x2 : Int32) : Prop := vp_in x1 8 ∧ (∀ y1 : Int32, y1 = (h_kinds S (Int32.toNatClampNeg x1)) → (vp_in x1 8 ∧ (∀ y2 : Int32, y2 = (h_grimes S (Int32.toNatClampNeg x1)) → (vp_in x1 8 ∧ (∀ y3 : Int32, y3 = (h_held S (Int32.toNatClampNeg x1)) → (vp_in x2 8 ∧ (∀ y4 : Int32, y4 = (h_memories S (Int32.toNatClampNeg x2)) → (wX1_takesUp (fun v5 => wX0_leastOf (fun v6 => wX1_leaves (fun v7 => wX0_leastOf (fun v8 => vp_in x2 8 ∧ (wX1_wipes (fun v9 => ∀ y10 : Int32, y10 = (if v9 < (h_dust S (Int32.toNatClampNeg x2)) then v9 else (h_dust S (Int32.toNatClampNeg x2))) → (wX1_keeps (fun v11 => (v11 = 0 → wX0_goThrough_99 post S x1 x2 y2 y3 y4 v6 v8 y10 v8) ∧ (¬ v11 = 0 → wX0_goThrough_99 post S x1 x2 y2 y3 y4 v6 v8 y10 0)) y1 y3)) y1 y2)) (y3 &&& (y4 ^^^ (-1))) v7) y1 y2) (y4 &&& (y3 ^^^ (-1))) v5) y1 y2))))))))
set_option maxRecDepth 100000 in
set_option maxHeartbeats 4000000 in
theorem ctX0_goThrough {β : zz_B} {u : Nat → Nat} {post : Int32 → (HSt) → Prop} {S : HSt} {x1 : Int32} {x2 : Int32} (h : wX0_goThrough post S x1 x2) : zCi β yX0_goThrough cX0_goThrough 11 (some .int) 2 43 [.ref (u 0), .int x1, .int x2] (hW β u) S post := by
  unfold wX0_goThrough at h
  unfold zCi
  refine zC.of (by decide) (Nat.le_of_ble_eq_true rfl) ?_
  intro Γ g hR
  show zV β 11 Γ ((hW β u) S) 0 [(0, .ref (u 0)), (1, .int x1), (2, .int x2)] []
  refine zv_aload_n (pc := 0) g dX0_goThrough_0 0 rfl rfl ?_
  refine zv_get (pc := 1) g fl_X0_18 0 rfl rfl dX0_goThrough_1 ?_
  refine zv_iload_n (pc := 4) g dX0_goThrough_4 1 rfl rfl ?_
  obtain ⟨hi, h⟩ := h
  refine zv_iald (pc := 5) g 3 rfl hi dX0_goThrough_5 ?_
  refine zv_topi (fun y1 ey1 => ?_)
  replace h := h y1 ey1
  refine zv_istore_n (pc := 6) 3 [(3, .int y1), (0, .ref (u 0)), (1, .int x1), (2, .int x2)] g dX0_goThrough_6 rfl (by decide) rfl ?_
  refine zv_aload_n (pc := 7) g dX0_goThrough_7 1 rfl rfl ?_
  refine zv_get (pc := 8) g fl_X0_24 0 rfl rfl dX0_goThrough_8 ?_
  refine zv_iload_n (pc := 11) g dX0_goThrough_11 2 rfl rfl ?_
  obtain ⟨hi, h⟩ := h
  refine zv_iald (pc := 12) g 5 rfl hi dX0_goThrough_12 ?_
  refine zv_topi (fun y2 ey2 => ?_)
  replace h := h y2 ey2
  refine zv_istore (pc := 13) [(4, .int y2), (3, .int y1), (0, .ref (u 0)), (1, .int x1), (2, .int x2)] g dX0_goThrough_13 (by decide) rfl ?_
  refine zv_aload_n (pc := 15) g dX0_goThrough_15 2 rfl rfl ?_
  refine zv_get (pc := 16) g fl_X0_21 0 rfl rfl dX0_goThrough_16 ?_
  refine zv_iload_n (pc := 19) g dX0_goThrough_19 3 rfl rfl ?_
  obtain ⟨hi, h⟩ := h
  refine zv_iald (pc := 20) g 4 rfl hi dX0_goThrough_20 ?_
  refine zv_topi (fun y3 ey3 => ?_)
  replace h := h y3 ey3
  refine zv_istore (pc := 21) [(5, .int y3), (4, .int y2), (3, .int y1), (0, .ref (u 0)), (1, .int x1), (2, .int x2)] g dX0_goThrough_21 (by decide) rfl ?_
  refine zv_aload_n (pc := 23) g dX0_goThrough_23 3 rfl rfl ?_
  refine zv_get (pc := 24) g fl_X0_15 0 rfl rfl dX0_goThrough_24 ?_
  refine zv_iload_n (pc := 27) g dX0_goThrough_27 5 rfl rfl ?_
  obtain ⟨hi, h⟩ := h
  refine zv_iald (pc := 28) g 2 rfl hi dX0_goThrough_28 ?_
  refine zv_topi (fun y4 ey4 => ?_)
  replace h := h y4 ey4
  refine zv_istore (pc := 29) [(6, .int y4), (5, .int y3), (4, .int y2), (3, .int y1), (0, .ref (u 0)), (1, .int x1), (2, .int x2)] g dX0_goThrough_29 (by decide) rfl ?_
  refine zv_iload (pc := 31) g dX0_goThrough_31 0 rfl ?_
  refine zv_iload (pc := 33) g dX0_goThrough_33 1 rfl ?_
  refine zv_iconst (pc := 35) g dX0_goThrough_35 (v := (-1)) (by decide) ?_
  refine zv_ixor (pc := 36) g dX0_goThrough_36 ?_
  refine zv_iand (pc := 37) g dX0_goThrough_37 ?_
  refine zv_iload_n (pc := 38) g dX0_goThrough_38 3 rfl rfl ?_
  refine zv_iload (pc := 39) g dX0_goThrough_39 2 rfl ?_
  refine zv_cSp (pc := 41) g cw_X0_62 (ctX1_takesUp h) (by decide) (by decide) zz_pN rfl rfl (Nat.le_of_ble_eq_true rfl) dX0_goThrough_41 (fun v5 h => ?_)
  refine zv_cSp (pc := 44) g cw_X0_67 (ctX0_leastOf h) (by decide) (by decide) zz_pN rfl rfl (Nat.le_of_ble_eq_true rfl) dX0_goThrough_44 (fun v6 h => ?_)
  refine zv_istore (pc := 47) [(7, .int v6), (6, .int y4), (5, .int y3), (4, .int y2), (3, .int y1), (0, .ref (u 0)), (1, .int x1), (2, .int x2)] g dX0_goThrough_47 (by decide) rfl ?_
  refine zv_iload (pc := 49) g dX0_goThrough_49 2 rfl ?_
  refine zv_iload (pc := 51) g dX0_goThrough_51 1 rfl ?_
  refine zv_iconst (pc := 53) g dX0_goThrough_53 (v := (-1)) (by decide) ?_
  refine zv_ixor (pc := 54) g dX0_goThrough_54 ?_
  refine zv_iand (pc := 55) g dX0_goThrough_55 ?_
  refine zv_iload_n (pc := 56) g dX0_goThrough_56 4 rfl rfl ?_
  refine zv_iload (pc := 57) g dX0_goThrough_57 3 rfl ?_
  refine zv_cSp (pc := 59) g cw_X0_70 (ctX1_leaves h) (by decide) (by decide) zz_pN rfl rfl (Nat.le_of_ble_eq_true rfl) dX0_goThrough_59 (fun v7 h => ?_)
  refine zv_cSp (pc := 62) g cw_X0_67 (ctX0_leastOf h) (by decide) (by decide) zz_pN rfl rfl (Nat.le_of_ble_eq_true rfl) dX0_goThrough_62 (fun v8 h => ?_)
  refine zv_istore (pc := 65) [(8, .int v8), (7, .int v6), (6, .int y4), (5, .int y3), (4, .int y2), (3, .int y1), (0, .ref (u 0)), (1, .int x1), (2, .int x2)] g dX0_goThrough_65 (by decide) rfl ?_
  refine zv_aload_n (pc := 67) g dX0_goThrough_67 6 rfl rfl ?_
  refine zv_get (pc := 68) g fl_X0_9 0 rfl rfl dX0_goThrough_68 ?_
  refine zv_iload_n (pc := 71) g dX0_goThrough_71 8 rfl rfl ?_
  obtain ⟨hi, h⟩ := h
  refine zv_iald (pc := 72) g 1 rfl hi dX0_goThrough_72 ?_
  refine zv_iload_n (pc := 73) g dX0_goThrough_73 5 rfl rfl ?_
  refine zv_iload (pc := 74) g dX0_goThrough_74 4 rfl ?_
  refine zv_cSp (pc := 76) g cw_X0_73 (ctX1_wipes h) (by decide) (by decide) zz_pN rfl rfl (Nat.le_of_ble_eq_true rfl) dX0_goThrough_76 (fun v9 h => ?_)
  refine zv_min (pc := 79) g cm_X0_57 (by decide) (by decide) (Nat.le_of_ble_eq_true rfl) dX0_goThrough_79 ?_
  refine zv_topi (fun y10 ey10 => ?_)
  replace h := h y10 ey10
  refine zv_istore (pc := 82) [(9, .int y10), (8, .int v8), (7, .int v6), (6, .int y4), (5, .int y3), (4, .int y2), (3, .int y1), (0, .ref (u 0)), (1, .int x1), (2, .int x2)] g dX0_goThrough_82 (by decide) rfl ?_
  refine zv_iload_n (pc := 84) g dX0_goThrough_84 6 rfl rfl ?_
  refine zv_iload (pc := 85) g dX0_goThrough_85 4 rfl ?_
  refine zv_cSp (pc := 87) g cw_X0_76 (ctX1_keeps h) (by decide) (by decide) zz_pN rfl rfl (Nat.le_of_ble_eq_true rfl) dX0_goThrough_87 (fun v11 h => ?_)
  refine zv_if_eq (pc := 90) 97 g dX0_goThrough_90 rfl (fun c12 => ?_) (fun c12 => ?_)
  · replace h := h.1 c12
    refine zv_iload (pc := 97) g dX0_goThrough_97 1 rfl ?_
    refine zv_sub [7, 8, 9, 5, 4, 3, 2, 1, 0] rfl ?_
    exact lX0_goThrough_99 g hR _ _ _ _ _ _ _ _ _ _ h
  · replace h := h.2 c12
    refine zv_iconst (pc := 93) g dX0_goThrough_93 (v := 0) (by decide) ?_
    refine zv_goto (pc := 94) 99 g dX0_goThrough_94 rfl ?_
    refine zv_sub [7, 8, 9, 5, 4, 3, 2, 1, 0] rfl ?_
    exact lX0_goThrough_99 g hR _ _ _ _ _ _ _ _ _ _ h
def wX0_goDay_29 (post : (HSt) → Prop) : Nat → (HSt) → (Int32) → Prop
  | 0, _, _ => False
  | f0 + 1, S, x1 => ((8 : Int32) ≤ x1 → ∀ S3 : HSt, S3 = (h_day_s S ((h_day S) + 1)) → (post S3)) ∧ (¬ (8 : Int32) ≤ x1 → vp_in x1 8 ∧ (vp_in x1 8 ∧ (∀ S4 : HSt, S4 = (h_dust_s S (upd (h_dust S) (Int32.toNatClampNeg x1) (if ((h_dust S (Int32.toNatClampNeg x1)) + (h_fall S)) < 99 then ((h_dust S (Int32.toNatClampNeg x1)) + (h_fall S)) else 99))) → (wX0_goDay_29 post f0 S4 (x1 + 1)))))
set_option maxRecDepth 100000 in
set_option maxHeartbeats 4000000 in
theorem lX0_goDay_29 {β : zz_B} {Γ : zz_X} {u : Nat → Nat} {post : (HSt) → Prop} (g : zG β 2 Γ cX0_goDay RX0 3 73) (hR : zR β Γ none (fun r w => ∃ T : HSt, r = none ∧ w = (hW β u) T ∧ post T)) : ∀ (f0 : Nat) (S : HSt) (x1 : Int32) , wX0_goDay_29 post f0 S x1 → zV β 2 Γ ((hW β u) S) 29 [(0, .ref (u 0)), (1, .int x1)] [] := by
  intro f0
  induction f0 with
  | zero => intro S x1 h; exact h.elim
  | succ f0 ih0 =>
    intro S x1 h
    rw [wX0_goDay_29] at h
    refine zv_iload_n (pc := 29) g dX0_goDay_29 1 rfl rfl ?_
    refine zv_bipush (pc := 30) g dX0_goDay_30 (v := 8) (by decide) ?_
    refine zv_icmp_ge (pc := 32) 63 g dX0_goDay_32 rfl (fun c2 => ?_) (fun c2 => ?_)
    · replace h := h.1 c2
      refine zv_aload_n (pc := 63) g dX0_goDay_63 0 rfl rfl ?_
      refine zv_dup (pc := 64) g dX0_goDay_64 rfl ?_
      refine zv_get (pc := 65) g fl_X0_30 0 rfl rfl dX0_goDay_65 ?_
      refine zv_iconst (pc := 68) g dX0_goDay_68 (v := 1) (by decide) ?_
      refine zv_iadd (pc := 69) g dX0_goDay_69 ?_
      refine zv_put (pc := 70) ((hW β u) (h_day_s S ((h_day S) + 1))) g fp_X0_30 0 rfl rfl rfl (Nat.le_of_ble_eq_true rfl) rfl dX0_goDay_70 ?_
      refine zv_nmS (wf := (hW β u)) (fun S3 eS3 => ?_)
      replace h := h S3 eS3
      exact zv_vret (pc := 73) g hR dX0_goDay_73 ⟨_, rfl, rfl, h⟩
    · replace h := h.2 c2
      refine zv_aload_n (pc := 35) g dX0_goDay_35 0 rfl rfl ?_
      refine zv_get (pc := 36) g fl_X0_9 0 rfl rfl dX0_goDay_36 ?_
      refine zv_iload_n (pc := 39) g dX0_goDay_39 1 rfl rfl ?_
      refine zv_bipush (pc := 40) g dX0_goDay_40 (v := 99) (by decide) ?_
      refine zv_aload_n (pc := 42) g dX0_goDay_42 0 rfl rfl ?_
      refine zv_get (pc := 43) g fl_X0_9 0 rfl rfl dX0_goDay_43 ?_
      refine zv_iload_n (pc := 46) g dX0_goDay_46 1 rfl rfl ?_
      obtain ⟨hi, h⟩ := h
      refine zv_iald (pc := 47) g 1 rfl hi dX0_goDay_47 ?_
      refine zv_aload_n (pc := 48) g dX0_goDay_48 0 rfl rfl ?_
      refine zv_get (pc := 49) g fl_X0_34 0 rfl rfl dX0_goDay_49 ?_
      refine zv_iadd (pc := 52) g dX0_goDay_52 ?_
      refine zv_min (pc := 53) g cm_X0_57 (by decide) (by decide) (Nat.le_of_ble_eq_true rfl) dX0_goDay_53 ?_
      obtain ⟨hi, h⟩ := h
      refine zv_ials (pc := 56) ((hW β u) (h_dust_s S (upd (h_dust S) (Int32.toNatClampNeg x1) (if ((h_dust S (Int32.toNatClampNeg x1)) + (h_fall S)) < 99 then ((h_dust S (Int32.toNatClampNeg x1)) + (h_fall S)) else 99)))) g 1 rfl hi rfl dX0_goDay_56 ?_
      refine zv_nmS (wf := (hW β u)) (fun S4 eS4 => ?_)
      replace h := h S4 eS4
      refine zv_iinc (pc := 57) 1 [(1, .int (x1 + 1)), (0, .ref (u 0))] g dX0_goDay_57 1 rfl (by decide) (by decide) rfl ?_
      refine zv_goto (pc := 60) 29 g dX0_goDay_60 rfl ?_
      refine zv_sub [1, 0] rfl ?_
      exact ih0 _ _ h
def wX0_goDay_2 (post : (HSt) → Prop) : Nat → (HSt) → (Int32) → Prop
  | 0, _, _ => False
  | f0 + 1, S, x1 => ((h_dusters S) ≤ x1 → ∃ f5 : Nat, wX0_goDay_29 post f5 S 0) ∧ (¬ (h_dusters S) ≤ x1 → wX0_whereIs (fun v6 => wX0_goThrough (fun v7 S8 => wX0_goDay_2 post f0 S8 (x1 + 1)) S x1 v6) S x1)
set_option maxRecDepth 100000 in
set_option maxHeartbeats 4000000 in
theorem lX0_goDay_2 {β : zz_B} {Γ : zz_X} {u : Nat → Nat} {post : (HSt) → Prop} (g : zG β 2 Γ cX0_goDay RX0 3 73) (hR : zR β Γ none (fun r w => ∃ T : HSt, r = none ∧ w = (hW β u) T ∧ post T)) : ∀ (f0 : Nat) (S : HSt) (x1 : Int32) , wX0_goDay_2 post f0 S x1 → zV β 2 Γ ((hW β u) S) 2 [(0, .ref (u 0)), (1, .int x1)] [] := by
  intro f0
  induction f0 with
  | zero => intro S x1 h; exact h.elim
  | succ f0 ih0 =>
    intro S x1 h
    rw [wX0_goDay_2] at h
    refine zv_iload_n (pc := 2) g dX0_goDay_2 1 rfl rfl ?_
    refine zv_aload_n (pc := 3) g dX0_goDay_3 0 rfl rfl ?_
    refine zv_get (pc := 4) g fl_X0_37 0 rfl rfl dX0_goDay_4 ?_
    refine zv_icmp_ge (pc := 7) 27 g dX0_goDay_7 rfl (fun c1 => ?_) (fun c1 => ?_)
    · replace h := h.1 c1
      refine zv_iconst (pc := 27) g dX0_goDay_27 (v := 0) (by decide) ?_
      refine zv_istore_n (pc := 28) 1 [(1, .int 0), (0, .ref (u 0))] g dX0_goDay_28 rfl (by decide) rfl ?_
      obtain ⟨f5, h⟩ := h
      refine zv_sub [1, 0] rfl ?_
      exact lX0_goDay_29 g hR f5 _ _ h
    · replace h := h.2 c1
      refine zv_aload_n (pc := 10) g dX0_goDay_10 0 rfl rfl ?_
      refine zv_iload_n (pc := 11) g dX0_goDay_11 1 rfl rfl ?_
      refine zv_aload_n (pc := 12) g dX0_goDay_12 0 rfl rfl ?_
      refine zv_iload_n (pc := 13) g dX0_goDay_13 1 rfl rfl ?_
      refine zv_cVp (pc := 14) g cw_X0_46 (ctX0_whereIs h) (by decide) (by decide) zz_p0 (q := 0) rfl rfl rfl rfl rfl (Nat.le_of_ble_eq_true rfl) dX0_goDay_14 (fun v6 h => ?_)
      refine zv_cVi (pc := 17) g cw_X0_53 (ctX0_goThrough h) (by decide) (by decide) zz_p0 (hW β u) (fun T => zz_p1 T) (q := 0) rfl rfl rfl rfl rfl (Nat.le_of_ble_eq_true rfl) dX0_goDay_17 (fun v7 S8 h => ?_)
      refine zv_pop (pc := 20) g dX0_goDay_20 rfl ?_
      refine zv_iinc (pc := 21) 1 [(1, .int (x1 + 1)), (0, .ref (u 0))] g dX0_goDay_21 1 rfl (by decide) (by decide) rfl ?_
      refine zv_goto (pc := 24) 2 g dX0_goDay_24 rfl ?_
      refine zv_sub [1, 0] rfl ?_
      exact ih0 _ _ h
def wX0_goDay (post : (HSt) → Prop) (S : HSt) : Prop := ∃ f9 : Nat, wX0_goDay_2 post f9 S 0
set_option maxRecDepth 100000 in
set_option maxHeartbeats 4000000 in
theorem ctX0_goDay {β : zz_B} {u : Nat → Nat} {post : (HSt) → Prop} {S : HSt} (h : wX0_goDay post S) : zCv β yX0_goDay cX0_goDay 2 none 3 73 [.ref (u 0)] (hW β u) S post := by
  unfold wX0_goDay at h
  unfold zCv
  refine zC.of (by decide) (Nat.le_of_ble_eq_true rfl) ?_
  intro Γ g hR
  show zV β 2 Γ ((hW β u) S) 0 [(0, .ref (u 0))] []
  refine zv_iconst (pc := 0) g dX0_goDay_0 (v := 0) (by decide) ?_
  refine zv_istore_n (pc := 1) 1 [(1, .int 0), (0, .ref (u 0))] g dX0_goDay_1 rfl (by decide) rfl ?_
  obtain ⟨f9, h⟩ := h
  refine zv_sub [1, 0] rfl ?_
  exact lX0_goDay_2 g hR f9 _ _ h
def wX0_goDays_2 (post : (HSt) → Prop) : Nat → (HSt) → (Int32) → (Int32) → Prop
  | 0, _, _, _ => False
  | f0 + 1, S, x1, x2 => (x1 ≤ x2 → post S) ∧ (¬ x1 ≤ x2 → wX0_goDay (fun S2 => wX0_goDays_2 post f0 S2 x1 (x2 + 1)) S)
set_option maxRecDepth 100000 in
set_option maxHeartbeats 4000000 in
theorem lX0_goDays_2 {β : zz_B} {Γ : zz_X} {u : Nat → Nat} {post : (HSt) → Prop} (g : zG β 3 Γ cX0_goDays RX0 4 94) (hR : zR β Γ none (fun r w => ∃ T : HSt, r = none ∧ w = (hW β u) T ∧ post T)) : ∀ (f0 : Nat) (S : HSt) (x1 : Int32) (x2 : Int32) , wX0_goDays_2 post f0 S x1 x2 → zV β 3 Γ ((hW β u) S) 2 [(0, .ref (u 0)), (1, .int x1), (2, .int x2)] [] := by
  intro f0
  induction f0 with
  | zero => intro S x1 x2 h; exact h.elim
  | succ f0 ih0 =>
    intro S x1 x2 h
    rw [wX0_goDays_2] at h
    refine zv_iload_n (pc := 2) g dX0_goDays_2 2 rfl rfl ?_
    refine zv_iload_n (pc := 3) g dX0_goDays_3 1 rfl rfl ?_
    refine zv_icmp_ge (pc := 4) 17 g dX0_goDays_4 rfl (fun c1 => ?_) (fun c1 => ?_)
    · replace h := h.1 c1
      exact zv_vret (pc := 17) g hR dX0_goDays_17 ⟨_, rfl, rfl, h⟩
    · replace h := h.2 c1
      refine zv_aload_n (pc := 7) g dX0_goDays_7 0 rfl rfl ?_
      refine zv_cVv (pc := 8) g cw_X0_50 (ctX0_goDay h) (by decide) (by decide) zz_p0 (hW β u) (fun T => zz_p1 T) (q := 0) rfl rfl rfl rfl rfl (Nat.le_of_ble_eq_true rfl) dX0_goDays_8 (fun S2 h => ?_)
      refine zv_iinc (pc := 11) 1 [(2, .int (x2 + 1)), (0, .ref (u 0)), (1, .int x1)] g dX0_goDays_11 2 rfl (by decide) (by decide) rfl ?_
      refine zv_goto (pc := 14) 2 g dX0_goDays_14 rfl ?_
      refine zv_sub [1, 2, 0] rfl ?_
      exact ih0 _ _ _ h
def wX0_goDays (post : (HSt) → Prop) (S : HSt) (x1 : Int32) : Prop := ∃ f3 : Nat, wX0_goDays_2 post f3 S x1 0
set_option maxRecDepth 100000 in
set_option maxHeartbeats 4000000 in
theorem ctX0_goDays {β : zz_B} {u : Nat → Nat} {post : (HSt) → Prop} {S : HSt} {x1 : Int32} (h : wX0_goDays post S x1) : zCv β yX0_goDays cX0_goDays 3 none 4 94 [.ref (u 0), .int x1] (hW β u) S post := by
  unfold wX0_goDays at h
  unfold zCv
  refine zC.of (by decide) (Nat.le_of_ble_eq_true rfl) ?_
  intro Γ g hR
  show zV β 3 Γ ((hW β u) S) 0 [(0, .ref (u 0)), (1, .int x1)] []
  refine zv_iconst (pc := 0) g dX0_goDays_0 (v := 0) (by decide) ?_
  refine zv_istore_n (pc := 1) 2 [(2, .int 0), (0, .ref (u 0)), (1, .int x1)] g dX0_goDays_1 rfl (by decide) rfl ?_
  obtain ⟨f3, h⟩ := h
  refine zv_sub [1, 2, 0] rfl ?_
  exact lX0_goDays_2 g hR f3 _ _ _ h
def wX0_washOne_9 (post : Int32 → (HSt) → Prop) : Nat → (HSt) → (Int32) → (Int32) → (Int32) → Prop
  | 0, _, _, _, _ => False
  | f0 + 1, S, x1, x2, x3 => ((8 : Int32) ≤ x3 → vp_in x1 8 ∧ (∀ S3 : HSt, S3 = (h_held_s S (upd (h_held S) (Int32.toNatClampNeg x1) 0)) → (vp_in x1 8 ∧ (∀ S4 : HSt, S4 = (h_grimes_s S3 (upd (h_grimes S3) (Int32.toNatClampNeg x1) 0)) → (post x2 S4))))) ∧ (¬ (8 : Int32) ≤ x3 → vp_in x3 8 ∧ (vp_in x3 8 ∧ (∀ S5 : HSt, S5 = (h_memories_s S (upd (h_memories S) (Int32.toNatClampNeg x3) ((h_memories S (Int32.toNatClampNeg x3)) ||| x2))) → (wX0_washOne_9 post f0 S5 x1 x2 (x3 + 1)))))
set_option maxRecDepth 100000 in
set_option maxHeartbeats 4000000 in
theorem lX0_washOne_9 {β : zz_B} {Γ : zz_X} {u : Nat → Nat} {post : Int32 → (HSt) → Prop} (g : zG β 4 Γ cX0_washOne RX0 0 0) (hR : zR β Γ (some .int) (fun r w => ∃ (v : Int32) (T : HSt), r = some (.int v) ∧ w = (hW β u) T ∧ post v T)) : ∀ (f0 : Nat) (S : HSt) (x1 : Int32) (x2 : Int32) (x3 : Int32) , wX0_washOne_9 post f0 S x1 x2 x3 → zV β 4 Γ ((hW β u) S) 9 [(0, .ref (u 0)), (1, .int x1), (2, .int x2), (3, .int x3)] [] := by
  intro f0
  induction f0 with
  | zero => intro S x1 x2 x3 h; exact h.elim
  | succ f0 ih0 =>
    intro S x1 x2 x3 h
    rw [wX0_washOne_9] at h
    refine zv_iload_n (pc := 9) g dX0_washOne_9 3 rfl rfl ?_
    refine zv_bipush (pc := 10) g dX0_washOne_10 (v := 8) (by decide) ?_
    refine zv_icmp_ge (pc := 12) 31 g dX0_washOne_12 rfl (fun c2 => ?_) (fun c2 => ?_)
    · replace h := h.1 c2
      refine zv_aload_n (pc := 31) g dX0_washOne_31 0 rfl rfl ?_
      refine zv_get (pc := 32) g fl_X0_21 0 rfl rfl dX0_washOne_32 ?_
      refine zv_iload_n (pc := 35) g dX0_washOne_35 1 rfl rfl ?_
      refine zv_iconst (pc := 36) g dX0_washOne_36 (v := 0) (by decide) ?_
      obtain ⟨hi, h⟩ := h
      refine zv_ials (pc := 37) ((hW β u) (h_held_s S (upd (h_held S) (Int32.toNatClampNeg x1) 0))) g 4 rfl hi rfl dX0_washOne_37 ?_
      refine zv_nmS (wf := (hW β u)) (fun S3 eS3 => ?_)
      replace h := h S3 eS3
      refine zv_aload_n (pc := 38) g dX0_washOne_38 0 rfl rfl ?_
      refine zv_get (pc := 39) g fl_X0_24 0 rfl rfl dX0_washOne_39 ?_
      refine zv_iload_n (pc := 42) g dX0_washOne_42 1 rfl rfl ?_
      refine zv_iconst (pc := 43) g dX0_washOne_43 (v := 0) (by decide) ?_
      obtain ⟨hi, h⟩ := h
      refine zv_ials (pc := 44) ((hW β u) (h_grimes_s S3 (upd (h_grimes S3) (Int32.toNatClampNeg x1) 0))) g 5 rfl hi rfl dX0_washOne_44 ?_
      refine zv_nmS (wf := (hW β u)) (fun S4 eS4 => ?_)
      replace h := h S4 eS4
      refine zv_iload_n (pc := 45) g dX0_washOne_45 2 rfl rfl ?_
      exact zv_iret (pc := 46) g hR dX0_washOne_46 ⟨_, _, rfl, rfl, h⟩
    · replace h := h.2 c2
      refine zv_aload_n (pc := 15) g dX0_washOne_15 0 rfl rfl ?_
      refine zv_get (pc := 16) g fl_X0_15 0 rfl rfl dX0_washOne_16 ?_
      refine zv_iload_n (pc := 19) g dX0_washOne_19 3 rfl rfl ?_
      refine zv_dup2 (pc := 20) g dX0_washOne_20 rfl rfl ?_
      obtain ⟨hi, h⟩ := h
      refine zv_iald (pc := 21) g 2 rfl hi dX0_washOne_21 ?_
      refine zv_iload_n (pc := 22) g dX0_washOne_22 2 rfl rfl ?_
      refine zv_ior (pc := 23) g dX0_washOne_23 ?_
      obtain ⟨hi, h⟩ := h
      refine zv_ials (pc := 24) ((hW β u) (h_memories_s S (upd (h_memories S) (Int32.toNatClampNeg x3) ((h_memories S (Int32.toNatClampNeg x3)) ||| x2)))) g 2 rfl hi rfl dX0_washOne_24 ?_
      refine zv_nmS (wf := (hW β u)) (fun S5 eS5 => ?_)
      replace h := h S5 eS5
      refine zv_iinc (pc := 25) 1 [(3, .int (x3 + 1)), (0, .ref (u 0)), (1, .int x1), (2, .int x2)] g dX0_washOne_25 3 rfl (by decide) (by decide) rfl ?_
      refine zv_goto (pc := 28) 9 g dX0_washOne_28 rfl ?_
      refine zv_sub [1, 2, 3, 0] rfl ?_
      exact ih0 _ _ _ _ h
def wX0_washOne (post : Int32 → (HSt) → Prop) (S : HSt) (x1 : Int32) : Prop := vp_in x1 8 ∧ (∀ y1 : Int32, y1 = (h_held S (Int32.toNatClampNeg x1)) → (∃ f6 : Nat, wX0_washOne_9 post f6 S x1 y1 0))
set_option maxRecDepth 100000 in
set_option maxHeartbeats 4000000 in
theorem ctX0_washOne {β : zz_B} {u : Nat → Nat} {post : Int32 → (HSt) → Prop} {S : HSt} {x1 : Int32} (h : wX0_washOne post S x1) : zCi β yX0_washOne cX0_washOne 4 (some .int) 0 0 [.ref (u 0), .int x1] (hW β u) S post := by
  unfold wX0_washOne at h
  unfold zCi
  refine zC.of (by decide) (Nat.le_of_ble_eq_true rfl) ?_
  intro Γ g hR
  show zV β 4 Γ ((hW β u) S) 0 [(0, .ref (u 0)), (1, .int x1)] []
  refine zv_aload_n (pc := 0) g dX0_washOne_0 0 rfl rfl ?_
  refine zv_get (pc := 1) g fl_X0_21 0 rfl rfl dX0_washOne_1 ?_
  refine zv_iload_n (pc := 4) g dX0_washOne_4 1 rfl rfl ?_
  obtain ⟨hi, h⟩ := h
  refine zv_iald (pc := 5) g 4 rfl hi dX0_washOne_5 ?_
  refine zv_topi (fun y1 ey1 => ?_)
  replace h := h y1 ey1
  refine zv_istore_n (pc := 6) 2 [(2, .int y1), (0, .ref (u 0)), (1, .int x1)] g dX0_washOne_6 rfl (by decide) rfl ?_
  refine zv_iconst (pc := 7) g dX0_washOne_7 (v := 0) (by decide) ?_
  refine zv_istore_n (pc := 8) 3 [(3, .int 0), (2, .int y1), (0, .ref (u 0)), (1, .int x1)] g dX0_washOne_8 rfl (by decide) rfl ?_
  obtain ⟨f6, h⟩ := h
  refine zv_sub [2, 3, 1, 0] rfl ?_
  exact lX0_washOne_9 g hR f6 _ _ _ _ h
def wX0_shakeOne (post : Int32 → (HSt) → Prop) (S : HSt) (x1 : Int32) : Prop := vp_in x1 8 ∧ (∀ y1 : Int32, y1 = (h_held S (Int32.toNatClampNeg x1)) → (wX0_whereIs (fun v2 => vp_in ((v2 + 1) &&& 7) 8 ∧ (vp_in ((v2 + 1) &&& 7) 8 ∧ (∀ S3 : HSt, S3 = (h_memories_s S (upd (h_memories S) (Int32.toNatClampNeg ((v2 + 1) &&& 7)) ((h_memories S (Int32.toNatClampNeg ((v2 + 1) &&& 7))) ||| y1))) → (vp_in x1 8 ∧ (∀ S4 : HSt, S4 = (h_held_s S3 (upd (h_held S3) (Int32.toNatClampNeg x1) 0)) → (vp_in x1 8 ∧ (vp_in x1 8 ∧ (∀ S5 : HSt, S5 = (h_grimes_s S4 (upd (h_grimes S4) (Int32.toNatClampNeg x1) ((h_grimes S4 (Int32.toNatClampNeg x1)) / 2))) → (post y1 S5))))))))) S x1))
set_option maxRecDepth 100000 in
set_option maxHeartbeats 4000000 in
theorem ctX0_shakeOne {β : zz_B} {u : Nat → Nat} {post : Int32 → (HSt) → Prop} {S : HSt} {x1 : Int32} (h : wX0_shakeOne post S x1) : zCi β yX0_shakeOne cX0_shakeOne 3 (some .int) 1 21 [.ref (u 0), .int x1] (hW β u) S post := by
  unfold wX0_shakeOne at h
  unfold zCi
  refine zC.of (by decide) (Nat.le_of_ble_eq_true rfl) ?_
  intro Γ g hR
  show zV β 3 Γ ((hW β u) S) 0 [(0, .ref (u 0)), (1, .int x1)] []
  refine zv_aload_n (pc := 0) g dX0_shakeOne_0 0 rfl rfl ?_
  refine zv_get (pc := 1) g fl_X0_21 0 rfl rfl dX0_shakeOne_1 ?_
  refine zv_iload_n (pc := 4) g dX0_shakeOne_4 1 rfl rfl ?_
  obtain ⟨hi, h⟩ := h
  refine zv_iald (pc := 5) g 4 rfl hi dX0_shakeOne_5 ?_
  refine zv_topi (fun y1 ey1 => ?_)
  replace h := h y1 ey1
  refine zv_istore_n (pc := 6) 2 [(2, .int y1), (0, .ref (u 0)), (1, .int x1)] g dX0_shakeOne_6 rfl (by decide) rfl ?_
  refine zv_aload_n (pc := 7) g dX0_shakeOne_7 1 rfl rfl ?_
  refine zv_get (pc := 8) g fl_X0_15 0 rfl rfl dX0_shakeOne_8 ?_
  refine zv_aload_n (pc := 11) g dX0_shakeOne_11 1 rfl rfl ?_
  refine zv_iload_n (pc := 12) g dX0_shakeOne_12 2 rfl rfl ?_
  refine zv_cVp (pc := 13) g cw_X0_46 (ctX0_whereIs h) (by decide) (by decide) zz_p0 (q := 0) rfl rfl rfl rfl rfl (Nat.le_of_ble_eq_true rfl) dX0_shakeOne_13 (fun v2 h => ?_)
  refine zv_iconst (pc := 16) g dX0_shakeOne_16 (v := 1) (by decide) ?_
  refine zv_iadd (pc := 17) g dX0_shakeOne_17 ?_
  refine zv_bipush (pc := 18) g dX0_shakeOne_18 (v := 7) (by decide) ?_
  refine zv_iand (pc := 20) g dX0_shakeOne_20 ?_
  refine zv_dup2 (pc := 21) g dX0_shakeOne_21 rfl rfl ?_
  obtain ⟨hi, h⟩ := h
  refine zv_iald (pc := 22) g 2 rfl hi dX0_shakeOne_22 ?_
  refine zv_iload_n (pc := 23) g dX0_shakeOne_23 0 rfl rfl ?_
  refine zv_ior (pc := 24) g dX0_shakeOne_24 ?_
  obtain ⟨hi, h⟩ := h
  refine zv_ials (pc := 25) ((hW β u) (h_memories_s S (upd (h_memories S) (Int32.toNatClampNeg ((v2 + 1) &&& 7)) ((h_memories S (Int32.toNatClampNeg ((v2 + 1) &&& 7))) ||| y1)))) g 2 rfl hi rfl dX0_shakeOne_25 ?_
  refine zv_nmS (wf := (hW β u)) (fun S3 eS3 => ?_)
  replace h := h S3 eS3
  refine zv_aload_n (pc := 26) g dX0_shakeOne_26 1 rfl rfl ?_
  refine zv_get (pc := 27) g fl_X0_21 0 rfl rfl dX0_shakeOne_27 ?_
  refine zv_iload_n (pc := 30) g dX0_shakeOne_30 2 rfl rfl ?_
  refine zv_iconst (pc := 31) g dX0_shakeOne_31 (v := 0) (by decide) ?_
  obtain ⟨hi, h⟩ := h
  refine zv_ials (pc := 32) ((hW β u) (h_held_s S3 (upd (h_held S3) (Int32.toNatClampNeg x1) 0))) g 4 rfl hi rfl dX0_shakeOne_32 ?_
  refine zv_nmS (wf := (hW β u)) (fun S4 eS4 => ?_)
  replace h := h S4 eS4
  refine zv_aload_n (pc := 33) g dX0_shakeOne_33 1 rfl rfl ?_
  refine zv_get (pc := 34) g fl_X0_24 0 rfl rfl dX0_shakeOne_34 ?_
  refine zv_iload_n (pc := 37) g dX0_shakeOne_37 2 rfl rfl ?_
  refine zv_dup2 (pc := 38) g dX0_shakeOne_38 rfl rfl ?_
  obtain ⟨hi, h⟩ := h
  refine zv_iald (pc := 39) g 5 rfl hi dX0_shakeOne_39 ?_
  refine zv_iconst (pc := 40) g dX0_shakeOne_40 (v := 2) (by decide) ?_
  refine zv_idiv (pc := 41) g dX0_shakeOne_41 (by decide) ?_
  obtain ⟨hi, h⟩ := h
  refine zv_ials (pc := 42) ((hW β u) (h_grimes_s S4 (upd (h_grimes S4) (Int32.toNatClampNeg x1) ((h_grimes S4 (Int32.toNatClampNeg x1)) / 2)))) g 5 rfl hi rfl dX0_shakeOne_42 ?_
  refine zv_nmS (wf := (hW β u)) (fun S5 eS5 => ?_)
  replace h := h S5 eS5
  refine zv_iload_n (pc := 43) g dX0_shakeOne_43 0 rfl rfl ?_
  exact zv_iret (pc := 44) g hR dX0_shakeOne_44 ⟨_, _, rfl, rfl, h⟩
def wX0_dustOfAll_4 (post : Int32 → Prop) (S : HSt) : Nat → (Int32) → (Int32) → Prop
  | 0, _, _ => False
  | f0 + 1, x1, x2 => ((8 : Int32) ≤ x2 → post x1) ∧ (¬ (8 : Int32) ≤ x2 → vp_in x2 8 ∧ (∀ y2 : Int32, y2 = (x1 + (h_dust S (Int32.toNatClampNeg x2))) → (wX0_dustOfAll_4 post S f0 y2 (x2 + 1))))
set_option maxRecDepth 100000 in
set_option maxHeartbeats 4000000 in
theorem lX0_dustOfAll_4 {β : zz_B} {Γ : zz_X} {u : Nat → Nat} {post : Int32 → Prop} {S : HSt} (g : zG β 3 Γ cX0_dustOfAll RX0 0 0) (hR : zR β Γ (some .int) (fun r w => ∃ v : Int32, r = some (.int v) ∧ w = ((hW β u) S) ∧ post v)) : ∀ (f0 : Nat) (x1 : Int32) (x2 : Int32) , wX0_dustOfAll_4 post S f0 x1 x2 → zV β 3 Γ ((hW β u) S) 4 [(0, .ref (u 0)), (1, .int x1), (2, .int x2)] [] := by
  intro f0
  induction f0 with
  | zero => intro x1 x2 h; exact h.elim
  | succ f0 ih0 =>
    intro x1 x2 h
    rw [wX0_dustOfAll_4] at h
    refine zv_iload_n (pc := 4) g dX0_dustOfAll_4 2 rfl rfl ?_
    refine zv_bipush (pc := 5) g dX0_dustOfAll_5 (v := 8) (by decide) ?_
    refine zv_icmp_ge (pc := 7) 25 g dX0_dustOfAll_7 rfl (fun c1 => ?_) (fun c1 => ?_)
    · replace h := h.1 c1
      refine zv_iload_n (pc := 25) g dX0_dustOfAll_25 1 rfl rfl ?_
      exact zv_iret (pc := 26) g hR dX0_dustOfAll_26 ⟨_, rfl, rfl, h⟩
    · replace h := h.2 c1
      refine zv_iload_n (pc := 10) g dX0_dustOfAll_10 1 rfl rfl ?_
      refine zv_aload_n (pc := 11) g dX0_dustOfAll_11 0 rfl rfl ?_
      refine zv_get (pc := 12) g fl_X0_9 0 rfl rfl dX0_dustOfAll_12 ?_
      refine zv_iload_n (pc := 15) g dX0_dustOfAll_15 2 rfl rfl ?_
      obtain ⟨hi, h⟩ := h
      refine zv_iald (pc := 16) g 1 rfl hi dX0_dustOfAll_16 ?_
      refine zv_iadd (pc := 17) g dX0_dustOfAll_17 ?_
      refine zv_topi (fun y2 ey2 => ?_)
      replace h := h y2 ey2
      refine zv_istore_n (pc := 18) 1 [(1, .int y2), (0, .ref (u 0)), (2, .int x2)] g dX0_dustOfAll_18 rfl (by decide) rfl ?_
      refine zv_iinc (pc := 19) 1 [(2, .int (x2 + 1)), (1, .int y2), (0, .ref (u 0))] g dX0_dustOfAll_19 2 rfl (by decide) (by decide) rfl ?_
      refine zv_goto (pc := 22) 4 g dX0_dustOfAll_22 rfl ?_
      refine zv_sub [2, 1, 0] rfl ?_
      exact ih0 _ _ h
def wX0_dustOfAll (post : Int32 → Prop) (S : HSt) : Prop := ∃ f3 : Nat, wX0_dustOfAll_4 post S f3 0 0
set_option maxRecDepth 100000 in
set_option maxHeartbeats 4000000 in
theorem ctX0_dustOfAll {β : zz_B} {u : Nat → Nat} {post : Int32 → Prop} {S : HSt} (h : wX0_dustOfAll post S) : zCp β yX0_dustOfAll cX0_dustOfAll 3 (some .int) 0 0 [.ref (u 0)] ((hW β u) S) post := by
  unfold wX0_dustOfAll at h
  unfold zCp
  refine zC.of (by decide) (Nat.le_of_ble_eq_true rfl) ?_
  intro Γ g hR
  show zV β 3 Γ ((hW β u) S) 0 [(0, .ref (u 0))] []
  refine zv_iconst (pc := 0) g dX0_dustOfAll_0 (v := 0) (by decide) ?_
  refine zv_istore_n (pc := 1) 1 [(1, .int 0), (0, .ref (u 0))] g dX0_dustOfAll_1 rfl (by decide) rfl ?_
  refine zv_iconst (pc := 2) g dX0_dustOfAll_2 (v := 0) (by decide) ?_
  refine zv_istore_n (pc := 3) 2 [(2, .int 0), (1, .int 0), (0, .ref (u 0))] g dX0_dustOfAll_3 rfl (by decide) rfl ?_
  obtain ⟨f3, h⟩ := h
  refine zv_sub [2, 1, 0] rfl ?_
  exact lX0_dustOfAll_4 g hR f3 _ _ h
def wX0_memoriesCounted_4 (post : Int32 → Prop) (S : HSt) : Nat → (Int32) → (Int32) → Prop
  | 0, _, _ => False
  | f0 + 1, x1, x2 => ((8 : Int32) ≤ x2 → post x1) ∧ (¬ (8 : Int32) ≤ x2 → vp_in x2 8 ∧ (wJ6_bitCount (fun v2 => ∀ y3 : Int32, y3 = (x1 + v2) → (wX0_memoriesCounted_4 post S f0 y3 (x2 + 1))) (h_memories S (Int32.toNatClampNeg x2))))
set_option maxRecDepth 100000 in
set_option maxHeartbeats 4000000 in
theorem lX0_memoriesCounted_4 {β : zz_B} {Γ : zz_X} {u : Nat → Nat} {post : Int32 → Prop} {S : HSt} (g : zG β 3 Γ cX0_memoriesCounted RX0 1 20) (hR : zR β Γ (some .int) (fun r w => ∃ v : Int32, r = some (.int v) ∧ w = ((hW β u) S) ∧ post v)) : ∀ (f0 : Nat) (x1 : Int32) (x2 : Int32) , wX0_memoriesCounted_4 post S f0 x1 x2 → zV β 3 Γ ((hW β u) S) 4 [(0, .ref (u 0)), (1, .int x1), (2, .int x2)] [] := by
  intro f0
  induction f0 with
  | zero => intro x1 x2 h; exact h.elim
  | succ f0 ih0 =>
    intro x1 x2 h
    rw [wX0_memoriesCounted_4] at h
    refine zv_iload_n (pc := 4) g dX0_memoriesCounted_4 2 rfl rfl ?_
    refine zv_bipush (pc := 5) g dX0_memoriesCounted_5 (v := 8) (by decide) ?_
    refine zv_icmp_ge (pc := 7) 28 g dX0_memoriesCounted_7 rfl (fun c1 => ?_) (fun c1 => ?_)
    · replace h := h.1 c1
      refine zv_iload_n (pc := 28) g dX0_memoriesCounted_28 1 rfl rfl ?_
      exact zv_iret (pc := 29) g hR dX0_memoriesCounted_29 ⟨_, rfl, rfl, h⟩
    · replace h := h.2 c1
      refine zv_iload_n (pc := 10) g dX0_memoriesCounted_10 1 rfl rfl ?_
      refine zv_aload_n (pc := 11) g dX0_memoriesCounted_11 0 rfl rfl ?_
      refine zv_get (pc := 12) g fl_X0_15 0 rfl rfl dX0_memoriesCounted_12 ?_
      refine zv_iload_n (pc := 15) g dX0_memoriesCounted_15 2 rfl rfl ?_
      obtain ⟨hi, h⟩ := h
      refine zv_iald (pc := 16) g 2 rfl hi dX0_memoriesCounted_16 ?_
      refine zv_cSp (pc := 17) g cw_X0_80 (ctJ6_bitCount h) (by decide) (by decide) zz_pN rfl rfl (Nat.le_of_ble_eq_true rfl) dX0_memoriesCounted_17 (fun v2 h => ?_)
      refine zv_iadd (pc := 20) g dX0_memoriesCounted_20 ?_
      refine zv_topi (fun y3 ey3 => ?_)
      replace h := h y3 ey3
      refine zv_istore_n (pc := 21) 1 [(1, .int y3), (0, .ref (u 0)), (2, .int x2)] g dX0_memoriesCounted_21 rfl (by decide) rfl ?_
      refine zv_iinc (pc := 22) 1 [(2, .int (x2 + 1)), (1, .int y3), (0, .ref (u 0))] g dX0_memoriesCounted_22 2 rfl (by decide) (by decide) rfl ?_
      refine zv_goto (pc := 25) 4 g dX0_memoriesCounted_25 rfl ?_
      refine zv_sub [2, 1, 0] rfl ?_
      exact ih0 _ _ h
def wX0_memoriesCounted (post : Int32 → Prop) (S : HSt) : Prop := ∃ f4 : Nat, wX0_memoriesCounted_4 post S f4 0 0
set_option maxRecDepth 100000 in
set_option maxHeartbeats 4000000 in
theorem ctX0_memoriesCounted {β : zz_B} {u : Nat → Nat} {post : Int32 → Prop} {S : HSt} (h : wX0_memoriesCounted post S) : zCp β yX0_memoriesCounted cX0_memoriesCounted 3 (some .int) 1 20 [.ref (u 0)] ((hW β u) S) post := by
  unfold wX0_memoriesCounted at h
  unfold zCp
  refine zC.of (by decide) (Nat.le_of_ble_eq_true rfl) ?_
  intro Γ g hR
  show zV β 3 Γ ((hW β u) S) 0 [(0, .ref (u 0))] []
  refine zv_iconst (pc := 0) g dX0_memoriesCounted_0 (v := 0) (by decide) ?_
  refine zv_istore_n (pc := 1) 1 [(1, .int 0), (0, .ref (u 0))] g dX0_memoriesCounted_1 rfl (by decide) rfl ?_
  refine zv_iconst (pc := 2) g dX0_memoriesCounted_2 (v := 0) (by decide) ?_
  refine zv_istore_n (pc := 3) 2 [(2, .int 0), (1, .int 0), (0, .ref (u 0))] g dX0_memoriesCounted_3 rfl (by decide) rfl ?_
  obtain ⟨f4, h⟩ := h
  refine zv_sub [2, 1, 0] rfl ?_
  exact lX0_memoriesCounted_4 g hR f4 _ _ h
def wX0_memoriesEverywhere_6 (post : Int32 → Prop) (S : HSt) : Nat → (Int32) → (Int32) → Prop
  | 0, _, _ => False
  | f0 + 1, x1, x2 => ((8 : Int32) ≤ x2 → post x1) ∧ (¬ (8 : Int32) ≤ x2 → vp_in x2 8 ∧ (∀ y2 : Int32, y2 = (x1 &&& (h_memories S (Int32.toNatClampNeg x2))) → (wX0_memoriesEverywhere_6 post S f0 y2 (x2 + 1))))
set_option maxRecDepth 100000 in
set_option maxHeartbeats 4000000 in
theorem lX0_memoriesEverywhere_6 {β : zz_B} {Γ : zz_X} {u : Nat → Nat} {post : Int32 → Prop} {S : HSt} (g : zG β 3 Γ cX0_memoriesEverywhere RX0 0 0) (hR : zR β Γ (some .int) (fun r w => ∃ v : Int32, r = some (.int v) ∧ w = ((hW β u) S) ∧ post v)) : ∀ (f0 : Nat) (x1 : Int32) (x2 : Int32) , wX0_memoriesEverywhere_6 post S f0 x1 x2 → zV β 3 Γ ((hW β u) S) 6 [(0, .ref (u 0)), (1, .int x1), (2, .int x2)] [] := by
  intro f0
  induction f0 with
  | zero => intro x1 x2 h; exact h.elim
  | succ f0 ih0 =>
    intro x1 x2 h
    rw [wX0_memoriesEverywhere_6] at h
    refine zv_iload_n (pc := 6) g dX0_memoriesEverywhere_6 2 rfl rfl ?_
    refine zv_bipush (pc := 7) g dX0_memoriesEverywhere_7 (v := 8) (by decide) ?_
    refine zv_icmp_ge (pc := 9) 27 g dX0_memoriesEverywhere_9 rfl (fun c1 => ?_) (fun c1 => ?_)
    · replace h := h.1 c1
      refine zv_iload_n (pc := 27) g dX0_memoriesEverywhere_27 1 rfl rfl ?_
      exact zv_iret (pc := 28) g hR dX0_memoriesEverywhere_28 ⟨_, rfl, rfl, h⟩
    · replace h := h.2 c1
      refine zv_iload_n (pc := 12) g dX0_memoriesEverywhere_12 1 rfl rfl ?_
      refine zv_aload_n (pc := 13) g dX0_memoriesEverywhere_13 0 rfl rfl ?_
      refine zv_get (pc := 14) g fl_X0_15 0 rfl rfl dX0_memoriesEverywhere_14 ?_
      refine zv_iload_n (pc := 17) g dX0_memoriesEverywhere_17 2 rfl rfl ?_
      obtain ⟨hi, h⟩ := h
      refine zv_iald (pc := 18) g 2 rfl hi dX0_memoriesEverywhere_18 ?_
      refine zv_iand (pc := 19) g dX0_memoriesEverywhere_19 ?_
      refine zv_topi (fun y2 ey2 => ?_)
      replace h := h y2 ey2
      refine zv_istore_n (pc := 20) 1 [(1, .int y2), (0, .ref (u 0)), (2, .int x2)] g dX0_memoriesEverywhere_20 rfl (by decide) rfl ?_
      refine zv_iinc (pc := 21) 1 [(2, .int (x2 + 1)), (1, .int y2), (0, .ref (u 0))] g dX0_memoriesEverywhere_21 2 rfl (by decide) (by decide) rfl ?_
      refine zv_goto (pc := 24) 6 g dX0_memoriesEverywhere_24 rfl ?_
      refine zv_sub [2, 1, 0] rfl ?_
      exact ih0 _ _ h
def wX0_memoriesEverywhere (post : Int32 → Prop) (S : HSt) : Prop := ∃ f3 : Nat, wX0_memoriesEverywhere_6 post S f3 1023 0
set_option maxRecDepth 100000 in
set_option maxHeartbeats 4000000 in
theorem ctX0_memoriesEverywhere {β : zz_B} {u : Nat → Nat} {post : Int32 → Prop} {S : HSt} (h : wX0_memoriesEverywhere post S) : zCp β yX0_memoriesEverywhere cX0_memoriesEverywhere 3 (some .int) 0 0 [.ref (u 0)] ((hW β u) S) post := by
  unfold wX0_memoriesEverywhere at h
  unfold zCp
  refine zC.of (by decide) (Nat.le_of_ble_eq_true rfl) ?_
  intro Γ g hR
  show zV β 3 Γ ((hW β u) S) 0 [(0, .ref (u 0))] []
  refine zv_sipush (pc := 0) g dX0_memoriesEverywhere_0 (v := 1023) (by decide) ?_
  refine zv_istore_n (pc := 3) 1 [(1, .int 1023), (0, .ref (u 0))] g dX0_memoriesEverywhere_3 rfl (by decide) rfl ?_
  refine zv_iconst (pc := 4) g dX0_memoriesEverywhere_4 (v := 0) (by decide) ?_
  refine zv_istore_n (pc := 5) 2 [(2, .int 0), (1, .int 1023), (0, .ref (u 0))] g dX0_memoriesEverywhere_5 rfl (by decide) rfl ?_
  obtain ⟨f3, h⟩ := h
  refine zv_sub [2, 1, 0] rfl ?_
  exact lX0_memoriesEverywhere_6 g hR f3 _ _ h
def wX0_memoriesAnywhere_4 (post : Int32 → Prop) (S : HSt) : Nat → (Int32) → (Int32) → Prop
  | 0, _, _ => False
  | f0 + 1, x1, x2 => ((8 : Int32) ≤ x2 → post x1) ∧ (¬ (8 : Int32) ≤ x2 → vp_in x2 8 ∧ (∀ y2 : Int32, y2 = (x1 ||| (h_memories S (Int32.toNatClampNeg x2))) → (wX0_memoriesAnywhere_4 post S f0 y2 (x2 + 1))))
set_option maxRecDepth 100000 in
set_option maxHeartbeats 4000000 in
theorem lX0_memoriesAnywhere_4 {β : zz_B} {Γ : zz_X} {u : Nat → Nat} {post : Int32 → Prop} {S : HSt} (g : zG β 3 Γ cX0_memoriesAnywhere RX0 0 0) (hR : zR β Γ (some .int) (fun r w => ∃ v : Int32, r = some (.int v) ∧ w = ((hW β u) S) ∧ post v)) : ∀ (f0 : Nat) (x1 : Int32) (x2 : Int32) , wX0_memoriesAnywhere_4 post S f0 x1 x2 → zV β 3 Γ ((hW β u) S) 4 [(0, .ref (u 0)), (1, .int x1), (2, .int x2)] [] := by
  intro f0
  induction f0 with
  | zero => intro x1 x2 h; exact h.elim
  | succ f0 ih0 =>
    intro x1 x2 h
    rw [wX0_memoriesAnywhere_4] at h
    refine zv_iload_n (pc := 4) g dX0_memoriesAnywhere_4 2 rfl rfl ?_
    refine zv_bipush (pc := 5) g dX0_memoriesAnywhere_5 (v := 8) (by decide) ?_
    refine zv_icmp_ge (pc := 7) 25 g dX0_memoriesAnywhere_7 rfl (fun c1 => ?_) (fun c1 => ?_)
    · replace h := h.1 c1
      refine zv_iload_n (pc := 25) g dX0_memoriesAnywhere_25 1 rfl rfl ?_
      exact zv_iret (pc := 26) g hR dX0_memoriesAnywhere_26 ⟨_, rfl, rfl, h⟩
    · replace h := h.2 c1
      refine zv_iload_n (pc := 10) g dX0_memoriesAnywhere_10 1 rfl rfl ?_
      refine zv_aload_n (pc := 11) g dX0_memoriesAnywhere_11 0 rfl rfl ?_
      refine zv_get (pc := 12) g fl_X0_15 0 rfl rfl dX0_memoriesAnywhere_12 ?_
      refine zv_iload_n (pc := 15) g dX0_memoriesAnywhere_15 2 rfl rfl ?_
      obtain ⟨hi, h⟩ := h
      refine zv_iald (pc := 16) g 2 rfl hi dX0_memoriesAnywhere_16 ?_
      refine zv_ior (pc := 17) g dX0_memoriesAnywhere_17 ?_
      refine zv_topi (fun y2 ey2 => ?_)
      replace h := h y2 ey2
      refine zv_istore_n (pc := 18) 1 [(1, .int y2), (0, .ref (u 0)), (2, .int x2)] g dX0_memoriesAnywhere_18 rfl (by decide) rfl ?_
      refine zv_iinc (pc := 19) 1 [(2, .int (x2 + 1)), (1, .int y2), (0, .ref (u 0))] g dX0_memoriesAnywhere_19 2 rfl (by decide) (by decide) rfl ?_
      refine zv_goto (pc := 22) 4 g dX0_memoriesAnywhere_22 rfl ?_
      refine zv_sub [2, 1, 0] rfl ?_
      exact ih0 _ _ h
def wX0_memoriesAnywhere (post : Int32 → Prop) (S : HSt) : Prop := ∃ f3 : Nat, wX0_memoriesAnywhere_4 post S f3 0 0
set_option maxRecDepth 100000 in
set_option maxHeartbeats 4000000 in
theorem ctX0_memoriesAnywhere {β : zz_B} {u : Nat → Nat} {post : Int32 → Prop} {S : HSt} (h : wX0_memoriesAnywhere post S) : zCp β yX0_memoriesAnywhere cX0_memoriesAnywhere 3 (some .int) 0 0 [.ref (u 0)] ((hW β u) S) post := by
  unfold wX0_memoriesAnywhere at h
  unfold zCp
  refine zC.of (by decide) (Nat.le_of_ble_eq_true rfl) ?_
  intro Γ g hR
  show zV β 3 Γ ((hW β u) S) 0 [(0, .ref (u 0))] []
  refine zv_iconst (pc := 0) g dX0_memoriesAnywhere_0 (v := 0) (by decide) ?_
  refine zv_istore_n (pc := 1) 1 [(1, .int 0), (0, .ref (u 0))] g dX0_memoriesAnywhere_1 rfl (by decide) rfl ?_
  refine zv_iconst (pc := 2) g dX0_memoriesAnywhere_2 (v := 0) (by decide) ?_
  refine zv_istore_n (pc := 3) 2 [(2, .int 0), (1, .int 0), (0, .ref (u 0))] g dX0_memoriesAnywhere_3 rfl (by decide) rfl ?_
  obtain ⟨f3, h⟩ := h
  refine zv_sub [2, 1, 0] rfl ?_
  exact lX0_memoriesAnywhere_4 g hR f3 _ _ h
def wX0_memoriesHeld_4 (post : Int32 → Prop) (S : HSt) : Nat → (Int32) → (Int32) → Prop
  | 0, _, _ => False
  | f0 + 1, x1, x2 => ((h_dusters S) ≤ x2 → post x1) ∧ (¬ (h_dusters S) ≤ x2 → vp_in x2 8 ∧ (∀ y2 : Int32, y2 = (x1 ||| (h_held S (Int32.toNatClampNeg x2))) → (wX0_memoriesHeld_4 post S f0 y2 (x2 + 1))))
set_option maxRecDepth 100000 in
set_option maxHeartbeats 4000000 in
theorem lX0_memoriesHeld_4 {β : zz_B} {Γ : zz_X} {u : Nat → Nat} {post : Int32 → Prop} {S : HSt} (g : zG β 3 Γ cX0_memoriesHeld RX0 0 0) (hR : zR β Γ (some .int) (fun r w => ∃ v : Int32, r = some (.int v) ∧ w = ((hW β u) S) ∧ post v)) : ∀ (f0 : Nat) (x1 : Int32) (x2 : Int32) , wX0_memoriesHeld_4 post S f0 x1 x2 → zV β 3 Γ ((hW β u) S) 4 [(0, .ref (u 0)), (1, .int x1), (2, .int x2)] [] := by
  intro f0
  induction f0 with
  | zero => intro x1 x2 h; exact h.elim
  | succ f0 ih0 =>
    intro x1 x2 h
    rw [wX0_memoriesHeld_4] at h
    refine zv_iload_n (pc := 4) g dX0_memoriesHeld_4 2 rfl rfl ?_
    refine zv_aload_n (pc := 5) g dX0_memoriesHeld_5 0 rfl rfl ?_
    refine zv_get (pc := 6) g fl_X0_37 0 rfl rfl dX0_memoriesHeld_6 ?_
    refine zv_icmp_ge (pc := 9) 27 g dX0_memoriesHeld_9 rfl (fun c1 => ?_) (fun c1 => ?_)
    · replace h := h.1 c1
      refine zv_iload_n (pc := 27) g dX0_memoriesHeld_27 1 rfl rfl ?_
      exact zv_iret (pc := 28) g hR dX0_memoriesHeld_28 ⟨_, rfl, rfl, h⟩
    · replace h := h.2 c1
      refine zv_iload_n (pc := 12) g dX0_memoriesHeld_12 1 rfl rfl ?_
      refine zv_aload_n (pc := 13) g dX0_memoriesHeld_13 0 rfl rfl ?_
      refine zv_get (pc := 14) g fl_X0_21 0 rfl rfl dX0_memoriesHeld_14 ?_
      refine zv_iload_n (pc := 17) g dX0_memoriesHeld_17 2 rfl rfl ?_
      obtain ⟨hi, h⟩ := h
      refine zv_iald (pc := 18) g 4 rfl hi dX0_memoriesHeld_18 ?_
      refine zv_ior (pc := 19) g dX0_memoriesHeld_19 ?_
      refine zv_topi (fun y2 ey2 => ?_)
      replace h := h y2 ey2
      refine zv_istore_n (pc := 20) 1 [(1, .int y2), (0, .ref (u 0)), (2, .int x2)] g dX0_memoriesHeld_20 rfl (by decide) rfl ?_
      refine zv_iinc (pc := 21) 1 [(2, .int (x2 + 1)), (1, .int y2), (0, .ref (u 0))] g dX0_memoriesHeld_21 2 rfl (by decide) (by decide) rfl ?_
      refine zv_goto (pc := 24) 4 g dX0_memoriesHeld_24 rfl ?_
      refine zv_sub [2, 1, 0] rfl ?_
      exact ih0 _ _ h
def wX0_memoriesHeld (post : Int32 → Prop) (S : HSt) : Prop := ∃ f3 : Nat, wX0_memoriesHeld_4 post S f3 0 0
set_option maxRecDepth 100000 in
set_option maxHeartbeats 4000000 in
theorem ctX0_memoriesHeld {β : zz_B} {u : Nat → Nat} {post : Int32 → Prop} {S : HSt} (h : wX0_memoriesHeld post S) : zCp β yX0_memoriesHeld cX0_memoriesHeld 3 (some .int) 0 0 [.ref (u 0)] ((hW β u) S) post := by
  unfold wX0_memoriesHeld at h
  unfold zCp
  refine zC.of (by decide) (Nat.le_of_ble_eq_true rfl) ?_
  intro Γ g hR
  show zV β 3 Γ ((hW β u) S) 0 [(0, .ref (u 0))] []
  refine zv_iconst (pc := 0) g dX0_memoriesHeld_0 (v := 0) (by decide) ?_
  refine zv_istore_n (pc := 1) 1 [(1, .int 0), (0, .ref (u 0))] g dX0_memoriesHeld_1 rfl (by decide) rfl ?_
  refine zv_iconst (pc := 2) g dX0_memoriesHeld_2 (v := 0) (by decide) ?_
  refine zv_istore_n (pc := 3) 2 [(2, .int 0), (1, .int 0), (0, .ref (u 0))] g dX0_memoriesHeld_3 rfl (by decide) rfl ?_
  obtain ⟨f3, h⟩ := h
  refine zv_sub [2, 1, 0] rfl ?_
  exact lX0_memoriesHeld_4 g hR f3 _ _ h
def wX0_grimeOfAll_4 (post : Int32 → Prop) (S : HSt) : Nat → (Int32) → (Int32) → Prop
  | 0, _, _ => False
  | f0 + 1, x1, x2 => ((h_dusters S) ≤ x2 → post x1) ∧ (¬ (h_dusters S) ≤ x2 → vp_in x2 8 ∧ (∀ y2 : Int32, y2 = (x1 + (h_grimes S (Int32.toNatClampNeg x2))) → (wX0_grimeOfAll_4 post S f0 y2 (x2 + 1))))
set_option maxRecDepth 100000 in
set_option maxHeartbeats 4000000 in
theorem lX0_grimeOfAll_4 {β : zz_B} {Γ : zz_X} {u : Nat → Nat} {post : Int32 → Prop} {S : HSt} (g : zG β 3 Γ cX0_grimeOfAll RX0 0 0) (hR : zR β Γ (some .int) (fun r w => ∃ v : Int32, r = some (.int v) ∧ w = ((hW β u) S) ∧ post v)) : ∀ (f0 : Nat) (x1 : Int32) (x2 : Int32) , wX0_grimeOfAll_4 post S f0 x1 x2 → zV β 3 Γ ((hW β u) S) 4 [(0, .ref (u 0)), (1, .int x1), (2, .int x2)] [] := by
  intro f0
  induction f0 with
  | zero => intro x1 x2 h; exact h.elim
  | succ f0 ih0 =>
    intro x1 x2 h
    rw [wX0_grimeOfAll_4] at h
    refine zv_iload_n (pc := 4) g dX0_grimeOfAll_4 2 rfl rfl ?_
    refine zv_aload_n (pc := 5) g dX0_grimeOfAll_5 0 rfl rfl ?_
    refine zv_get (pc := 6) g fl_X0_37 0 rfl rfl dX0_grimeOfAll_6 ?_
    refine zv_icmp_ge (pc := 9) 27 g dX0_grimeOfAll_9 rfl (fun c1 => ?_) (fun c1 => ?_)
    · replace h := h.1 c1
      refine zv_iload_n (pc := 27) g dX0_grimeOfAll_27 1 rfl rfl ?_
      exact zv_iret (pc := 28) g hR dX0_grimeOfAll_28 ⟨_, rfl, rfl, h⟩
    · replace h := h.2 c1
      refine zv_iload_n (pc := 12) g dX0_grimeOfAll_12 1 rfl rfl ?_
      refine zv_aload_n (pc := 13) g dX0_grimeOfAll_13 0 rfl rfl ?_
      refine zv_get (pc := 14) g fl_X0_24 0 rfl rfl dX0_grimeOfAll_14 ?_
      refine zv_iload_n (pc := 17) g dX0_grimeOfAll_17 2 rfl rfl ?_
      obtain ⟨hi, h⟩ := h
      refine zv_iald (pc := 18) g 5 rfl hi dX0_grimeOfAll_18 ?_
      refine zv_iadd (pc := 19) g dX0_grimeOfAll_19 ?_
      refine zv_topi (fun y2 ey2 => ?_)
      replace h := h y2 ey2
      refine zv_istore_n (pc := 20) 1 [(1, .int y2), (0, .ref (u 0)), (2, .int x2)] g dX0_grimeOfAll_20 rfl (by decide) rfl ?_
      refine zv_iinc (pc := 21) 1 [(2, .int (x2 + 1)), (1, .int y2), (0, .ref (u 0))] g dX0_grimeOfAll_21 2 rfl (by decide) (by decide) rfl ?_
      refine zv_goto (pc := 24) 4 g dX0_grimeOfAll_24 rfl ?_
      refine zv_sub [2, 1, 0] rfl ?_
      exact ih0 _ _ h
def wX0_grimeOfAll (post : Int32 → Prop) (S : HSt) : Prop := ∃ f3 : Nat, wX0_grimeOfAll_4 post S f3 0 0
set_option maxRecDepth 100000 in
set_option maxHeartbeats 4000000 in
theorem ctX0_grimeOfAll {β : zz_B} {u : Nat → Nat} {post : Int32 → Prop} {S : HSt} (h : wX0_grimeOfAll post S) : zCp β yX0_grimeOfAll cX0_grimeOfAll 3 (some .int) 0 0 [.ref (u 0)] ((hW β u) S) post := by
  unfold wX0_grimeOfAll at h
  unfold zCp
  refine zC.of (by decide) (Nat.le_of_ble_eq_true rfl) ?_
  intro Γ g hR
  show zV β 3 Γ ((hW β u) S) 0 [(0, .ref (u 0))] []
  refine zv_iconst (pc := 0) g dX0_grimeOfAll_0 (v := 0) (by decide) ?_
  refine zv_istore_n (pc := 1) 1 [(1, .int 0), (0, .ref (u 0))] g dX0_grimeOfAll_1 rfl (by decide) rfl ?_
  refine zv_iconst (pc := 2) g dX0_grimeOfAll_2 (v := 0) (by decide) ?_
  refine zv_istore_n (pc := 3) 2 [(2, .int 0), (1, .int 0), (0, .ref (u 0))] g dX0_grimeOfAll_3 rfl (by decide) rfl ?_
  obtain ⟨f3, h⟩ := h
  refine zv_sub [2, 1, 0] rfl ?_
  exact lX0_grimeOfAll_4 g hR f3 _ _ h
