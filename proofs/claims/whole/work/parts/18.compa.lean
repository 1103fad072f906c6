def wX4_within (post : Int32 → Prop) (x0 : Int32) (x1 : Int32) (x2 : Int32) : Prop := (x0 < x1 → post 0) ∧ (¬ x0 < x1 → (x2 < x0 → post 0) ∧ (¬ x2 < x0 → post 1))
set_option maxRecDepth 100000 in
set_option maxHeartbeats 4000000 in
theorem ctX4_within {β : zz_B} {post : Int32 → Prop} {x0 : Int32} {x1 : Int32} {x2 : Int32} (h : wX4_within post x0 x1 x2) : zCp β yX4_within cX4_within 3 (some .boolean) 0 0 [.int x0, .int x1, .int x2] [] post := by
  unfold wX4_within at h
  unfold zCp
  refine zC.of (by decide) (Nat.le_of_ble_eq_true rfl) ?_
  intro Γ g hR
  show zV β 3 Γ [] 0 [(0, .int x0), (1, .int x1), (2, .int x2)] []
  refine zv_iload_n (pc := 0) g dX4_within_0 0 rfl rfl ?_
  refine zv_iload_n (pc := 1) g dX4_within_1 1 rfl rfl ?_
  refine zv_icmp_lt (pc := 2) 14 g dX4_within_2 rfl (fun c1 => ?_) (fun c1 => ?_)
  · replace h := h.1 c1
    refine zv_iconst (pc := 14) g dX4_within_14 (v := 0) (by decide) ?_
    exact zv_zret (pc := 15) g hR (by decide) dX4_within_15 ⟨_, rfl, rfl, h⟩
  · replace h := h.2 c1
    refine zv_iload_n (pc := 5) g dX4_within_5 0 rfl rfl ?_
    refine zv_iload_n (pc := 6) g dX4_within_6 2 rfl rfl ?_
    refine zv_icmp_gt (pc := 7) 14 g dX4_within_7 rfl (fun c2 => ?_) (fun c2 => ?_)
    · replace h := h.1 c2
      refine zv_iconst (pc := 14) g dX4_within_14 (v := 0) (by decide) ?_
      exact zv_zret (pc := 15) g hR (by decide) dX4_within_15 ⟨_, rfl, rfl, h⟩
    · replace h := h.2 c2
      refine zv_iconst (pc := 10) g dX4_within_10 (v := 1) (by decide) ?_
      refine zv_goto (pc := 11) 15 g dX4_within_11 rfl ?_
      exact zv_zret (pc := 15) g hR (by decide) dX4_within_15 ⟨_, rfl, rfl, h⟩
def wX4_finding (post : Int32 → (XSt) → Prop) (S : XSt) (x1 : Int32) : Prop := ∀ y1 : Int32, y1 = ((-1000000001) - x1) → ((y1 < 0 → post x1 S) ∧ (¬ y1 < 0 → ((7 : Int32) ≤ y1 → post x1 S) ∧ (¬ (7 : Int32) ≤ y1 → vp_in y1 7 ∧ (vp_in y1 7 ∧ (∀ S4 : XSt, S4 = (x_found_s S (upd (x_found S) (Int32.toNatClampNeg y1) ((x_found S (Int32.toNatClampNeg y1)) + 1))) → (post x1 S4))))))
set_option maxRecDepth 100000 in
set_option maxHeartbeats 4000000 in
theorem ctX4_finding {β : zz_B} {b : Nat → Nat} {post : Int32 → (XSt) → Prop} {S : XSt} {x1 : Int32} (h : wX4_finding post S x1) : zCi β yX4_finding cX4_finding 3 (some .int) 0 0 [.ref (b 0), .int x1] (xW β b) S post := by
  unfold wX4_finding at h
  unfold zCi
  refine zC.of (by decide) (Nat.le_of_ble_eq_true rfl) ?_
  intro Γ g hR
  show zV β 3 Γ ((xW β b) S) 0 [(0, .ref (b 0)), (1, .int x1)] []
  refine zv_ldc (pc := 0) g wd_217 dX4_finding_0 ?_
  refine zv_iload_n (pc := 2) g dX4_finding_2 1 rfl rfl ?_
  refine zv_isub (pc := 3) g dX4_finding_3 ?_
  refine zv_topi (fun y1 ey1 => ?_)
  replace h := h y1 ey1
  refine zv_istore_n (pc := 4) 2 [(2, .int y1), (0, .ref (b 0)), (1, .int x1)] g dX4_finding_4 rfl (by decide) rfl ?_
  refine zv_iload_n (pc := 5) g dX4_finding_5 0 rfl rfl ?_
  refine zv_if_lt (pc := 6) 25 g dX4_finding_6 rfl (fun c2 => ?_) (fun c2 => ?_)
  · replace h := h.1 c2
    refine zv_iload_n (pc := 25) g dX4_finding_25 2 rfl rfl ?_
    exact zv_iret (pc := 26) g hR dX4_finding_26 ⟨_, _, rfl, rfl, h⟩
  · replace h := h.2 c2
    refine zv_iload_n (pc := 9) g dX4_finding_9 0 rfl rfl ?_
    refine zv_bipush (pc := 10) g dX4_finding_10 (v := 7) (by decide) ?_
    refine zv_icmp_ge (pc := 12) 25 g dX4_finding_12 rfl (fun c3 => ?_) (fun c3 => ?_)
    · replace h := h.1 c3
      refine zv_iload_n (pc := 25) g dX4_finding_25 2 rfl rfl ?_
      exact zv_iret (pc := 26) g hR dX4_finding_26 ⟨_, _, rfl, rfl, h⟩
    · replace h := h.2 c3
      refine zv_aload_n (pc := 15) g dX4_finding_15 1 rfl rfl ?_
      refine zv_get (pc := 16) g fl_X4_38 0 rfl rfl dX4_finding_16 ?_
      refine zv_iload_n (pc := 19) g dX4_finding_19 0 rfl rfl ?_
      refine zv_dup2 (pc := 20) g dX4_finding_20 rfl rfl ?_
      obtain ⟨hi, h⟩ := h
      refine zv_iald (pc := 21) g 40 rfl hi dX4_finding_21 ?_
      refine zv_iconst (pc := 22) g dX4_finding_22 (v := 1) (by decide) ?_
      refine zv_iadd (pc := 23) g dX4_finding_23 ?_
      obtain ⟨hi, h⟩ := h
      refine zv_ials (pc := 24) ((xW β b) (x_found_s S (upd (x_found S) (Int32.toNatClampNeg y1) ((x_found S (Int32.toNatClampNeg y1)) + 1)))) g 40 rfl hi rfl dX4_finding_24 ?_
      refine zv_nmS (wf := (xW β b)) (fun S4 eS4 => ?_)
      replace h := h S4 eS4
      refine zv_iload_n (pc := 25) g dX4_finding_25 2 rfl rfl ?_
      exact zv_iret (pc := 26) g hR dX4_finding_26 ⟨_, _, rfl, rfl, h⟩
def wX4_falls (post : Int32 → (XSt) → Prop) (S : XSt) (x1 : Int32) : Prop := wX4_within (fun v1 => (¬ v1 = 0 → ∀ y3 : Int32, y3 = (h_fall (x_live S)) → (∀ S4 : XSt, S4 = (x_live_s S (h_fall_s (x_live S) x1)) → (post y3 S4))) ∧ (v1 = 0 → wX4_finding (fun v5 S6 => post v5 S6) S (-1000000001))) x1 0 20
set_option maxRecDepth 100000 in
set_option maxHeartbeats 4000000 in
theorem ctX4_falls {β : zz_B} {b : Nat → Nat} {post : Int32 → (XSt) → Prop} {S : XSt} {x1 : Int32} (h : wX4_falls post S x1) : zCi β yX4_falls cX4_falls 3 (some .int) 1 22 [.ref (b 0), .int x1] (xW β b) S post := by
  unfold wX4_falls at h
  unfold zCi
  refine zC.of (by decide) (Nat.le_of_ble_eq_true rfl) ?_
  intro Γ g hR
  show zV β 3 Γ ((xW β b) S) 0 [(0, .ref (b 0)), (1, .int x1)] []
  refine zv_iload_n (pc := 0) g dX4_falls_0 1 rfl rfl ?_
  refine zv_iconst (pc := 1) g dX4_falls_1 (v := 0) (by decide) ?_
  refine zv_bipush (pc := 2) g dX4_falls_2 (v := 20) (by decide) ?_
  refine zv_cSp (pc := 4) g cw_X4_47 (ctX4_within h) (by decide) (by decide) zz_pN rfl rfl (Nat.le_of_ble_eq_true rfl) dX4_falls_4 (fun v1 h => ?_)
  refine zv_if_ne (pc := 7) 17 g dX4_falls_7 rfl (fun c2 => ?_) (fun c2 => ?_)
  · replace h := h.1 c2
    refine zv_aload_n (pc := 17) g dX4_falls_17 0 rfl rfl ?_
    refine zv_get (pc := 18) g fl_X4_12 0 rfl rfl dX4_falls_18 ?_
    refine zv_get (pc := 21) g fl_X4_56 1 rfl rfl dX4_falls_21 ?_
    refine zv_topi (fun y3 ey3 => ?_)
    replace h := h y3 ey3
    refine zv_istore_n (pc := 24) 2 [(2, .int y3), (0, .ref (b 0)), (1, .int x1)] g dX4_falls_24 rfl (by decide) rfl ?_
    refine zv_aload_n (pc := 25) g dX4_falls_25 1 rfl rfl ?_
    refine zv_get (pc := 26) g fl_X4_12 0 rfl rfl dX4_falls_26 ?_
    refine zv_iload_n (pc := 29) g dX4_falls_29 2 rfl rfl ?_
    refine zv_put (pc := 30) ((xW β b) (x_live_s S (h_fall_s (x_live S) x1))) g fp_X4_56 1 rfl rfl rfl (Nat.le_of_ble_eq_true rfl) rfl dX4_falls_30 ?_
    refine zv_nmS (wf := (xW β b)) (fun S4 eS4 => ?_)
    replace h := h S4 eS4
    refine zv_iload_n (pc := 33) g dX4_falls_33 0 rfl rfl ?_
    exact zv_iret (pc := 34) g hR dX4_falls_34 ⟨_, _, rfl, rfl, h⟩
  · replace h := h.2 c2
    refine zv_aload_n (pc := 10) g dX4_falls_10 0 rfl rfl ?_
    refine zv_ldc (pc := 11) g wd_217 dX4_falls_11 ?_
    refine zv_cVi (pc := 13) g cw_X4_52 (ctX4_finding h) (by decide) (by decide) zz_p0 (xW β b) (fun T => zz_p1 T) (q := 0) rfl rfl rfl rfl rfl (Nat.le_of_ble_eq_true rfl) dX4_falls_13 (fun v5 S6 h => ?_)
    exact zv_iret (pc := 16) g hR dX4_falls_16 ⟨_, _, rfl, rfl, h⟩
def wX4_isRoom (post : Int32 → Prop) (x0 : Int32) : Prop := wX4_within (fun v1 => (v1 = 0 ∨ v1 = 1) ∧ post v1) x0 0 7
set_option maxRecDepth 100000 in
set_option maxHeartbeats 4000000 in
theorem ctX4_isRoom {β : zz_B} {post : Int32 → Prop} {x0 : Int32} (h : wX4_isRoom post x0) : zCp β yX4_isRoom cX4_isRoom 1 (some .boolean) 1 22 [.int x0] [] post := by
  unfold wX4_isRoom at h
  unfold zCp
  refine zC.of (by decide) (Nat.le_of_ble_eq_true rfl) ?_
  intro Γ g hR
  show zV β 1 Γ [] 0 [(0, .int x0)] []
  refine zv_iload_n (pc := 0) g dX4_isRoom_0 0 rfl rfl ?_
  refine zv_iconst (pc := 1) g dX4_isRoom_1 (v := 0) (by decide) ?_
  refine zv_bipush (pc := 2) g dX4_isRoom_2 (v := 7) (by decide) ?_
  refine zv_cSp (pc := 4) g cw_X4_47 (ctX4_within h) (by decide) (by decide) zz_pN rfl rfl (Nat.le_of_ble_eq_true rfl) dX4_isRoom_4 (fun v1 h => ?_)
  exact zv_zret (pc := 7) g hR (zz_nb h.1).1 dX4_isRoom_7 ⟨_, rfl, rfl, h.2⟩
def wX4_room_37 (post : Int32 → (XSt) → Prop) (S : XSt) (x1 : Int32) (x2 : Int32) (x3 : Int32) (s0 : Int32) (s1 : Int32) (s2 : Int32) : Prop := wX4_within (fun v8 => (¬ v8 = 0 → (¬ x2 = 0 → vp_in x1 8 ∧ (∀ y11 : Int32, y11 = (h_memories (x_live S) (Int32.toNatClampNeg x1)) → (vp_in x1 8 ∧ (∀ S12 : XSt, S12 = (x_live_s S (h_memories_s (x_live S) (upd (h_memories (x_live S)) (Int32.toNatClampNeg x1) x3))) → (post y11 S12))))) ∧ (x2 = 0 → vp_in x1 8 ∧ (∀ y13 : Int32, y13 = (h_dust (x_live S) (Int32.toNatClampNeg x1)) → (vp_in x1 8 ∧ (∀ S14 : XSt, S14 = (x_live_s S (h_dust_s (x_live S) (upd (h_dust (x_live S)) (Int32.toNatClampNeg x1) x3))) → (post y13 S14)))))) ∧ (v8 = 0 → wX4_finding (fun v15 S16 => post v15 S16) S (-1000000001))) s2 s1 s0
set_option maxRecDepth 100000 in
set_option maxHeartbeats 4000000 in
theorem lX4_room_37 {β : zz_B} {Γ : zz_X} {b : Nat → Nat} {post : Int32 → (XSt) → Prop} (g : zG β 6 Γ cX4_room RX4 2 42) (hR : zR β Γ (some .int) (fun r w => ∃ (v : Int32) (T : XSt), r = some (.int v) ∧ w = (xW β b) T ∧ post v T)) (S : XSt) (x1 : Int32) (x2 : Int32) (x3 : Int32) (s0 : Int32) (s1 : Int32) (s2 : Int32) (h : wX4_room_37 post S x1 x2 x3 s0 s1 s2) : zV β 6 Γ ((xW β b) S) 37 [(0, .ref (b 0)), (1, .int x1), (2, .int x2), (3, .int x3)] [.int s0, .int s1, .int s2] := by
  unfold wX4_room_37 at h
  refine zv_cSp (pc := 37) g cw_X4_47 (ctX4_within h) (by decide) (by decide) zz_pN rfl rfl (Nat.le_of_ble_eq_true rfl) dX4_room_37 (fun v8 h => ?_)
  refine zv_if_ne (pc := 40) 50 g dX4_room_40 rfl (fun c9 => ?_) (fun c9 => ?_)
  · replace h := h.1 c9
    refine zv_iload_n (pc := 50) g dX4_room_50 2 rfl rfl ?_
    refine zv_if_ne (pc := 51) 64 g dX4_room_51 rfl (fun c10 => ?_) (fun c10 => ?_)
    · replace h := h.1 c10
      refine zv_aload_n (pc := 64) g dX4_room_64 0 rfl rfl ?_
      refine zv_get (pc := 65) g fl_X4_12 0 rfl rfl dX4_room_65 ?_
      refine zv_get (pc := 68) g fl_X4_67 1 rfl rfl dX4_room_68 ?_
      refine zv_astore (pc := 71) [(4, .ref (b 3)), (0, .ref (b 0)), (1, .int x1), (2, .int x2), (3, .int x3)] g dX4_room_71 (by decide) rfl ?_
      refine zv_aload (pc := 73) g dX4_room_73 0 rfl ?_
      refine zv_iload_n (pc := 75) g dX4_room_75 2 rfl rfl ?_
      obtain ⟨hi, h⟩ := h
      refine zv_iald (pc := 76) g 3 rfl hi dX4_room_76 ?_
      refine zv_topi (fun y11 ey11 => ?_)
      replace h := h y11 ey11
      refine zv_istore (pc := 77) [(5, .int y11), (4, .ref (b 3)), (0, .ref (b 0)), (1, .int x1), (2, .int x2), (3, .int x3)] g dX4_room_77 (by decide) rfl ?_
      refine zv_aload (pc := 79) g dX4_room_79 1 rfl ?_
      refine zv_iload_n (pc := 81) g dX4_room_81 3 rfl rfl ?_
      refine zv_iload_n (pc := 82) g dX4_room_82 5 rfl rfl ?_
      obtain ⟨hi, h⟩ := h
      refine zv_ials (pc := 83) ((xW β b) (x_live_s S (h_memories_s (x_live S) (upd (h_memories (x_live S)) (Int32.toNatClampNeg x1) x3)))) g 3 rfl hi rfl dX4_room_83 ?_
      refine zv_nmS (wf := (xW β b)) (fun S12 eS12 => ?_)
      replace h := h S12 eS12
      refine zv_iload (pc := 84) g dX4_room_84 0 rfl ?_
      exact zv_iret (pc := 86) g hR dX4_room_86 ⟨_, _, rfl, rfl, h⟩
    · replace h := h.2 c10
      refine zv_aload_n (pc := 54) g dX4_room_54 0 rfl rfl ?_
      refine zv_get (pc := 55) g fl_X4_12 0 rfl rfl dX4_room_55 ?_
      refine zv_get (pc := 58) g fl_X4_64 1 rfl rfl dX4_room_58 ?_
      refine zv_goto (pc := 61) 71 g dX4_room_61 rfl ?_
      refine zv_astore (pc := 71) [(4, .ref (b 2)), (0, .ref (b 0)), (1, .int x1), (2, .int x2), (3, .int x3)] g dX4_room_71 (by decide) rfl ?_
      refine zv_aload (pc := 73) g dX4_room_73 0 rfl ?_
      refine zv_iload_n (pc := 75) g dX4_room_75 2 rfl rfl ?_
      obtain ⟨hi, h⟩ := h
      refine zv_iald (pc := 76) g 2 rfl hi dX4_room_76 ?_
      refine zv_topi (fun y13 ey13 => ?_)
      replace h := h y13 ey13
      refine zv_istore (pc := 77) [(5, .int y13), (4, .ref (b 2)), (0, .ref (b 0)), (1, .int x1), (2, .int x2), (3, .int x3)] g dX4_room_77 (by decide) rfl ?_
      refine zv_aload (pc := 79) g dX4_room_79 1 rfl ?_
      refine zv_iload_n (pc := 81) g dX4_room_81 3 rfl rfl ?_
      refine zv_iload_n (pc := 82) g dX4_room_82 5 rfl rfl ?_
      obtain ⟨hi, h⟩ := h
      refine zv_ials (pc := 83) ((xW β b) (x_live_s S (h_dust_s (x_live S) (upd (h_dust (x_live S)) (Int32.toNatClampNeg x1) x3)))) g 2 rfl hi rfl dX4_room_83 ?_
      refine zv_nmS (wf := (xW β b)) (fun S14 eS14 => ?_)
      replace h := h S14 eS14
      refine zv_iload (pc := 84) g dX4_room_84 0 rfl ?_
      exact zv_iret (pc := 86) g hR dX4_room_86 ⟨_, _, rfl, rfl, h⟩
  · replace h := h.2 c9
    refine zv_aload_n (pc := 43) g dX4_room_43 0 rfl rfl ?_
    refine zv_ldc (pc := 44) g wd_217 dX4_room_44 ?_
    refine zv_cVi (pc := 46) g cw_X4_52 (ctX4_finding h) (by decide) (by decide) zz_p0 (xW β b) (fun T => zz_p1 T) (q := 0) rfl rfl rfl rfl rfl (Nat.le_of_ble_eq_true rfl) dX4_room_46 (fun v15 S16 h => ?_)
    exact zv_iret (pc := 49) g hR dX4_room_49 ⟨_, _, rfl, rfl, h⟩
def wX4_room (post : Int32 → (XSt) → Prop) (S : XSt) (x1 : Int32) (x2 : Int32) (x3 : Int32) : Prop := wX4_isRoom (fun v1 => (v1 = 0 → wX4_finding (fun v3 S4 => post v3 S4) S (-1000000001)) ∧ (¬ v1 = 0 → wX4_within (fun v5 => (¬ v5 = 0 → (¬ x2 = 0 → wX4_room_37 post S x1 x2 x3 1023 0 x3) ∧ (x2 = 0 → wX4_room_37 post S x1 x2 x3 99 0 x3)) ∧ (v5 = 0 → wX4_finding (fun v17 S18 => post v17 S18) S (-1000000001))) x2 0 1)) x1
set_option maxRecDepth 100000 in
set_option maxHeartbeats 4000000 in
theorem ctX4_room {β : zz_B} {b : Nat → Nat} {post : Int32 → (XSt) → Prop} {S : XSt} {x1 : Int32} {x2 : Int32} {x3 : Int32} (h : wX4_room post S x1 x2 x3) : zCi β yX4_room cX4_room 6 (some .int) 2 42 [.ref (b 0), .int x1, .int x2, .int x3] (xW β b) S post := by
  unfold wX4_room at h
  unfold zCi
  refine zC.of (by decide) (Nat.le_of_ble_eq_true rfl) ?_
  intro Γ g hR
  show zV β 6 Γ ((xW β b) S) 0 [(0, .ref (b 0)), (1, .int x1), (2, .int x2), (3, .int x3)] []
  refine zv_iload_n (pc := 0) g dX4_room_0 1 rfl rfl ?_
  refine zv_cSp (pc := 1) g cw_X4_60 (ctX4_isRoom h) (by decide) (by decide) zz_pN rfl rfl (Nat.le_of_ble_eq_true rfl) dX4_room_1 (fun v1 h => ?_)
  refine zv_if_eq (pc := 4) 16 g dX4_room_4 rfl (fun c2 => ?_) (fun c2 => ?_)
  · replace h := h.1 c2
    refine zv_aload_n (pc := 16) g dX4_room_16 0 rfl rfl ?_
    refine zv_ldc (pc := 17) g wd_217 dX4_room_17 ?_
    refine zv_cVi (pc := 19) g cw_X4_52 (ctX4_finding h) (by decide) (by decide) zz_p0 (xW β b) (fun T => zz_p1 T) (q := 0) rfl rfl rfl rfl rfl (Nat.le_of_ble_eq_true rfl) dX4_room_19 (fun v3 S4 h => ?_)
    exact zv_iret (pc := 22) g hR dX4_room_22 ⟨_, _, rfl, rfl, h⟩
  · replace h := h.2 c2
    refine zv_iload_n (pc := 7) g dX4_room_7 2 rfl rfl ?_
    refine zv_iconst (pc := 8) g dX4_room_8 (v := 0) (by decide) ?_
    refine zv_iconst (pc := 9) g dX4_room_9 (v := 1) (by decide) ?_
    refine zv_cSp (pc := 10) g cw_X4_47 (ctX4_within h) (by decide) (by decide) zz_pN rfl rfl (Nat.le_of_ble_eq_true rfl) dX4_room_10 (fun v5 h => ?_)
    refine zv_if_ne (pc := 13) 23 g dX4_room_13 rfl (fun c6 => ?_) (fun c6 => ?_)
    · replace h := h.1 c6
      refine zv_iload_n (pc := 23) g dX4_room_23 3 rfl rfl ?_
      refine zv_iconst (pc := 24) g dX4_room_24 (v := 0) (by decide) ?_
      refine zv_iload_n (pc := 25) g dX4_room_25 2 rfl rfl ?_
      refine zv_if_ne (pc := 26) 34 g dX4_room_26 rfl (fun c7 => ?_) (fun c7 => ?_)
      · replace h := h.1 c7
        refine zv_sipush (pc := 34) g dX4_room_34 (v := 1023) (by decide) ?_
        refine zv_sub [0, 1, 2, 3] rfl ?_
        exact lX4_room_37 g hR _ _ _ _ _ _ _ h
      · replace h := h.2 c7
        refine zv_bipush (pc := 29) g dX4_room_29 (v := 99) (by decide) ?_
        refine zv_goto (pc := 31) 37 g dX4_room_31 rfl ?_
        refine zv_sub [0, 1, 2, 3] rfl ?_
        exact lX4_room_37 g hR _ _ _ _ _ _ _ h
    · replace h := h.2 c6
      refine zv_aload_n (pc := 16) g dX4_room_16 0 rfl rfl ?_
      refine zv_ldc (pc := 17) g wd_217 dX4_room_17 ?_
      refine zv_cVi (pc := 19) g cw_X4_52 (ctX4_finding h) (by decide) (by decide) zz_p0 (xW β b) (fun T => zz_p1 T) (q := 0) rfl rfl rfl rfl rfl (Nat.le_of_ble_eq_true rfl) dX4_room_19 (fun v17 S18 h => ?_)
      exact zv_iret (pc := 22) g hR dX4_room_22 ⟨_, _, rfl, rfl, h⟩
def wX4_roomOf (post : Int32 → (XSt) → Prop) (S : XSt) (x1 : Int32) (x2 : Int32) : Prop := wX4_isRoom (fun v1 => (¬ v1 = 0 → (x2 = 0 → vp_in x1 8 ∧ (post (h_dust (x_live S) (Int32.toNatClampNeg x1)) S)) ∧ (x2 = 1 → vp_in x1 8 ∧ (post (h_memories (x_live S) (Int32.toNatClampNeg x1)) S)) ∧ (x2 = 2 → wX0_whoIsIn (fun v4 => post v4 S) (x_live S) x1) ∧ (((x2).toInt < 0 ∨ 2 < (x2).toInt) → wX4_finding (fun v5 S6 => post v5 S6) S (-1000000001))) ∧ (v1 = 0 → wX4_finding (fun v7 S8 => post v7 S8) S (-1000000001))) x1
set_option maxRecDepth 100000 in
set_option maxHeartbeats 4000000 in
theorem ctX4_roomOf {β : zz_B} {b : Nat → Nat} {post : Int32 → (XSt) → Prop} {S : XSt} {x1 : Int32} {x2 : Int32} (h : wX4_roomOf post S x1 x2) : zCi β yX4_roomOf cX4_roomOf 3 (some .int) 2 44 [.ref (b 0), .int x1, .int x2] (xW β b) S post := by
  unfold wX4_roomOf at h
  unfold zCi
  refine zC.of (by decide) (Nat.le_of_ble_eq_true rfl) ?_
  intro Γ g hR
  show zV β 3 Γ ((xW β b) S) 0 [(0, .ref (b 0)), (1, .int x1), (2, .int x2)] []
  refine zv_iload_n (pc := 0) g dX4_roomOf_0 1 rfl rfl ?_
  refine zv_cSp (pc := 1) g cw_X4_60 (ctX4_isRoom h) (by decide) (by decide) zz_pN rfl rfl (Nat.le_of_ble_eq_true rfl) dX4_roomOf_1 (fun v1 h => ?_)
  refine zv_if_ne (pc := 4) 14 g dX4_roomOf_4 rfl (fun c2 => ?_) (fun c2 => ?_)
  · replace h := h.1 c2
    refine zv_iload_n (pc := 14) g dX4_roomOf_14 2 rfl rfl ?_
    rcases zz_ts_0_2 x2 with c3 | c3 | c3 | c3
    · refine zv_tblIn (pc := 15) 0 40 g dX4_roomOf_15 c3 (by decide) (by decide) rfl rfl ?_
      replace h := h.1 c3
      refine zv_aload_n (pc := 40) g dX4_roomOf_40 0 rfl rfl ?_
      refine zv_get (pc := 41) g fl_X4_12 0 rfl rfl dX4_roomOf_41 ?_
      refine zv_get (pc := 44) g fl_X4_64 1 rfl rfl dX4_roomOf_44 ?_
      refine zv_iload_n (pc := 47) g dX4_roomOf_47 1 rfl rfl ?_
      obtain ⟨hi, h⟩ := h
      refine zv_iald (pc := 48) g 2 rfl hi dX4_roomOf_48 ?_
      exact zv_iret (pc := 49) g hR dX4_roomOf_49 ⟨_, _, rfl, rfl, h⟩
    · refine zv_tblIn (pc := 15) 1 50 g dX4_roomOf_15 c3 (by decide) (by decide) rfl rfl ?_
      replace h := h.2.1 c3
      refine zv_aload_n (pc := 50) g dX4_roomOf_50 0 rfl rfl ?_
      refine zv_get (pc := 51) g fl_X4_12 0 rfl rfl dX4_roomOf_51 ?_
      refine zv_get (pc := 54) g fl_X4_67 1 rfl rfl dX4_roomOf_54 ?_
      refine zv_iload_n (pc := 57) g dX4_roomOf_57 1 rfl rfl ?_
      obtain ⟨hi, h⟩ := h
      refine zv_iald (pc := 58) g 3 rfl hi dX4_roomOf_58 ?_
      exact zv_iret (pc := 59) g hR dX4_roomOf_59 ⟨_, _, rfl, rfl, h⟩
    · refine zv_tblIn (pc := 15) 2 60 g dX4_roomOf_15 c3 (by decide) (by decide) rfl rfl ?_
      replace h := h.2.2.1 c3
      refine zv_aload_n (pc := 60) g dX4_roomOf_60 0 rfl rfl ?_
      refine zv_get (pc := 61) g fl_X4_12 0 rfl rfl dX4_roomOf_61 ?_
      refine zv_iload_n (pc := 64) g dX4_roomOf_64 1 rfl rfl ?_
      refine zv_cVp (pc := 65) g cw_X4_70 (ctX0_whoIsIn h) (by decide) (by decide) (pmX_live β b S) (q := 0) rfl rfl rfl rfl rfl (Nat.le_of_ble_eq_true rfl) dX4_roomOf_65 (fun v4 h => ?_)
      exact zv_iret (pc := 68) g hR dX4_roomOf_68 ⟨_, _, rfl, rfl, h⟩
    · refine zv_tblOut (pc := 15) 69 g dX4_roomOf_15 c3 rfl ?_
      replace h := h.2.2.2 c3
      refine zv_aload_n (pc := 69) g dX4_roomOf_69 0 rfl rfl ?_
      refine zv_ldc (pc := 70) g wd_217 dX4_roomOf_70 ?_
      refine zv_cVi (pc := 72) g cw_X4_52 (ctX4_finding h) (by decide) (by decide) zz_p0 (xW β b) (fun T => zz_p1 T) (q := 0) rfl rfl rfl rfl rfl (Nat.le_of_ble_eq_true rfl) dX4_roomOf_72 (fun v5 S6 h => ?_)
      exact zv_iret (pc := 75) g hR dX4_roomOf_75 ⟨_, _, rfl, rfl, h⟩
  · replace h := h.2 c2
    refine zv_aload_n (pc := 7) g dX4_roomOf_7 0 rfl rfl ?_
    refine zv_ldc (pc := 8) g wd_217 dX4_roomOf_8 ?_
    refine zv_cVi (pc := 10) g cw_X4_52 (ctX4_finding h) (by decide) (by decide) zz_p0 (xW β b) (fun T => zz_p1 T) (q := 0) rfl rfl rfl rfl rfl (Nat.le_of_ble_eq_true rfl) dX4_roomOf_10 (fun v7 S8 h => ?_)
    exact zv_iret (pc := 13) g hR dX4_roomOf_13 ⟨_, _, rfl, rfl, h⟩
def wX4_now (post : Int32 → (XSt) → Prop) (S : XSt) (x1 : Int32) : Prop := (x1 = 0 → post (h_day (x_live S)) S) ∧ (x1 = 1 → post (h_fall (x_live S)) S) ∧ (x1 = 2 → wX0_dustOfAll (fun v2 => post v2 S) (x_live S)) ∧ (x1 = 3 → wX0_memoriesEverywhere (fun v3 => post v3 S) (x_live S)) ∧ (x1 = 4 → wX0_memoriesAnywhere (fun v4 => post v4 S) (x_live S)) ∧ (x1 = 5 → wX0_memoriesHeld (fun v5 => post v5 S) (x_live S)) ∧ (((x1).toInt < 0 ∨ 5 < (x1).toInt) → wX4_finding (fun v6 S7 => post v6 S7) S (-1000000001))
set_option maxRecDepth 100000 in
set_option maxHeartbeats 4000000 in
theorem ctX4_now {β : zz_B} {b : Nat → Nat} {post : Int32 → (XSt) → Prop} {S : XSt} {x1 : Int32} (h : wX4_now post S x1) : zCi β yX4_now cX4_now 2 (some .int) 1 22 [.ref (b 0), .int x1] (xW β b) S post := by
  unfold wX4_now at h
  unfold zCi
  refine zC.of (by decide) (Nat.le_of_ble_eq_true rfl) ?_
  intro Γ g hR
  show zV β 2 Γ ((xW β b) S) 0 [(0, .ref (b 0)), (1, .int x1)] []
  refine zv_iload_n (pc := 0) g dX4_now_0 1 rfl rfl ?_
  rcases zz_ts_0_5 x1 with c1 | c1 | c1 | c1 | c1 | c1 | c1
  · refine zv_tblIn (pc := 1) 0 40 g dX4_now_1 c1 (by decide) (by decide) rfl rfl ?_
    replace h := h.1 c1
    refine zv_aload_n (pc := 40) g dX4_now_40 0 rfl rfl ?_
    refine zv_get (pc := 41) g fl_X4_12 0 rfl rfl dX4_now_41 ?_
    refine zv_get (pc := 44) g fl_X4_73 1 rfl rfl dX4_now_44 ?_
    exact zv_iret (pc := 47) g hR dX4_now_47 ⟨_, _, rfl, rfl, h⟩
  · refine zv_tblIn (pc := 1) 1 48 g dX4_now_1 c1 (by decide) (by decide) rfl rfl ?_
    replace h := h.2.1 c1
    refine zv_aload_n (pc := 48) g dX4_now_48 0 rfl rfl ?_
    refine zv_get (pc := 49) g fl_X4_12 0 rfl rfl dX4_now_49 ?_
    refine zv_get (pc := 52) g fl_X4_56 1 rfl rfl dX4_now_52 ?_
    exact zv_iret (pc := 55) g hR dX4_now_55 ⟨_, _, rfl, rfl, h⟩
  · refine zv_tblIn (pc := 1) 2 56 g dX4_now_1 c1 (by decide) (by decide) rfl rfl ?_
    replace h := h.2.2.1 c1
    refine zv_aload_n (pc := 56) g dX4_now_56 0 rfl rfl ?_
    refine zv_get (pc := 57) g fl_X4_12 0 rfl rfl dX4_now_57 ?_
    refine zv_cVp (pc := 60) g cw_X4_76 (ctX0_dustOfAll h) (by decide) (by decide) (pmX_live β b S) (q := 0) rfl rfl rfl rfl rfl (Nat.le_of_ble_eq_true rfl) dX4_now_60 (fun v2 h => ?_)
    exact zv_iret (pc := 63) g hR dX4_now_63 ⟨_, _, rfl, rfl, h⟩
  · refine zv_tblIn (pc := 1) 3 64 g dX4_now_1 c1 (by decide) (by decide) rfl rfl ?_
    replace h := h.2.2.2.1 c1
    refine zv_aload_n (pc := 64) g dX4_now_64 0 rfl rfl ?_
    refine zv_get (pc := 65) g fl_X4_12 0 rfl rfl dX4_now_65 ?_
    refine zv_cVp (pc := 68) g cw_X4_80 (ctX0_memoriesEverywhere h) (by decide) (by decide) (pmX_live β b S) (q := 0) rfl rfl rfl rfl rfl (Nat.le_of_ble_eq_true rfl) dX4_now_68 (fun v3 h => ?_)
    exact zv_iret (pc := 71) g hR dX4_now_71 ⟨_, _, rfl, rfl, h⟩
  · refine zv_tblIn (pc := 1) 4 72 g dX4_now_1 c1 (by decide) (by decide) rfl rfl ?_
    replace h := h.2.2.2.2.1 c1
    refine zv_aload_n (pc := 72) g dX4_now_72 0 rfl rfl ?_
    refine zv_get (pc := 73) g fl_X4_12 0 rfl rfl dX4_now_73 ?_
    refine zv_cVp (pc := 76) g cw_X4_83 (ctX0_memoriesAnywhere h) (by decide) (by decide) (pmX_live β b S) (q := 0) rfl rfl rfl rfl rfl (Nat.le_of_ble_eq_true rfl) dX4_now_76 (fun v4 h => ?_)
    exact zv_iret (pc := 79) g hR dX4_now_79 ⟨_, _, rfl, rfl, h⟩
  · refine zv_tblIn (pc := 1) 5 80 g dX4_now_1 c1 (by decide) (by decide) rfl rfl ?_
    replace h := h.2.2.2.2.2.1 c1
    refine zv_aload_n (pc := 80) g dX4_now_80 0 rfl rfl ?_
    refine zv_get (pc := 81) g fl_X4_12 0 rfl rfl dX4_now_81 ?_
    refine zv_cVp (pc := 84) g cw_X4_86 (ctX0_memoriesHeld h) (by decide) (by decide) (pmX_live β b S) (q := 0) rfl rfl rfl rfl rfl (Nat.le_of_ble_eq_true rfl) dX4_now_84 (fun v5 h => ?_)
    exact zv_iret (pc := 87) g hR dX4_now_87 ⟨_, _, rfl, rfl, h⟩
  · refine zv_tblOut (pc := 1) 88 g dX4_now_1 c1 rfl ?_
    replace h := h.2.2.2.2.2.2 c1
    refine zv_aload_n (pc := 88) g dX4_now_88 0 rfl rfl ?_
    refine zv_ldc (pc := 89) g wd_217 dX4_now_89 ?_
    refine zv_cVi (pc := 91) g cw_X4_52 (ctX4_finding h) (by decide) (by decide) zz_p0 (xW β b) (fun T => zz_p1 T) (q := 0) rfl rfl rfl rfl rfl (Nat.le_of_ble_eq_true rfl) dX4_now_91 (fun v6 S7 h => ?_)
    exact zv_iret (pc := 94) g hR dX4_now_94 ⟨_, _, rfl, rfl, h⟩
def wX4_isKind (post : Int32 → Prop) (x0 : Int32) : Prop := wX4_within (fun v1 => (v1 = 0 ∨ v1 = 1) ∧ post v1) x0 0 5
set_option maxRecDepth 100000 in
set_option maxHeartbeats 4000000 in
theorem ctX4_isKind {β : zz_B} {post : Int32 → Prop} {x0 : Int32} (h : wX4_isKind post x0) : zCp β yX4_isKind cX4_isKind 1 (some .boolean) 1 22 [.int x0] [] post := by
  unfold wX4_isKind at h
  unfold zCp
  refine zC.of (by decide) (Nat.le_of_ble_eq_true rfl) ?_
  intro Γ g hR
  show zV β 1 Γ [] 0 [(0, .int x0)] []
  refine zv_iload_n (pc := 0) g dX4_isKind_0 0 rfl rfl ?_
  refine zv_iconst (pc := 1) g dX4_isKind_1 (v := 0) (by decide) ?_
  refine zv_iconst (pc := 2) g dX4_isKind_2 (v := 5) (by decide) ?_
  refine zv_cSp (pc := 3) g cw_X4_47 (ctX4_within h) (by decide) (by decide) zz_pN rfl rfl (Nat.le_of_ble_eq_true rfl) dX4_isKind_3 (fun v1 h => ?_)
  exact zv_zret (pc := 6) g hR (zz_nb h.1).1 dX4_isKind_6 ⟨_, rfl, rfl, h.2⟩
def wX4_duster (post : Int32 → (XSt) → Prop) (S : XSt) (x1 : Int32) : Prop := wX4_isKind (fun v1 => (¬ v1 = 0 → ((h_dusters (x_live S)) < (8 : Int32) → wX0_addDuster (fun v4 S5 => ∀ S6 : XSt, S6 = (x_live_s S S5) → (post v4 S6)) (x_live S) x1) ∧ (¬ (h_dusters (x_live S)) < (8 : Int32) → wX4_finding (fun v7 S8 => post v7 S8) S (-1000000002))) ∧ (v1 = 0 → wX4_finding (fun v9 S10 => post v9 S10) S (-1000000001))) x1
set_option maxRecDepth 100000 in
set_option maxHeartbeats 4000000 in
theorem ctX4_duster {β : zz_B} {b : Nat → Nat} {post : Int32 → (XSt) → Prop} {S : XSt} {x1 : Int32} (h : wX4_duster post S x1) : zCi β yX4_duster cX4_duster 2 (some .int) 2 42 [.ref (b 0), .int x1] (xW β b) S post := by
  unfold wX4_duster at h
  unfold zCi
  refine zC.of (by decide) (Nat.le_of_ble_eq_true rfl) ?_
  intro Γ g hR
  show zV β 2 Γ ((xW β b) S) 0 [(0, .ref (b 0)), (1, .int x1)] []
  refine zv_iload_n (pc := 0) g dX4_duster_0 1 rfl rfl ?_
  refine zv_cSp (pc := 1) g cw_X4_89 (ctX4_isKind h) (by decide) (by decide) zz_pN rfl rfl (Nat.le_of_ble_eq_true rfl) dX4_duster_1 (fun v1 h => ?_)
  refine zv_if_ne (pc := 4) 14 g dX4_duster_4 rfl (fun c2 => ?_) (fun c2 => ?_)
  · replace h := h.1 c2
    refine zv_aload_n (pc := 14) g dX4_duster_14 0 rfl rfl ?_
    refine zv_get (pc := 15) g fl_X4_12 0 rfl rfl dX4_duster_15 ?_
    refine zv_get (pc := 18) g fl_X4_92 1 rfl rfl dX4_duster_18 ?_
    refine zv_bipush (pc := 21) g dX4_duster_21 (v := 8) (by decide) ?_
    refine zv_icmp_lt (pc := 23) 33 g dX4_duster_23 rfl (fun c3 => ?_) (fun c3 => ?_)
    · replace h := h.1 c3
      refine zv_aload_n (pc := 33) g dX4_duster_33 0 rfl rfl ?_
      refine zv_get (pc := 34) g fl_X4_12 0 rfl rfl dX4_duster_34 ?_
      refine zv_iload_n (pc := 37) g dX4_duster_37 1 rfl rfl ?_
      refine zv_cVi (pc := 38) g cw_X4_96 (ctX0_addDuster h) (by decide) (by decide) (pmX_live β b S) (fun T => xW β b (x_live_s S T)) (fun T => pbX_live β b S T) (q := 0) rfl rfl rfl rfl rfl (Nat.le_of_ble_eq_true rfl) dX4_duster_38 (fun v4 S5 h => ?_)
      refine zv_nmS (wf := (xW β b)) (fun S6 eS6 => ?_)
      replace h := h S6 eS6
      exact zv_iret (pc := 41) g hR dX4_duster_41 ⟨_, _, rfl, rfl, h⟩
    · replace h := h.2 c3
      refine zv_aload_n (pc := 26) g dX4_duster_26 0 rfl rfl ?_
      refine zv_ldc (pc := 27) g wd_268 dX4_duster_27 ?_
      refine zv_cVi (pc := 29) g cw_X4_52 (ctX4_finding h) (by decide) (by decide) zz_p0 (xW β b) (fun T => zz_p1 T) (q := 0) rfl rfl rfl rfl rfl (Nat.le_of_ble_eq_true rfl) dX4_duster_29 (fun v7 S8 h => ?_)
      exact zv_iret (pc := 32) g hR dX4_duster_32 ⟨_, _, rfl, rfl, h⟩
  · replace h := h.2 c2
    refine zv_aload_n (pc := 7) g dX4_duster_7 0 rfl rfl ?_
    refine zv_ldc (pc := 8) g wd_217 dX4_duster_8 ?_
    refine zv_cVi (pc := 10) g cw_X4_52 (ctX4_finding h) (by decide) (by decide) zz_p0 (xW β b) (fun T => zz_p1 T) (q := 0) rfl rfl rfl rfl rfl (Nat.le_of_ble_eq_true rfl) dX4_duster_10 (fun v9 S10 h => ?_)
    exact zv_iret (pc := 13) g hR dX4_duster_13 ⟨_, _, rfl, rfl, h⟩
def wX4_isDuster (post : Int32 → Prop) (S : XSt) (x1 : Int32) : Prop := wX4_within (fun v1 => (v1 = 0 ∨ v1 = 1) ∧ post v1) x1 0 ((h_dusters (x_live S)) - 1)
set_option maxRecDepth 100000 in
set_option maxHeartbeats 4000000 in
theorem ctX4_isDuster {β : zz_B} {b : Nat → Nat} {post : Int32 → Prop} {S : XSt} {x1 : Int32} (h : wX4_isDuster post S x1) : zCp β yX4_isDuster cX4_isDuster 2 (some .boolean) 1 22 [.ref (b 0), .int x1] ((xW β b) S) post := by
  unfold wX4_isDuster at h
  unfold zCp
  refine zC.of (by decide) (Nat.le_of_ble_eq_true rfl) ?_
  intro Γ g hR
  show zV β 2 Γ ((xW β b) S) 0 [(0, .ref (b 0)), (1, .int x1)] []
  refine zv_iload_n (pc := 0) g dX4_isDuster_0 1 rfl rfl ?_
  refine zv_iconst (pc := 1) g dX4_isDuster_1 (v := 0) (by decide) ?_
  refine zv_aload_n (pc := 2) g dX4_isDuster_2 0 rfl rfl ?_
  refine zv_get (pc := 3) g fl_X4_12 0 rfl rfl dX4_isDuster_3 ?_
  refine zv_get (pc := 6) g fl_X4_92 1 rfl rfl dX4_isDuster_6 ?_
  refine zv_iconst (pc := 9) g dX4_isDuster_9 (v := 1) (by decide) ?_
  refine zv_isub (pc := 10) g dX4_isDuster_10 ?_
  refine zv_cSp (pc := 11) g cw_X4_47 (ctX4_within h) (by decide) (by decide) zz_pN rfl rfl (Nat.le_of_ble_eq_true rfl) dX4_isDuster_11 (fun v1 h => ?_)
  exact zv_zret (pc := 14) g hR (zz_nb h.1).1 dX4_isDuster_14 ⟨_, rfl, rfl, h.2⟩
def wX4_of (post : Int32 → (XSt) → Prop) (S : XSt) (x1 : Int32) (x2 : Int32) : Prop := wX4_isDuster (fun v1 => (¬ v1 = 0 → vp_in x1 8 ∧ (∀ y3 : Int32, y3 = (h_kinds (x_live S) (Int32.toNatClampNeg x1)) → (vp_in x1 8 ∧ (∀ y4 : Int32, y4 = (h_grimes (x_live S) (Int32.toNatClampNeg x1)) → ((x2 = 0 → post y3 S) ∧ (x2 = 1 → vp_in x1 8 ∧ (post (h_held (x_live S) (Int32.toNatClampNeg x1)) S)) ∧ (x2 = 2 → post y4 S) ∧ (x2 = 3 → vp_in x1 8 ∧ (post (h_rounds (x_live S) (Int32.toNatClampNeg x1)) S)) ∧ (x2 = 4 → wX0_whereIs (fun v6 => post v6 S) (x_live S) x1) ∧ (x2 = 5 → wX1_wipes (fun v7 => post v7 S) y3 y4) ∧ (x2 = 6 → wX1_takesUp (fun v8 => post v8 S) y3 y4) ∧ (x2 = 7 → wX1_leaves (fun v9 => post v9 S) y3 y4) ∧ (x2 = 8 → vp_in x1 8 ∧ (wX1_keeps (fun v10 => (v10 = 0 → post 0 S) ∧ (¬ v10 = 0 → post 1 S)) y3 (h_held (x_live S) (Int32.toNatClampNeg x1)))) ∧ (((x2).toInt < 0 ∨ 8 < (x2).toInt) → wX4_finding (fun v12 S13 => post v12 S13) S (-1000000001))))))) ∧ (v1 = 0 → wX4_finding (fun v14 S15 => post v14 S15) S (-1000000001))) S x1
set_option maxRecDepth 100000 in
set_option maxHeartbeats 4000000 in
theorem ctX4_of {β : zz_B} {b : Nat → Nat} {post : Int32 → (XSt) → Prop} {S : XSt} {x1 : Int32} {x2 : Int32} (h : wX4_of post S x1 x2) : zCi β yX4_of cX4_of 5 (some .int) 2 43 [.ref (b 0), .int x1, .int x2] (xW β b) S post := by
  unfold wX4_of at h
  unfold zCi
  refine zC.of (by decide) (Nat.le_of_ble_eq_true rfl) ?_
  intro Γ g hR
  show zV β 5 Γ ((xW β b) S) 0 [(0, .ref (b 0)), (1, .int x1), (2, .int x2)] []
  refine zv_aload_n (pc := 0) g dX4_of_0 0 rfl rfl ?_
  refine zv_iload_n (pc := 1) g dX4_of_1 1 rfl rfl ?_
  refine zv_cVp (pc := 2) g cw_X4_99 (ctX4_isDuster h) (by decide) (by decide) zz_p0 (q := 0) rfl rfl rfl rfl rfl (Nat.le_of_ble_eq_true rfl) dX4_of_2 (fun v1 h => ?_)
  refine zv_if_ne (pc := 5) 15 g dX4_of_5 rfl (fun c2 => ?_) (fun c2 => ?_)
  · replace h := h.1 c2
    refine zv_aload_n (pc := 15) g dX4_of_15 0 rfl rfl ?_
    refine zv_get (pc := 16) g fl_X4_12 0 rfl rfl dX4_of_16 ?_
    refine zv_get (pc := 19) g fl_X4_102 1 rfl rfl dX4_of_19 ?_
    refine zv_iload_n (pc := 22) g dX4_of_22 1 rfl rfl ?_
    obtain ⟨hi, h⟩ := h
    refine zv_iald (pc := 23) g 4 rfl hi dX4_of_23 ?_
    refine zv_topi (fun y3 ey3 => ?_)
    replace h := h y3 ey3
    refine zv_istore_n (pc := 24) 3 [(3, .int y3), (0, .ref (b 0)), (1, .int x1), (2, .int x2)] g dX4_of_24 rfl (by decide) rfl ?_
    refine zv_aload_n (pc := 25) g dX4_of_25 1 rfl rfl ?_
    refine zv_get (pc := 26) g fl_X4_12 0 rfl rfl dX4_of_26 ?_
    refine zv_get (pc := 29) g fl_X4_105 1 rfl rfl dX4_of_29 ?_
    refine zv_iload_n (pc := 32) g dX4_of_32 2 rfl rfl ?_
    obtain ⟨hi, h⟩ := h
    refine zv_iald (pc := 33) g 6 rfl hi dX4_of_33 ?_
    refine zv_topi (fun y4 ey4 => ?_)
    replace h := h y4 ey4
    refine zv_istore (pc := 34) [(4, .int y4), (3, .int y3), (0, .ref (b 0)), (1, .int x1), (2, .int x2)] g dX4_of_34 (by decide) rfl ?_
    refine zv_iload_n (pc := 36) g dX4_of_36 4 rfl rfl ?_
    rcases zz_ts_0_8 x2 with c5 | c5 | c5 | c5 | c5 | c5 | c5 | c5 | c5 | c5
    · refine zv_tblIn (pc := 37) 0 88 g dX4_of_37 c5 (by decide) (by decide) rfl rfl ?_
      replace h := h.1 c5
      refine zv_iload_n (pc := 88) g dX4_of_88 1 rfl rfl ?_
      exact zv_iret (pc := 89) g hR dX4_of_89 ⟨_, _, rfl, rfl, h⟩
    · refine zv_tblIn (pc := 37) 1 90 g dX4_of_37 c5 (by decide) (by decide) rfl rfl ?_
      replace h := h.2.1 c5
      refine zv_aload_n (pc := 90) g dX4_of_90 2 rfl rfl ?_
      refine zv_get (pc := 91) g fl_X4_12 0 rfl rfl dX4_of_91 ?_
      refine zv_get (pc := 94) g fl_X4_108 1 rfl rfl dX4_of_94 ?_
      refine zv_iload_n (pc := 97) g dX4_of_97 3 rfl rfl ?_
      obtain ⟨hi, h⟩ := h
      refine zv_iald (pc := 98) g 5 rfl hi dX4_of_98 ?_
      exact zv_iret (pc := 99) g hR dX4_of_99 ⟨_, _, rfl, rfl, h⟩
    · refine zv_tblIn (pc := 37) 2 100 g dX4_of_37 c5 (by decide) (by decide) rfl rfl ?_
      replace h := h.2.2.1 c5
      refine zv_iload (pc := 100) g dX4_of_100 0 rfl ?_
      exact zv_iret (pc := 102) g hR dX4_of_102 ⟨_, _, rfl, rfl, h⟩
    · refine zv_tblIn (pc := 37) 3 103 g dX4_of_37 c5 (by decide) (by decide) rfl rfl ?_
      replace h := h.2.2.2.1 c5
      refine zv_aload_n (pc := 103) g dX4_of_103 2 rfl rfl ?_
      refine zv_get (pc := 104) g fl_X4_12 0 rfl rfl dX4_of_104 ?_
      refine zv_get (pc := 107) g fl_X4_111 1 rfl rfl dX4_of_107 ?_
      refine zv_iload_n (pc := 110) g dX4_of_110 3 rfl rfl ?_
      obtain ⟨hi, h⟩ := h
      refine zv_iald (pc := 111) g 7 rfl hi dX4_of_111 ?_
      exact zv_iret (pc := 112) g hR dX4_of_112 ⟨_, _, rfl, rfl, h⟩
    · refine zv_tblIn (pc := 37) 4 113 g dX4_of_37 c5 (by decide) (by decide) rfl rfl ?_
      replace h := h.2.2.2.2.1 c5
      refine zv_aload_n (pc := 113) g dX4_of_113 2 rfl rfl ?_
      refine zv_get (pc := 114) g fl_X4_12 0 rfl rfl dX4_of_114 ?_
      refine zv_iload_n (pc := 117) g dX4_of_117 3 rfl rfl ?_
      refine zv_cVp (pc := 118) g cw_X4_114 (ctX0_whereIs h) (by decide) (by decide) (pmX_live β b S) (q := 0) rfl rfl rfl rfl rfl (Nat.le_of_ble_eq_true rfl) dX4_of_118 (fun v6 h => ?_)
      exact zv_iret (pc := 121) g hR dX4_of_121 ⟨_, _, rfl, rfl, h⟩
    · refine zv_tblIn (pc := 37) 5 122 g dX4_of_37 c5 (by decide) (by decide) rfl rfl ?_
      replace h := h.2.2.2.2.2.1 c5
      refine zv_iload_n (pc := 122) g dX4_of_122 1 rfl rfl ?_
      refine zv_iload (pc := 123) g dX4_of_123 0 rfl ?_
      refine zv_cSp (pc := 125) g cw_X4_117 (ctX1_wipes h) (by decide) (by decide) zz_pN rfl rfl (Nat.le_of_ble_eq_true rfl) dX4_of_125 (fun v7 h => ?_)
      exact zv_iret (pc := 128) g hR dX4_of_128 ⟨_, _, rfl, rfl, h⟩
    · refine zv_tblIn (pc := 37) 6 129 g dX4_of_37 c5 (by decide) (by decide) rfl rfl ?_
      replace h := h.2.2.2.2.2.2.1 c5
      refine zv_iload_n (pc := 129) g dX4_of_129 1 rfl rfl ?_
      refine zv_iload (pc := 130) g dX4_of_130 0 rfl ?_
      refine zv_cSp (pc := 132) g cw_X4_123 (ctX1_takesUp h) (by decide) (by decide) zz_pN rfl rfl (Nat.le_of_ble_eq_true rfl) dX4_of_132 (fun v8 h => ?_)
      exact zv_iret (pc := 135) g hR dX4_of_135 ⟨_, _, rfl, rfl, h⟩
    · refine zv_tblIn (pc := 37) 7 136 g dX4_of_37 c5 (by decide) (by decide) rfl rfl ?_
      replace h := h.2.2.2.2.2.2.2.1 c5
      refine zv_iload_n (pc := 136) g dX4_of_136 1 rfl rfl ?_
      refine zv_iload (pc := 137) g dX4_of_137 0 rfl ?_
      refine zv_cSp (pc := 139) g cw_X4_126 (ctX1_leaves h) (by decide) (by decide) zz_pN rfl rfl (Nat.le_of_ble_eq_true rfl) dX4_of_139 (fun v9 h => ?_)
      exact zv_iret (pc := 142) g hR dX4_of_142 ⟨_, _, rfl, rfl, h⟩
    · refine zv_tblIn (pc := 37) 8 143 g dX4_of_37 c5 (by decide) (by decide) rfl rfl ?_
      replace h := h.2.2.2.2.2.2.2.2.1 c5
      refine zv_iload_n (pc := 143) g dX4_of_143 1 rfl rfl ?_
      refine zv_aload_n (pc := 144) g dX4_of_144 2 rfl rfl ?_
      refine zv_get (pc := 145) g fl_X4_12 0 rfl rfl dX4_of_145 ?_
      refine zv_get (pc := 148) g fl_X4_108 1 rfl rfl dX4_of_148 ?_
      refine zv_iload_n (pc := 151) g dX4_of_151 3 rfl rfl ?_
      obtain ⟨hi, h⟩ := h
      refine zv_iald (pc := 152) g 5 rfl hi dX4_of_152 ?_
      refine zv_cSp (pc := 153) g cw_X4_129 (ctX1_keeps h) (by decide) (by decide) zz_pN rfl rfl (Nat.le_of_ble_eq_true rfl) dX4_of_153 (fun v10 h => ?_)
      refine zv_if_eq (pc := 156) 163 g dX4_of_156 rfl (fun c11 => ?_) (fun c11 => ?_)
      · replace h := h.1 c11
        refine zv_iconst (pc := 163) g dX4_of_163 (v := 0) (by decide) ?_
        exact zv_iret (pc := 164) g hR dX4_of_164 ⟨_, _, rfl, rfl, h⟩
      · replace h := h.2 c11
        refine zv_iconst (pc := 159) g dX4_of_159 (v := 1) (by decide) ?_
        refine zv_goto (pc := 160) 164 g dX4_of_160 rfl ?_
        exact zv_iret (pc := 164) g hR dX4_of_164 ⟨_, _, rfl, rfl, h⟩
    · refine zv_tblOut (pc := 37) 165 g dX4_of_37 c5 rfl ?_
      replace h := h.2.2.2.2.2.2.2.2.2 c5
      refine zv_aload_n (pc := 165) g dX4_of_165 2 rfl rfl ?_
      refine zv_ldc (pc := 166) g wd_217 dX4_of_166 ?_
      refine zv_cVi (pc := 168) g cw_X4_52 (ctX4_finding h) (by decide) (by decide) zz_p0 (xW β b) (fun T => zz_p1 T) (q := 0) rfl rfl rfl rfl rfl (Nat.le_of_ble_eq_true rfl) dX4_of_168 (fun v12 S13 h => ?_)
      exact zv_iret (pc := 171) g hR dX4_of_171 ⟨_, _, rfl, rfl, h⟩
  · replace h := h.2 c2
    refine zv_aload_n (pc := 8) g dX4_of_8 0 rfl rfl ?_
    refine zv_ldc (pc := 9) g wd_217 dX4_of_9 ?_
    refine zv_cVi (pc := 11) g cw_X4_52 (ctX4_finding h) (by decide) (by decide) zz_p0 (xW β b) (fun T => zz_p1 T) (q := 0) rfl rfl rfl rfl rfl (Nat.le_of_ble_eq_true rfl) dX4_of_11 (fun v14 S15 h => ?_)
    exact zv_iret (pc := 14) g hR dX4_of_14 ⟨_, _, rfl, rfl, h⟩
def wX4_set_47 (post : Int32 → (XSt) → Prop) (S : XSt) (x1 : Int32) (x2 : Int32) (x3 : Int32) (s0 : Int32) : Prop := wX4_within (fun v9 => (¬ v9 = 0 → (¬ x2 = (1 : Int32) → (¬ x2 = (2 : Int32) → vp_in x1 8 ∧ (∀ y13 : Int32, y13 = (h_rounds (x_live S) (Int32.toNatClampNeg x1)) → (vp_in x1 8 ∧ (∀ S14 : XSt, S14 = (x_live_s S (h_rounds_s (x_live S) (upd (h_rounds (x_live S)) (Int32.toNatClampNeg x1) x3))) → (post y13 S14))))) ∧ (x2 = (2 : Int32) → vp_in x1 8 ∧ (∀ y15 : Int32, y15 = (h_grimes (x_live S) (Int32.toNatClampNeg x1)) → (vp_in x1 8 ∧ (∀ S16 : XSt, S16 = (x_live_s S (h_grimes_s (x_live S) (upd (h_grimes (x_live S)) (Int32.toNatClampNeg x1) x3))) → (post y15 S16)))))) ∧ (x2 = (1 : Int32) → vp_in x1 8 ∧ (∀ y17 : Int32, y17 = (h_held (x_live S) (Int32.toNatClampNeg x1)) → (vp_in x1 8 ∧ (∀ S18 : XSt, S18 = (x_live_s S (h_held_s (x_live S) (upd (h_held (x_live S)) (Int32.toNatClampNeg x1) x3))) → (post y17 S18)))))) ∧ (v9 = 0 → wX4_finding (fun v19 S20 => post v19 S20) S (-1000000001))) x3 0 s0
set_option maxRecDepth 100000 in
set_option maxHeartbeats 4000000 in
theorem lX4_set_47 {β : zz_B} {Γ : zz_X} {b : Nat → Nat} {post : Int32 → (XSt) → Prop} (g : zG β 7 Γ cX4_set RX4 2 43) (hR : zR β Γ (some .int) (fun r w => ∃ (v : Int32) (T : XSt), r = some (.int v) ∧ w = (xW β b) T ∧ post v T)) (S : XSt) (x1 : Int32) (x2 : Int32) (x3 : Int32) (s0 : Int32) (h : wX4_set_47 post S x1 x2 x3 s0) : zV β 7 Γ ((xW β b) S) 47 [(0, .ref (b 0)), (1, .int x1), (2, .int x2), (3, .int x3)] [.int s0] := by
  unfold wX4_set_47 at h
  refine zv_istore (pc := 47) [(4, .int s0), (0, .ref (b 0)), (1, .int x1), (2, .int x2), (3, .int x3)] g dX4_set_47 (by decide) rfl ?_
  refine zv_iload_n (pc := 49) g dX4_set_49 4 rfl rfl ?_
  refine zv_iconst (pc := 50) g dX4_set_50 (v := 0) (by decide) ?_
  refine zv_iload (pc := 51) g dX4_set_51 0 rfl ?_
  refine zv_cSp (pc := 53) g cw_X4_47 (ctX4_within h) (by decide) (by decide) zz_pN rfl rfl (Nat.le_of_ble_eq_true rfl) dX4_set_53 (fun v9 h => ?_)
  refine zv_if_ne (pc := 56) 66 g dX4_set_56 rfl (fun c10 => ?_) (fun c10 => ?_)
  · replace h := h.1 c10
    refine zv_iload_n (pc := 66) g dX4_set_66 3 rfl rfl ?_
    refine zv_iconst (pc := 67) g dX4_set_67 (v := 1) (by decide) ?_
    refine zv_icmp_ne (pc := 68) 81 g dX4_set_68 rfl (fun c11 => ?_) (fun c11 => ?_)
    · replace h := h.1 c11
      refine zv_iload_n (pc := 81) g dX4_set_81 3 rfl rfl ?_
      refine zv_iconst (pc := 82) g dX4_set_82 (v := 2) (by decide) ?_
      refine zv_icmp_ne (pc := 83) 96 g dX4_set_83 rfl (fun c12 => ?_) (fun c12 => ?_)
      · replace h := h.1 c12
        refine zv_aload_n (pc := 96) g dX4_set_96 1 rfl rfl ?_
        refine zv_get (pc := 97) g fl_X4_12 0 rfl rfl dX4_set_97 ?_
        refine zv_get (pc := 100) g fl_X4_111 1 rfl rfl dX4_set_100 ?_
        refine zv_astore (pc := 103) [(5, .ref (b 7)), (4, .int s0), (0, .ref (b 0)), (1, .int x1), (2, .int x2), (3, .int x3)] g dX4_set_103 (by decide) rfl ?_
        refine zv_aload (pc := 105) g dX4_set_105 0 rfl ?_
        refine zv_iload_n (pc := 107) g dX4_set_107 3 rfl rfl ?_
        obtain ⟨hi, h⟩ := h
        refine zv_iald (pc := 108) g 7 rfl hi dX4_set_108 ?_
        refine zv_topi (fun y13 ey13 => ?_)
        replace h := h y13 ey13
        refine zv_istore (pc := 109) [(6, .int y13), (5, .ref (b 7)), (4, .int s0), (0, .ref (b 0)), (1, .int x1), (2, .int x2), (3, .int x3)] g dX4_set_109 (by decide) rfl ?_
        refine zv_aload (pc := 111) g dX4_set_111 1 rfl ?_
        refine zv_iload_n (pc := 113) g dX4_set_113 4 rfl rfl ?_
        refine zv_iload_n (pc := 114) g dX4_set_114 6 rfl rfl ?_
        obtain ⟨hi, h⟩ := h
        refine zv_ials (pc := 115) ((xW β b) (x_live_s S (h_rounds_s (x_live S) (upd (h_rounds (x_live S)) (Int32.toNatClampNeg x1) x3)))) g 7 rfl hi rfl dX4_set_115 ?_
        refine zv_nmS (wf := (xW β b)) (fun S14 eS14 => ?_)
        replace h := h S14 eS14
        refine zv_iload (pc := 116) g dX4_set_116 0 rfl ?_
        exact zv_iret (pc := 118) g hR dX4_set_118 ⟨_, _, rfl, rfl, h⟩
      · replace h := h.2 c12
        refine zv_aload_n (pc := 86) g dX4_set_86 1 rfl rfl ?_
        refine zv_get (pc := 87) g fl_X4_12 0 rfl rfl dX4_set_87 ?_
        refine zv_get (pc := 90) g fl_X4_105 1 rfl rfl dX4_set_90 ?_
        refine zv_goto (pc := 93) 103 g dX4_set_93 rfl ?_
        refine zv_astore (pc := 103) [(5, .ref (b 6)), (4, .int s0), (0, .ref (b 0)), (1, .int x1), (2, .int x2), (3, .int x3)] g dX4_set_103 (by decide) rfl ?_
        refine zv_aload (pc := 105) g dX4_set_105 0 rfl ?_
        refine zv_iload_n (pc := 107) g dX4_set_107 3 rfl rfl ?_
        obtain ⟨hi, h⟩ := h
        refine zv_iald (pc := 108) g 6 rfl hi dX4_set_108 ?_
        refine zv_topi (fun y15 ey15 => ?_)
        replace h := h y15 ey15
        refine zv_istore (pc := 109) [(6, .int y15), (5, .ref (b 6)), (4, .int s0), (0, .ref (b 0)), (1, .int x1), (2, .int x2), (3, .int x3)] g dX4_set_109 (by decide) rfl ?_
        refine zv_aload (pc := 111) g dX4_set_111 1 rfl ?_
        refine zv_iload_n (pc := 113) g dX4_set_113 4 rfl rfl ?_
        refine zv_iload_n (pc := 114) g dX4_set_114 6 rfl rfl ?_
        obtain ⟨hi, h⟩ := h
        refine zv_ials (pc := 115) ((xW β b) (x_live_s S (h_grimes_s (x_live S) (upd (h_grimes (x_live S)) (Int32.toNatClampNeg x1) x3)))) g 6 rfl hi rfl dX4_set_115 ?_
        refine zv_nmS (wf := (xW β b)) (fun S16 eS16 => ?_)
        replace h := h S16 eS16
        refine zv_iload (pc := 116) g dX4_set_116 0 rfl ?_
        exact zv_iret (pc := 118) g hR dX4_set_118 ⟨_, _, rfl, rfl, h⟩
    · replace h := h.2 c11
      refine zv_aload_n (pc := 71) g dX4_set_71 1 rfl rfl ?_
      refine zv_get (pc := 72) g fl_X4_12 0 rfl rfl dX4_set_72 ?_
      refine zv_get (pc := 75) g fl_X4_108 1 rfl rfl dX4_set_75 ?_
      refine zv_goto (pc := 78) 103 g dX4_set_78 rfl ?_
      refine zv_astore (pc := 103) [(5, .ref (b 5)), (4, .int s0), (0, .ref (b 0)), (1, .int x1), (2, .int x2), (3, .int x3)] g dX4_set_103 (by decide) rfl ?_
      refine zv_aload (pc := 105) g dX4_set_105 0 rfl ?_
      refine zv_iload_n (pc := 107) g dX4_set_107 3 rfl rfl ?_
      obtain ⟨hi, h⟩ := h
      refine zv_iald (pc := 108) g 5 rfl hi dX4_set_108 ?_
      refine zv_topi (fun y17 ey17 => ?_)
      replace h := h y17 ey17
      refine zv_istore (pc := 109) [(6, .int y17), (5, .ref (b 5)), (4, .int s0), (0, .ref (b 0)), (1, .int x1), (2, .int x2), (3, .int x3)] g dX4_set_109 (by decide) rfl ?_
      refine zv_aload (pc := 111) g dX4_set_111 1 rfl ?_
      refine zv_iload_n (pc := 113) g dX4_set_113 4 rfl rfl ?_
      refine zv_iload_n (pc := 114) g dX4_set_114 6 rfl rfl ?_
      obtain ⟨hi, h⟩ := h
      refine zv_ials (pc := 115) ((xW β b) (x_live_s S (h_held_s (x_live S) (upd (h_held (x_live S)) (Int32.toNatClampNeg x1) x3)))) g 5 rfl hi rfl dX4_set_115 ?_
      refine zv_nmS (wf := (xW β b)) (fun S18 eS18 => ?_)
      replace h := h S18 eS18
      refine zv_iload (pc := 116) g dX4_set_116 0 rfl ?_
      exact zv_iret (pc := 118) g hR dX4_set_118 ⟨_, _, rfl, rfl, h⟩
  · replace h := h.2 c10
    refine zv_aload_n (pc := 59) g dX4_set_59 1 rfl rfl ?_
    refine zv_ldc (pc := 60) g wd_217 dX4_set_60 ?_
    refine zv_cVi (pc := 62) g cw_X4_52 (ctX4_finding h) (by decide) (by decide) zz_p0 (xW β b) (fun T => zz_p1 T) (q := 0) rfl rfl rfl rfl rfl (Nat.le_of_ble_eq_true rfl) dX4_set_62 (fun v19 S20 h => ?_)
    exact zv_iret (pc := 65) g hR dX4_set_65 ⟨_, _, rfl, rfl, h⟩
def wX4_set (post : Int32 → (XSt) → Prop) (S : XSt) (x1 : Int32) (x2 : Int32) (x3 : Int32) : Prop := wX4_isDuster (fun v1 => (v1 = 0 → wX4_finding (fun v3 S4 => post v3 S4) S (-1000000001)) ∧ (¬ v1 = 0 → wX4_within (fun v5 => (¬ v5 = 0 → (¬ x2 = (1 : Int32) → (¬ x2 = (2 : Int32) → wX4_set_47 post S x1 x2 x3 7) ∧ (x2 = (2 : Int32) → wX4_set_47 post S x1 x2 x3 99)) ∧ (x2 = (1 : Int32) → wX4_set_47 post S x1 x2 x3 1023)) ∧ (v5 = 0 → wX4_finding (fun v21 S22 => post v21 S22) S (-1000000001))) x2 1 3)) S x1
set_option maxRecDepth 100000 in
set_option maxHeartbeats 4000000 in
theorem ctX4_set {β : zz_B} {b : Nat → Nat} {post : Int32 → (XSt) → Prop} {S : XSt} {x1 : Int32} {x2 : Int32} {x3 : Int32} (h : wX4_set post S x1 x2 x3) : zCi β yX4_set cX4_set 7 (some .int) 2 43 [.ref (b 0), .int x1, .int x2, .int x3] (xW β b) S post := by
  unfold wX4_set at h
  unfold zCi
  refine zC.of (by decide) (Nat.le_of_ble_eq_true rfl) ?_
  intro Γ g hR
  show zV β 7 Γ ((xW β b) S) 0 [(0, .ref (b 0)), (1, .int x1), (2, .int x2), (3, .int x3)] []
  refine zv_aload_n (pc := 0) g dX4_set_0 0 rfl rfl ?_
  refine zv_iload_n (pc := 1) g dX4_set_1 1 rfl rfl ?_
  refine zv_cVp (pc := 2) g cw_X4_99 (ctX4_isDuster h) (by decide) (by decide) zz_p0 (q := 0) rfl rfl rfl rfl rfl (Nat.le_of_ble_eq_true rfl) dX4_set_2 (fun v1 h => ?_)
  refine zv_if_eq (pc := 5) 17 g dX4_set_5 rfl (fun c2 => ?_) (fun c2 => ?_)
  · replace h := h.1 c2
    refine zv_aload_n (pc := 17) g dX4_set_17 0 rfl rfl ?_
    refine zv_ldc (pc := 18) g wd_217 dX4_set_18 ?_
    refine zv_cVi (pc := 20) g cw_X4_52 (ctX4_finding h) (by decide) (by decide) zz_p0 (xW β b) (fun T => zz_p1 T) (q := 0) rfl rfl rfl rfl rfl (Nat.le_of_ble_eq_true rfl) dX4_set_20 (fun v3 S4 h => ?_)
    exact zv_iret (pc := 23) g hR dX4_set_23 ⟨_, _, rfl, rfl, h⟩
  · replace h := h.2 c2
    refine zv_iload_n (pc := 8) g dX4_set_8 2 rfl rfl ?_
    refine zv_iconst (pc := 9) g dX4_set_9 (v := 1) (by decide) ?_
    refine zv_iconst (pc := 10) g dX4_set_10 (v := 3) (by decide) ?_
    refine zv_cSp (pc := 11) g cw_X4_47 (ctX4_within h) (by decide) (by decide) zz_pN rfl rfl (Nat.le_of_ble_eq_true rfl) dX4_set_11 (fun v5 h => ?_)
    refine zv_if_ne (pc := 14) 24 g dX4_set_14 rfl (fun c6 => ?_) (fun c6 => ?_)
    · replace h := h.1 c6
      refine zv_iload_n (pc := 24) g dX4_set_24 2 rfl rfl ?_
      refine zv_iconst (pc := 25) g dX4_set_25 (v := 1) (by decide) ?_
      refine zv_icmp_ne (pc := 26) 35 g dX4_set_26 rfl (fun c7 => ?_) (fun c7 => ?_)
      · replace h := h.1 c7
        refine zv_iload_n (pc := 35) g dX4_set_35 2 rfl rfl ?_
        refine zv_iconst (pc := 36) g dX4_set_36 (v := 2) (by decide) ?_
        refine zv_icmp_ne (pc := 37) 45 g dX4_set_37 rfl (fun c8 => ?_) (fun c8 => ?_)
        · replace h := h.1 c8
          refine zv_bipush (pc := 45) g dX4_set_45 (v := 7) (by decide) ?_
          refine zv_sub [0, 1, 2, 3] rfl ?_
          exact lX4_set_47 g hR _ _ _ _ _ h
        · replace h := h.2 c8
          refine zv_bipush (pc := 40) g dX4_set_40 (v := 99) (by decide) ?_
          refine zv_goto (pc := 42) 47 g dX4_set_42 rfl ?_
          refine zv_sub [0, 1, 2, 3] rfl ?_
          exact lX4_set_47 g hR _ _ _ _ _ h
      · replace h := h.2 c7
        refine zv_sipush (pc := 29) g dX4_set_29 (v := 1023) (by decide) ?_
        refine zv_goto (pc := 32) 47 g dX4_set_32 rfl ?_
        refine zv_sub [0, 1, 2, 3] rfl ?_
        exact lX4_set_47 g hR _ _ _ _ _ h
    · replace h := h.2 c6
      refine zv_aload_n (pc := 17) g dX4_set_17 0 rfl rfl ?_
      refine zv_ldc (pc := 18) g wd_217 dX4_set_18 ?_
      refine zv_cVi (pc := 20) g cw_X4_52 (ctX4_finding h) (by decide) (by decide) zz_p0 (xW β b) (fun T => zz_p1 T) (q := 0) rfl rfl rfl rfl rfl (Nat.le_of_ble_eq_true rfl) dX4_set_20 (fun v21 S22 h => ?_)
      exact zv_iret (pc := 23) g hR dX4_set_23 ⟨_, _, rfl, rfl, h⟩
def wX4_turn (post : Int32 → (XSt) → Prop) (S : XSt) (x1 : Int32) (x2 : Int32) : Prop := wX4_isDuster (fun v1 => (v1 = 0 → wX4_finding (fun v3 S4 => post v3 S4) S (-1000000001)) ∧ (¬ v1 = 0 → wX4_isKind (fun v5 => (¬ v5 = 0 → vp_in x1 8 ∧ (∀ y7 : Int32, y7 = (h_kinds (x_live S) (Int32.toNatClampNeg x1)) → (vp_in x1 8 ∧ (∀ S8 : XSt, S8 = (x_live_s S (h_kinds_s (x_live S) (upd (h_kinds (x_live S)) (Int32.toNatClampNeg x1) x2))) → (post y7 S8))))) ∧ (v5 = 0 → wX4_finding (fun v9 S10 => post v9 S10) S (-1000000001))) x2)) S x1
set_option maxRecDepth 100000 in
set_option maxHeartbeats 4000000 in
theorem ctX4_turn {β : zz_B} {b : Nat → Nat} {post : Int32 → (XSt) → Prop} {S : XSt} {x1 : Int32} {x2 : Int32} (h : wX4_turn post S x1 x2) : zCi β yX4_turn cX4_turn 4 (some .int) 2 43 [.ref (b 0), .int x1, .int x2] (xW β b) S post := by
  unfold wX4_turn at h
  unfold zCi
  refine zC.of (by decide) (Nat.le_of_ble_eq_true rfl) ?_
  intro Γ g hR
  show zV β 4 Γ ((xW β b) S) 0 [(0, .ref (b 0)), (1, .int x1), (2, .int x2)] []
  refine zv_aload_n (pc := 0) g dX4_turn_0 0 rfl rfl ?_
  refine zv_iload_n (pc := 1) g dX4_turn_1 1 rfl rfl ?_
  refine zv_cVp (pc := 2) g cw_X4_99 (ctX4_isDuster h) (by decide) (by decide) zz_p0 (q := 0) rfl rfl rfl rfl rfl (Nat.le_of_ble_eq_true rfl) dX4_turn_2 (fun v1 h => ?_)
  refine zv_if_eq (pc := 5) 15 g dX4_turn_5 rfl (fun c2 => ?_) (fun c2 => ?_)
  · replace h := h.1 c2
    refine zv_aload_n (pc := 15) g dX4_turn_15 0 rfl rfl ?_
    refine zv_ldc (pc := 16) g wd_217 dX4_turn_16 ?_
    refine zv_cVi (pc := 18) g cw_X4_52 (ctX4_finding h) (by decide) (by decide) zz_p0 (xW β b) (fun T => zz_p1 T) (q := 0) rfl rfl rfl rfl rfl (Nat.le_of_ble_eq_true rfl) dX4_turn_18 (fun v3 S4 h => ?_)
    exact zv_iret (pc := 21) g hR dX4_turn_21 ⟨_, _, rfl, rfl, h⟩
  · replace h := h.2 c2
    refine zv_iload_n (pc := 8) g dX4_turn_8 2 rfl rfl ?_
    refine zv_cSp (pc := 9) g cw_X4_89 (ctX4_isKind h) (by decide) (by decide) zz_pN rfl rfl (Nat.le_of_ble_eq_true rfl) dX4_turn_9 (fun v5 h => ?_)
    refine zv_if_ne (pc := 12) 22 g dX4_turn_12 rfl (fun c6 => ?_) (fun c6 => ?_)
    · replace h := h.1 c6
      refine zv_aload_n (pc := 22) g dX4_turn_22 0 rfl rfl ?_
      refine zv_get (pc := 23) g fl_X4_12 0 rfl rfl dX4_turn_23 ?_
      refine zv_get (pc := 26) g fl_X4_102 1 rfl rfl dX4_turn_26 ?_
      refine zv_iload_n (pc := 29) g dX4_turn_29 1 rfl rfl ?_
      obtain ⟨hi, h⟩ := h
      refine zv_iald (pc := 30) g 4 rfl hi dX4_turn_30 ?_
      refine zv_topi (fun y7 ey7 => ?_)
      replace h := h y7 ey7
      refine zv_istore_n (pc := 31) 3 [(3, .int y7), (0, .ref (b 0)), (1, .int x1), (2, .int x2)] g dX4_turn_31 rfl (by decide) rfl ?_
      refine zv_aload_n (pc := 32) g dX4_turn_32 1 rfl rfl ?_
      refine zv_get (pc := 33) g fl_X4_12 0 rfl rfl dX4_turn_33 ?_
      refine zv_get (pc := 36) g fl_X4_102 1 rfl rfl dX4_turn_36 ?_
      refine zv_iload_n (pc := 39) g dX4_turn_39 2 rfl rfl ?_
      refine zv_iload_n (pc := 40) g dX4_turn_40 3 rfl rfl ?_
      obtain ⟨hi, h⟩ := h
      refine zv_ials (pc := 41) ((xW β b) (x_live_s S (h_kinds_s (x_live S) (upd (h_kinds (x_live S)) (Int32.toNatClampNeg x1) x2)))) g 4 rfl hi rfl dX4_turn_41 ?_
      refine zv_nmS (wf := (xW β b)) (fun S8 eS8 => ?_)
      replace h := h S8 eS8
      refine zv_iload_n (pc := 42) g dX4_turn_42 0 rfl rfl ?_
      exact zv_iret (pc := 43) g hR dX4_turn_43 ⟨_, _, rfl, rfl, h⟩
    · replace h := h.2 c6
      refine zv_aload_n (pc := 15) g dX4_turn_15 0 rfl rfl ?_
      refine zv_ldc (pc := 16) g wd_217 dX4_turn_16 ?_
      refine zv_cVi (pc := 18) g cw_X4_52 (ctX4_finding h) (by decide) (by decide) zz_p0 (xW β b) (fun T => zz_p1 T) (q := 0) rfl rfl rfl rfl rfl (Nat.le_of_ble_eq_true rfl) dX4_turn_18 (fun v9 S10 h => ?_)
      exact zv_iret (pc := 21) g hR dX4_turn_21 ⟨_, _, rfl, rfl, h⟩
def wX4_as (post : Int32 → (XSt) → Prop) (S : XSt) (x1 : Int32) (x2 : Int32) : Prop := wX4_isDuster (fun v1 => (v1 = 0 → wX4_finding (fun v3 S4 => post v3 S4) S (-1000000001)) ∧ (¬ v1 = 0 → wX4_isKind (fun v5 => (¬ v5 = 0 → vp_in x1 8 ∧ (wX1_isUnder (fun v7 => (¬ v7 = 0 → vp_in x1 8 ∧ (post (h_grimes (x_live S) (Int32.toNatClampNeg x1)) S)) ∧ (v7 = 0 → wX4_finding (fun v9 S10 => post v9 S10) S (-1000000003))) (h_kinds (x_live S) (Int32.toNatClampNeg x1)) x2)) ∧ (v5 = 0 → wX4_finding (fun v11 S12 => post v11 S12) S (-1000000001))) x2)) S x1
set_option maxRecDepth 100000 in
set_option maxHeartbeats 4000000 in
theorem ctX4_as {β : zz_B} {b : Nat → Nat} {post : Int32 → (XSt) → Prop} {S : XSt} {x1 : Int32} {x2 : Int32} (h : wX4_as post S x1 x2) : zCi β yX4_as cX4_as 3 (some .int) 2 43 [.ref (b 0), .int x1, .int x2] (xW β b) S post := by
  unfold wX4_as at h
  unfold zCi
  refine zC.of (by decide) (Nat.le_of_ble_eq_true rfl) ?_
  intro Γ g hR
  show zV β 3 Γ ((xW β b) S) 0 [(0, .ref (b 0)), (1, .int x1), (2, .int x2)] []
  refine zv_aload_n (pc := 0) g dX4_as_0 0 rfl rfl ?_
  refine zv_iload_n (pc := 1) g dX4_as_1 1 rfl rfl ?_
  refine zv_cVp (pc := 2) g cw_X4_99 (ctX4_isDuster h) (by decide) (by decide) zz_p0 (q := 0) rfl rfl rfl rfl rfl (Nat.le_of_ble_eq_true rfl) dX4_as_2 (fun v1 h => ?_)
  refine zv_if_eq (pc := 5) 15 g dX4_as_5 rfl (fun c2 => ?_) (fun c2 => ?_)
  · replace h := h.1 c2
    refine zv_aload_n (pc := 15) g dX4_as_15 0 rfl rfl ?_
    refine zv_ldc (pc := 16) g wd_217 dX4_as_16 ?_
    refine zv_cVi (pc := 18) g cw_X4_52 (ctX4_finding h) (by decide) (by decide) zz_p0 (xW β b) (fun T => zz_p1 T) (q := 0) rfl rfl rfl rfl rfl (Nat.le_of_ble_eq_true rfl) dX4_as_18 (fun v3 S4 h => ?_)
    exact zv_iret (pc := 21) g hR dX4_as_21 ⟨_, _, rfl, rfl, h⟩
  · replace h := h.2 c2
    refine zv_iload_n (pc := 8) g dX4_as_8 2 rfl rfl ?_
    refine zv_cSp (pc := 9) g cw_X4_89 (ctX4_isKind h) (by decide) (by decide) zz_pN rfl rfl (Nat.le_of_ble_eq_true rfl) dX4_as_9 (fun v5 h => ?_)
    refine zv_if_ne (pc := 12) 22 g dX4_as_12 rfl (fun c6 => ?_) (fun c6 => ?_)
    · replace h := h.1 c6
      refine zv_aload_n (pc := 22) g dX4_as_22 0 rfl rfl ?_
      refine zv_get (pc := 23) g fl_X4_12 0 rfl rfl dX4_as_23 ?_
      refine zv_get (pc := 26) g fl_X4_102 1 rfl rfl dX4_as_26 ?_
      refine zv_iload_n (pc := 29) g dX4_as_29 1 rfl rfl ?_
      obtain ⟨hi, h⟩ := h
      refine zv_iald (pc := 30) g 4 rfl hi dX4_as_30 ?_
      refine zv_iload_n (pc := 31) g dX4_as_31 2 rfl rfl ?_
      refine zv_cSp (pc := 32) g cw_X4_133 (ctX1_isUnder h) (by decide) (by decide) zz_pN rfl rfl (Nat.le_of_ble_eq_true rfl) dX4_as_32 (fun v7 h => ?_)
      refine zv_if_ne (pc := 35) 45 g dX4_as_35 rfl (fun c8 => ?_) (fun c8 => ?_)
      · replace h := h.1 c8
        refine zv_aload_n (pc := 45) g dX4_as_45 0 rfl rfl ?_
        refine zv_get (pc := 46) g fl_X4_12 0 rfl rfl dX4_as_46 ?_
        refine zv_get (pc := 49) g fl_X4_105 1 rfl rfl dX4_as_49 ?_
        refine zv_iload_n (pc := 52) g dX4_as_52 1 rfl rfl ?_
        obtain ⟨hi, h⟩ := h
        refine zv_iald (pc := 53) g 6 rfl hi dX4_as_53 ?_
        exact zv_iret (pc := 54) g hR dX4_as_54 ⟨_, _, rfl, rfl, h⟩
      · replace h := h.2 c8
        refine zv_aload_n (pc := 38) g dX4_as_38 0 rfl rfl ?_
        refine zv_ldc (pc := 39) g wd_318 dX4_as_39 ?_
        refine zv_cVi (pc := 41) g cw_X4_52 (ctX4_finding h) (by decide) (by decide) zz_p0 (xW β b) (fun T => zz_p1 T) (q := 0) rfl rfl rfl rfl rfl (Nat.le_of_ble_eq_true rfl) dX4_as_41 (fun v9 S10 h => ?_)
        exact zv_iret (pc := 44) g hR dX4_as_44 ⟨_, _, rfl, rfl, h⟩
    · replace h := h.2 c6
      refine zv_aload_n (pc := 15) g dX4_as_15 0 rfl rfl ?_
      refine zv_ldc (pc := 16) g wd_217 dX4_as_16 ?_
      refine zv_cVi (pc := 18) g cw_X4_52 (ctX4_finding h) (by decide) (by decide) zz_p0 (xW β b) (fun T => zz_p1 T) (q := 0) rfl rfl rfl rfl rfl (Nat.le_of_ble_eq_true rfl) dX4_as_18 (fun v11 S12 h => ?_)
      exact zv_iret (pc := 21) g hR dX4_as_21 ⟨_, _, rfl, rfl, h⟩
def wX4_through (post : Int32 → (XSt) → Prop) (S : XSt) (x1 : Int32) (x2 : Int32) : Prop := wX4_isDuster (fun v1 => (v1 = 0 → wX4_finding (fun v3 S4 => post v3 S4) S (-1000000001)) ∧ (¬ v1 = 0 → wX4_isRoom (fun v5 => (¬ v5 = 0 → wX0_goThrough (fun v7 S8 => ∀ S9 : XSt, S9 = (x_live_s S S8) → (post v7 S9)) (x_live S) x1 x2) ∧ (v5 = 0 → wX4_finding (fun v10 S11 => post v10 S11) S (-1000000001))) x2)) S x1
set_option maxRecDepth 100000 in
set_option maxHeartbeats 4000000 in
theorem ctX4_through {β : zz_B} {b : Nat → Nat} {post : Int32 → (XSt) → Prop} {S : XSt} {x1 : Int32} {x2 : Int32} (h : wX4_through post S x1 x2) : zCi β yX4_through cX4_through 3 (some .int) 3 73 [.ref (b 0), .int x1, .int x2] (xW β b) S post := by
  unfold wX4_through at h
  unfold zCi
  refine zC.of (by decide) (Nat.le_of_ble_eq_true rfl) ?_
  intro Γ g hR
  show zV β 3 Γ ((xW β b) S) 0 [(0, .ref (b 0)), (1, .int x1), (2, .int x2)] []
  refine zv_aload_n (pc := 0) g dX4_through_0 0 rfl rfl ?_
  refine zv_iload_n (pc := 1) g dX4_through_1 1 rfl rfl ?_
  refine zv_cVp (pc := 2) g cw_X4_99 (ctX4_isDuster h) (by decide) (by decide) zz_p0 (q := 0) rfl rfl rfl rfl rfl (Nat.le_of_ble_eq_true rfl) dX4_through_2 (fun v1 h => ?_)
  refine zv_if_eq (pc := 5) 15 g dX4_through_5 rfl (fun c2 => ?_) (fun c2 => ?_)
  · replace h := h.1 c2
    refine zv_aload_n (pc := 15) g dX4_through_15 0 rfl rfl ?_
    refine zv_ldc (pc := 16) g wd_217 dX4_through_16 ?_
    refine zv_cVi (pc := 18) g cw_X4_52 (ctX4_finding h) (by decide) (by decide) zz_p0 (xW β b) (fun T => zz_p1 T) (q := 0) rfl rfl rfl rfl rfl (Nat.le_of_ble_eq_true rfl) dX4_through_18 (fun v3 S4 h => ?_)
    exact zv_iret (pc := 21) g hR dX4_through_21 ⟨_, _, rfl, rfl, h⟩
  · replace h := h.2 c2
    refine zv_iload_n (pc := 8) g dX4_through_8 2 rfl rfl ?_
    refine zv_cSp (pc := 9) g cw_X4_60 (ctX4_isRoom h) (by decide) (by decide) zz_pN rfl rfl (Nat.le_of_ble_eq_true rfl) dX4_through_9 (fun v5 h => ?_)
    refine zv_if_ne (pc := 12) 22 g dX4_through_12 rfl (fun c6 => ?_) (fun c6 => ?_)
    · replace h := h.1 c6
      refine zv_aload_n (pc := 22) g dX4_through_22 0 rfl rfl ?_
      refine zv_get (pc := 23) g fl_X4_12 0 rfl rfl dX4_through_23 ?_
      refine zv_iload_n (pc := 26) g dX4_through_26 1 rfl rfl ?_
      refine zv_iload_n (pc := 27) g dX4_through_27 2 rfl rfl ?_
      refine zv_cVi (pc := 28) g cw_X4_137 (ctX0_goThrough h) (by decide) (by decide) (pmX_live β b S) (fun T => xW β b (x_live_s S T)) (fun T => pbX_live β b S T) (q := 0) rfl rfl rfl rfl rfl (Nat.le_of_ble_eq_true rfl) dX4_through_28 (fun v7 S8 h => ?_)
      refine zv_nmS (wf := (xW β b)) (fun S9 eS9 => ?_)
      replace h := h S9 eS9
      exact zv_iret (pc := 31) g hR dX4_through_31 ⟨_, _, rfl, rfl, h⟩
    · replace h := h.2 c6
      refine zv_aload_n (pc := 15) g dX4_through_15 0 rfl rfl ?_
      refine zv_ldc (pc := 16) g wd_217 dX4_through_16 ?_
      refine zv_cVi (pc := 18) g cw_X4_52 (ctX4_finding h) (by decide) (by decide) zz_p0 (xW β b) (fun T => zz_p1 T) (q := 0) rfl rfl rfl rfl rfl (Nat.le_of_ble_eq_true rfl) dX4_through_18 (fun v10 S11 h => ?_)
      exact zv_iret (pc := 21) g hR dX4_through_21 ⟨_, _, rfl, rfl, h⟩
def wX4_wash (post : Int32 → (XSt) → Prop) (S : XSt) (x1 : Int32) : Prop := wX4_isDuster (fun v1 => (¬ v1 = 0 → wX0_washOne (fun v3 S4 => ∀ S5 : XSt, S5 = (x_live_s S S4) → (post v3 S5)) (x_live S) x1) ∧ (v1 = 0 → wX4_finding (fun v6 S7 => post v6 S7) S (-1000000001))) S x1
set_option maxRecDepth 100000 in
set_option maxHeartbeats 4000000 in
theorem ctX4_wash {β : zz_B} {b : Nat → Nat} {post : Int32 → (XSt) → Prop} {S : XSt} {x1 : Int32} (h : wX4_wash post S x1) : zCi β yX4_wash cX4_wash 2 (some .int) 2 43 [.ref (b 0), .int x1] (xW β b) S post := by
  unfold wX4_wash at h
  unfold zCi
  refine zC.of (by decide) (Nat.le_of_ble_eq_true rfl) ?_
  intro Γ g hR
  show zV β 2 Γ ((xW β b) S) 0 [(0, .ref (b 0)), (1, .int x1)] []
  refine zv_aload_n (pc := 0) g dX4_wash_0 0 rfl rfl ?_
  refine zv_iload_n (pc := 1) g dX4_wash_1 1 rfl rfl ?_
  refine zv_cVp (pc := 2) g cw_X4_99 (ctX4_isDuster h) (by decide) (by decide) zz_p0 (q := 0) rfl rfl rfl rfl rfl (Nat.le_of_ble_eq_true rfl) dX4_wash_2 (fun v1 h => ?_)
  refine zv_if_ne (pc := 5) 15 g dX4_wash_5 rfl (fun c2 => ?_) (fun c2 => ?_)
  · replace h := h.1 c2
    refine zv_aload_n (pc := 15) g dX4_wash_15 0 rfl rfl ?_
    refine zv_get (pc := 16) g fl_X4_12 0 rfl rfl dX4_wash_16 ?_
    refine zv_iload_n (pc := 19) g dX4_wash_19 1 rfl rfl ?_
    refine zv_cVi (pc := 20) g cw_X4_140 (ctX0_washOne h) (by decide) (by decide) (pmX_live β b S) (fun T => xW β b (x_live_s S T)) (fun T => pbX_live β b S T) (q := 0) rfl rfl rfl rfl rfl (Nat.le_of_ble_eq_true rfl) dX4_wash_20 (fun v3 S4 h => ?_)
    refine zv_nmS (wf := (xW β b)) (fun S5 eS5 => ?_)
    replace h := h S5 eS5
    exact zv_iret (pc := 23) g hR dX4_wash_23 ⟨_, _, rfl, rfl, h⟩
  · replace h := h.2 c2
    refine zv_aload_n (pc := 8) g dX4_wash_8 0 rfl rfl ?_
    refine zv_ldc (pc := 9) g wd_217 dX4_wash_9 ?_
    refine zv_cVi (pc := 11) g cw_X4_52 (ctX4_finding h) (by decide) (by decide) zz_p0 (xW β b) (fun T => zz_p1 T) (q := 0) rfl rfl rfl rfl rfl (Nat.le_of_ble_eq_true rfl) dX4_wash_11 (fun v6 S7 h => ?_)
    exact zv_iret (pc := 14) g hR dX4_wash_14 ⟨_, _, rfl, rfl, h⟩
def wX4_shake (post : Int32 → (XSt) → Prop) (S : XSt) (x1 : Int32) : Prop := wX4_isDuster (fun v1 => (¬ v1 = 0 → wX0_shakeOne (fun v3 S4 => ∀ S5 : XSt, S5 = (x_live_s S S4) → (post v3 S5)) (x_live S) x1) ∧ (v1 = 0 → wX4_finding (fun v6 S7 => post v6 S7) S (-1000000001))) S x1
set_option maxRecDepth 100000 in
set_option maxHeartbeats 4000000 in
theorem ctX4_shake {β : zz_B} {b : Nat → Nat} {post : Int32 → (XSt) → Prop} {S : XSt} {x1 : Int32} (h : wX4_shake post S x1) : zCi β yX4_shake cX4_shake 2 (some .int) 2 43 [.ref (b 0), .int x1] (xW β b) S post := by
  unfold wX4_shake at h
  unfold zCi
  refine zC.of (by decide) (Nat.le_of_ble_eq_true rfl) ?_
  intro Γ g hR
  show zV β 2 Γ ((xW β b) S) 0 [(0, .ref (b 0)), (1, .int x1)] []
  refine zv_aload_n (pc := 0) g dX4_shake_0 0 rfl rfl ?_
  refine zv_iload_n (pc := 1) g dX4_shake_1 1 rfl rfl ?_
  refine zv_cVp (pc := 2) g cw_X4_99 (ctX4_isDuster h) (by decide) (by decide) zz_p0 (q := 0) rfl rfl rfl rfl rfl (Nat.le_of_ble_eq_true rfl) dX4_shake_2 (fun v1 h => ?_)
  refine zv_if_ne (pc := 5) 15 g dX4_shake_5 rfl (fun c2 => ?_) (fun c2 => ?_)
  · replace h := h.1 c2
    refine zv_aload_n (pc := 15) g dX4_shake_15 0 rfl rfl ?_
    refine zv_get (pc := 16) g fl_X4_12 0 rfl rfl dX4_shake_16 ?_
    refine zv_iload_n (pc := 19) g dX4_shake_19 1 rfl rfl ?_
    refine zv_cVi (pc := 20) g cw_X4_143 (ctX0_shakeOne h) (by decide) (by decide) (pmX_live β b S) (fun T => xW β b (x_live_s S T)) (fun T => pbX_live β b S T) (q := 0) rfl rfl rfl rfl rfl (Nat.le_of_ble_eq_true rfl) dX4_shake_20 (fun v3 S4 h => ?_)
    refine zv_nmS (wf := (xW β b)) (fun S5 eS5 => ?_)
    replace h := h S5 eS5
    exact zv_iret (pc := 23) g hR dX4_shake_23 ⟨_, _, rfl, rfl, h⟩
  · replace h := h.2 c2
    refine zv_aload_n (pc := 8) g dX4_shake_8 0 rfl rfl ?_
    refine zv_ldc (pc := 9) g wd_217 dX4_shake_9 ?_
    refine zv_cVi (pc := 11) g cw_X4_52 (ctX4_finding h) (by decide) (by decide) zz_p0 (xW β b) (fun T => zz_p1 T) (q := 0) rfl rfl rfl rfl rfl (Nat.le_of_ble_eq_true rfl) dX4_shake_11 (fun v6 S7 h => ?_)
    exact zv_iret (pc := 14) g hR dX4_shake_14 ⟨_, _, rfl, rfl, h⟩
def wX4_days (post : Int32 → (XSt) → Prop) (S : XSt) (x1 : Int32) : Prop := wX4_within (fun v1 => (¬ v1 = 0 → ((h_day (x_live S)) ≤ (9999 - x1) → wX0_goDays (fun S4 => ∀ S5 : XSt, S5 = (x_live_s S S4) → (wX0_dustOfAll (fun v6 => post v6 S5) (x_live S5))) (x_live S) x1) ∧ (¬ (h_day (x_live S)) ≤ (9999 - x1) → wX4_finding (fun v7 S8 => post v7 S8) S (-1000000005))) ∧ (v1 = 0 → wX4_finding (fun v9 S10 => post v9 S10) S (-1000000001))) x1 1 60
set_option maxRecDepth 100000 in
set_option maxHeartbeats 4000000 in
theorem ctX4_days {β : zz_B} {b : Nat → Nat} {post : Int32 → (XSt) → Prop} {S : XSt} {x1 : Int32} (h : wX4_days post S x1) : zCi β yX4_days cX4_days 2 (some .int) 5 116 [.ref (b 0), .int x1] (xW β b) S post := by
  unfold wX4_days at h
  unfold zCi
  refine zC.of (by decide) (Nat.le_of_ble_eq_true rfl) ?_
  intro Γ g hR
  show zV β 2 Γ ((xW β b) S) 0 [(0, .ref (b 0)), (1, .int x1)] []
  refine zv_iload_n (pc := 0) g dX4_days_0 1 rfl rfl ?_
  refine zv_iconst (pc := 1) g dX4_days_1 (v := 1) (by decide) ?_
  refine zv_bipush (pc := 2) g dX4_days_2 (v := 60) (by decide) ?_
  refine zv_cSp (pc := 4) g cw_X4_47 (ctX4_within h) (by decide) (by decide) zz_pN rfl rfl (Nat.le_of_ble_eq_true rfl) dX4_days_4 (fun v1 h => ?_)
  refine zv_if_ne (pc := 7) 17 g dX4_days_7 rfl (fun c2 => ?_) (fun c2 => ?_)
  · replace h := h.1 c2
    refine zv_aload_n (pc := 17) g dX4_days_17 0 rfl rfl ?_
    refine zv_get (pc := 18) g fl_X4_12 0 rfl rfl dX4_days_18 ?_
    refine zv_get (pc := 21) g fl_X4_73 1 rfl rfl dX4_days_21 ?_
    refine zv_sipush (pc := 24) g dX4_days_24 (v := 9999) (by decide) ?_
    refine zv_iload_n (pc := 27) g dX4_days_27 1 rfl rfl ?_
    refine zv_isub (pc := 28) g dX4_days_28 ?_
    refine zv_icmp_le (pc := 29) 39 g dX4_days_29 rfl (fun c3 => ?_) (fun c3 => ?_)
    · replace h := h.1 c3
      refine zv_aload_n (pc := 39) g dX4_days_39 0 rfl rfl ?_
      refine zv_get (pc := 40) g fl_X4_12 0 rfl rfl dX4_days_40 ?_
      refine zv_iload_n (pc := 43) g dX4_days_43 1 rfl rfl ?_
      refine zv_cVv (pc := 44) g cw_X4_147 (ctX0_goDays h) (by decide) (by decide) (pmX_live β b S) (fun T => xW β b (x_live_s S T)) (fun T => pbX_live β b S T) (q := 0) rfl rfl rfl rfl rfl (Nat.le_of_ble_eq_true rfl) dX4_days_44 (fun S4 h => ?_)
      refine zv_nmS (wf := (xW β b)) (fun S5 eS5 => ?_)
      replace h := h S5 eS5
      refine zv_aload_n (pc := 47) g dX4_days_47 0 rfl rfl ?_
      refine zv_get (pc := 48) g fl_X4_12 0 rfl rfl dX4_days_48 ?_
      refine zv_cVp (pc := 51) g cw_X4_76 (ctX0_dustOfAll h) (by decide) (by decide) (pmX_live β b S5) (q := 0) rfl rfl rfl rfl rfl (Nat.le_of_ble_eq_true rfl) dX4_days_51 (fun v6 h => ?_)
      exact zv_iret (pc := 54) g hR dX4_days_54 ⟨_, _, rfl, rfl, h⟩
    · replace h := h.2 c3
      refine zv_aload_n (pc := 32) g dX4_days_32 0 rfl rfl ?_
      refine zv_ldc (pc := 33) g wd_357 dX4_days_33 ?_
      refine zv_cVi (pc := 35) g cw_X4_52 (ctX4_finding h) (by decide) (by decide) zz_p0 (xW β b) (fun T => zz_p1 T) (q := 0) rfl rfl rfl rfl rfl (Nat.le_of_ble_eq_true rfl) dX4_days_35 (fun v7 S8 h => ?_)
      exact zv_iret (pc := 38) g hR dX4_days_38 ⟨_, _, rfl, rfl, h⟩
  · replace h := h.2 c2
    refine zv_aload_n (pc := 10) g dX4_days_10 0 rfl rfl ?_
    refine zv_ldc (pc := 11) g wd_217 dX4_days_11 ?_
    refine zv_cVi (pc := 13) g cw_X4_52 (ctX4_finding h) (by decide) (by decide) zz_p0 (xW β b) (fun T => zz_p1 T) (q := 0) rfl rfl rfl rfl rfl (Nat.le_of_ble_eq_true rfl) dX4_days_13 (fun v9 S10 h => ?_)
    exact zv_iret (pc := 16) g hR dX4_days_16 ⟨_, _, rfl, rfl, h⟩
def wX4_lookAhead (post : (XSt) → Prop) (S : XSt) (x1 : Int32) : Prop := wX0_becomeAs (fun S1 => ∀ S2 : XSt, S2 = (x_live_s (x_ahead_s S S1.1) S1.2) → (wX0_goDays (fun S3 => ∀ S4 : XSt, S4 = (x_ahead_s S2 S3) → (post S4)) (x_ahead S2) x1)) (x_ahead S, x_live S)
set_option maxRecDepth 100000 in
set_option maxHeartbeats 4000000 in
theorem ctX4_lookAhead {β : zz_B} {b : Nat → Nat} {post : (XSt) → Prop} {S : XSt} {x1 : Int32} (h : wX4_lookAhead post S x1) : zCv β yX4_lookAhead cX4_lookAhead 2 none 5 116 [.ref (b 0), .int x1] (xW β b) S post := by
  unfold wX4_lookAhead at h
  unfold zCv
  refine zC.of (by decide) (Nat.le_of_ble_eq_true rfl) ?_
  intro Γ g hR
  show zV β 2 Γ ((xW β b) S) 0 [(0, .ref (b 0)), (1, .int x1)] []
  refine zv_aload_n (pc := 0) g dX4_lookAhead_0 0 rfl rfl ?_
  refine zv_get (pc := 1) g fl_X4_19 0 rfl rfl dX4_lookAhead_1 ?_
  refine zv_aload_n (pc := 4) g dX4_lookAhead_4 0 rfl rfl ?_
  refine zv_get (pc := 5) g fl_X4_12 0 rfl rfl dX4_lookAhead_5 ?_
  refine zv_cVv (pc := 8) g cw_X4_154 (ctX0_becomeAs h) (by decide) (by decide) (pmX_ahead_live β b S) (fun T => xW β b (x_live_s (x_ahead_s S T.1) T.2)) (fun T => pbX_ahead_live β b S T) (q := 0) rfl rfl rfl rfl rfl (Nat.le_of_ble_eq_true rfl) dX4_lookAhead_8 (fun S1 h => ?_)
  refine zv_nmS (wf := (xW β b)) (fun S2 eS2 => ?_)
  replace h := h S2 eS2
  refine zv_aload_n (pc := 11) g dX4_lookAhead_11 0 rfl rfl ?_
  refine zv_get (pc := 12) g fl_X4_19 0 rfl rfl dX4_lookAhead_12 ?_
  refine zv_iload_n (pc := 15) g dX4_lookAhead_15 1 rfl rfl ?_
  refine zv_cVv (pc := 16) g cw_X4_147 (ctX0_goDays h) (by decide) (by decide) (pmX_ahead β b S2) (fun T => xW β b (x_ahead_s S2 T)) (fun T => pbX_ahead β b S2 T) (q := 0) rfl rfl rfl rfl rfl (Nat.le_of_ble_eq_true rfl) dX4_lookAhead_16 (fun S3 h => ?_)
  refine zv_nmS (wf := (xW β b)) (fun S4 eS4 => ?_)
  replace h := h S4 eS4
  exact zv_vret (pc := 19) g hR dX4_lookAhead_19 ⟨_, rfl, rfl, h⟩
def wX4_on (post : Int32 → (XSt) → Prop) (S : XSt) (x1 : Int32) (x2 : Int32) (x3 : Int32) : Prop := wX4_isRoom (fun v1 => (v1 = 0 → wX4_finding (fun v3 S4 => post v3 S4) S (-1000000001)) ∧ (¬ v1 = 0 → wX4_within (fun v5 => (v5 = 0 → wX4_finding (fun v7 S8 => post v7 S8) S (-1000000001)) ∧ (¬ v5 = 0 → wX4_within (fun v9 => (¬ v9 = 0 → wX4_lookAhead (fun S11 => (¬ x3 = 0 → vp_in x1 8 ∧ (post (h_memories (x_ahead S11) (Int32.toNatClampNeg x1)) S11)) ∧ (x3 = 0 → vp_in x1 8 ∧ (post (h_dust (x_ahead S11) (Int32.toNatClampNeg x1)) S11))) S x2) ∧ (v9 = 0 → wX4_finding (fun v13 S14 => post v13 S14) S (-1000000001))) x3 0 1)) x2 0 100)) x1
set_option maxRecDepth 100000 in
set_option maxHeartbeats 4000000 in
theorem ctX4_on {β : zz_B} {b : Nat → Nat} {post : Int32 → (XSt) → Prop} {S : XSt} {x1 : Int32} {x2 : Int32} {x3 : Int32} (h : wX4_on post S x1 x2 x3) : zCi β yX4_on cX4_on 4 (some .int) 6 137 [.ref (b 0), .int x1, .int x2, .int x3] (xW β b) S post := by
  unfold wX4_on at h
  unfold zCi
  refine zC.of (by decide) (Nat.le_of_ble_eq_true rfl) ?_
  intro Γ g hR
  show zV β 4 Γ ((xW β b) S) 0 [(0, .ref (b 0)), (1, .int x1), (2, .int x2), (3, .int x3)] []
  refine zv_iload_n (pc := 0) g dX4_on_0 1 rfl rfl ?_
  refine zv_cSp (pc := 1) g cw_X4_60 (ctX4_isRoom h) (by decide) (by decide) zz_pN rfl rfl (Nat.le_of_ble_eq_true rfl) dX4_on_1 (fun v1 h => ?_)
  refine zv_if_eq (pc := 4) 26 g dX4_on_4 rfl (fun c2 => ?_) (fun c2 => ?_)
  · replace h := h.1 c2
    refine zv_aload_n (pc := 26) g dX4_on_26 0 rfl rfl ?_
    refine zv_ldc (pc := 27) g wd_217 dX4_on_27 ?_
    refine zv_cVi (pc := 29) g cw_X4_52 (ctX4_finding h) (by decide) (by decide) zz_p0 (xW β b) (fun T => zz_p1 T) (q := 0) rfl rfl rfl rfl rfl (Nat.le_of_ble_eq_true rfl) dX4_on_29 (fun v3 S4 h => ?_)
    exact zv_iret (pc := 32) g hR dX4_on_32 ⟨_, _, rfl, rfl, h⟩
  · replace h := h.2 c2
    refine zv_iload_n (pc := 7) g dX4_on_7 2 rfl rfl ?_
    refine zv_iconst (pc := 8) g dX4_on_8 (v := 0) (by decide) ?_
    refine zv_bipush (pc := 9) g dX4_on_9 (v := 100) (by decide) ?_
    refine zv_cSp (pc := 11) g cw_X4_47 (ctX4_within h) (by decide) (by decide) zz_pN rfl rfl (Nat.le_of_ble_eq_true rfl) dX4_on_11 (fun v5 h => ?_)
    refine zv_if_eq (pc := 14) 26 g dX4_on_14 rfl (fun c6 => ?_) (fun c6 => ?_)
    · replace h := h.1 c6
      refine zv_aload_n (pc := 26) g dX4_on_26 0 rfl rfl ?_
      refine zv_ldc (pc := 27) g wd_217 dX4_on_27 ?_
      refine zv_cVi (pc := 29) g cw_X4_52 (ctX4_finding h) (by decide) (by decide) zz_p0 (xW β b) (fun T => zz_p1 T) (q := 0) rfl rfl rfl rfl rfl (Nat.le_of_ble_eq_true rfl) dX4_on_29 (fun v7 S8 h => ?_)
      exact zv_iret (pc := 32) g hR dX4_on_32 ⟨_, _, rfl, rfl, h⟩
    · replace h := h.2 c6
      refine zv_iload_n (pc := 17) g dX4_on_17 3 rfl rfl ?_
      refine zv_iconst (pc := 18) g dX4_on_18 (v := 0) (by decide) ?_
      refine zv_iconst (pc := 19) g dX4_on_19 (v := 1) (by decide) ?_
      refine zv_cSp (pc := 20) g cw_X4_47 (ctX4_within h) (by decide) (by decide) zz_pN rfl rfl (Nat.le_of_ble_eq_true rfl) dX4_on_20 (fun v9 h => ?_)
      refine zv_if_ne (pc := 23) 33 g dX4_on_23 rfl (fun c10 => ?_) (fun c10 => ?_)
      · replace h := h.1 c10
        refine zv_aload_n (pc := 33) g dX4_on_33 0 rfl rfl ?_
        refine zv_iload_n (pc := 34) g dX4_on_34 2 rfl rfl ?_
        refine zv_cVv (pc := 35) g cw_X4_151 (ctX4_lookAhead h) (by decide) (by decide) zz_p0 (xW β b) (fun T => zz_p1 T) (q := 0) rfl rfl rfl rfl rfl (Nat.le_of_ble_eq_true rfl) dX4_on_35 (fun S11 h => ?_)
        refine zv_iload_n (pc := 38) g dX4_on_38 3 rfl rfl ?_
        refine zv_if_ne (pc := 39) 54 g dX4_on_39 rfl (fun c12 => ?_) (fun c12 => ?_)
        · replace h := h.1 c12
          refine zv_aload_n (pc := 54) g dX4_on_54 0 rfl rfl ?_
          refine zv_get (pc := 55) g fl_X4_19 0 rfl rfl dX4_on_55 ?_
          refine zv_get (pc := 58) g fl_X4_67 15 rfl rfl dX4_on_58 ?_
          refine zv_iload_n (pc := 61) g dX4_on_61 1 rfl rfl ?_
          obtain ⟨hi, h⟩ := h
          refine zv_iald (pc := 62) g 17 rfl hi dX4_on_62 ?_
          exact zv_iret (pc := 63) g hR dX4_on_63 ⟨_, _, rfl, rfl, h⟩
        · replace h := h.2 c12
          refine zv_aload_n (pc := 42) g dX4_on_42 0 rfl rfl ?_
          refine zv_get (pc := 43) g fl_X4_19 0 rfl rfl dX4_on_43 ?_
          refine zv_get (pc := 46) g fl_X4_64 15 rfl rfl dX4_on_46 ?_
          refine zv_iload_n (pc := 49) g dX4_on_49 1 rfl rfl ?_
          obtain ⟨hi, h⟩ := h
          refine zv_iald (pc := 50) g 16 rfl hi dX4_on_50 ?_
          refine zv_goto (pc := 51) 63 g dX4_on_51 rfl ?_
          exact zv_iret (pc := 63) g hR dX4_on_63 ⟨_, _, rfl, rfl, h⟩
      · replace h := h.2 c10
        refine zv_aload_n (pc := 26) g dX4_on_26 0 rfl rfl ?_
        refine zv_ldc (pc := 27) g wd_217 dX4_on_27 ?_
        refine zv_cVi (pc := 29) g cw_X4_52 (ctX4_finding h) (by decide) (by decide) zz_p0 (xW β b) (fun T => zz_p1 T) (q := 0) rfl rfl rfl rfl rfl (Nat.le_of_ble_eq_true rfl) dX4_on_29 (fun v13 S14 h => ?_)
        exact zv_iret (pc := 32) g hR dX4_on_32 ⟨_, _, rfl, rfl, h⟩
def wX4_then (post : Int32 → (XSt) → Prop) (S : XSt) (x1 : Int32) (x2 : Int32) (x3 : Int32) : Prop := wX4_isDuster (fun v1 => (v1 = 0 → wX4_finding (fun v3 S4 => post v3 S4) S (-1000000001)) ∧ (¬ v1 = 0 → wX4_within (fun v5 => (v5 = 0 → wX4_finding (fun v7 S8 => post v7 S8) S (-1000000001)) ∧ (¬ v5 = 0 → wX4_within (fun v9 => (¬ v9 = 0 → wX4_lookAhead (fun S11 => (¬ x3 = 0 → vp_in x1 8 ∧ (post (h_grimes (x_ahead S11) (Int32.toNatClampNeg x1)) S11)) ∧ (x3 = 0 → vp_in x1 8 ∧ (post (h_held (x_ahead S11) (Int32.toNatClampNeg x1)) S11))) S x2) ∧ (v9 = 0 → wX4_finding (fun v13 S14 => post v13 S14) S (-1000000001))) x3 0 1)) x2 0 100)) S x1
set_option maxRecDepth 100000 in
set_option maxHeartbeats 4000000 in
theorem ctX4_then {β : zz_B} {b : Nat → Nat} {post : Int32 → (XSt) → Prop} {S : XSt} {x1 : Int32} {x2 : Int32} {x3 : Int32} (h : wX4_then post S x1 x2 x3) : zCi β yX4_then cX4_then 4 (some .int) 6 137 [.ref (b 0), .int x1, .int x2, .int x3] (xW β b) S post := by
  unfold wX4_then at h
  unfold zCi
  refine zC.of (by decide) (Nat.le_of_ble_eq_true rfl) ?_
  intro Γ g hR
  show zV β 4 Γ ((xW β b) S) 0 [(0, .ref (b 0)), (1, .int x1), (2, .int x2), (3, .int x3)] []
  refine zv_aload_n (pc := 0) g dX4_then_0 0 rfl rfl ?_
  refine zv_iload_n (pc := 1) g dX4_then_1 1 rfl rfl ?_
  refine zv_cVp (pc := 2) g cw_X4_99 (ctX4_isDuster h) (by decide) (by decide) zz_p0 (q := 0) rfl rfl rfl rfl rfl (Nat.le_of_ble_eq_true rfl) dX4_then_2 (fun v1 h => ?_)
  refine zv_if_eq (pc := 5) 27 g dX4_then_5 rfl (fun c2 => ?_) (fun c2 => ?_)
  · replace h := h.1 c2
    refine zv_aload_n (pc := 27) g dX4_then_27 0 rfl rfl ?_
    refine zv_ldc (pc := 28) g wd_217 dX4_then_28 ?_
    refine zv_cVi (pc := 30) g cw_X4_52 (ctX4_finding h) (by decide) (by decide) zz_p0 (xW β b) (fun T => zz_p1 T) (q := 0) rfl rfl rfl rfl rfl (Nat.le_of_ble_eq_true rfl) dX4_then_30 (fun v3 S4 h => ?_)
    exact zv_iret (pc := 33) g hR dX4_then_33 ⟨_, _, rfl, rfl, h⟩
  · replace h := h.2 c2
    refine zv_iload_n (pc := 8) g dX4_then_8 2 rfl rfl ?_
    refine zv_iconst (pc := 9) g dX4_then_9 (v := 0) (by decide) ?_
    refine zv_bipush (pc := 10) g dX4_then_10 (v := 100) (by decide) ?_
    refine zv_cSp (pc := 12) g cw_X4_47 (ctX4_within h) (by decide) (by decide) zz_pN rfl rfl (Nat.le_of_ble_eq_true rfl) dX4_then_12 (fun v5 h => ?_)
    refine zv_if_eq (pc := 15) 27 g dX4_then_15 rfl (fun c6 => ?_) (fun c6 => ?_)
    · replace h := h.1 c6
      refine zv_aload_n (pc := 27) g dX4_then_27 0 rfl rfl ?_
      refine zv_ldc (pc := 28) g wd_217 dX4_then_28 ?_
      refine zv_cVi (pc := 30) g cw_X4_52 (ctX4_finding h) (by decide) (by decide) zz_p0 (xW β b) (fun T => zz_p1 T) (q := 0) rfl rfl rfl rfl rfl (Nat.le_of_ble_eq_true rfl) dX4_then_30 (fun v7 S8 h => ?_)
      exact zv_iret (pc := 33) g hR dX4_then_33 ⟨_, _, rfl, rfl, h⟩
    · replace h := h.2 c6
      refine zv_iload_n (pc := 18) g dX4_then_18 3 rfl rfl ?_
      refine zv_iconst (pc := 19) g dX4_then_19 (v := 0) (by decide) ?_
      refine zv_iconst (pc := 20) g dX4_then_20 (v := 1) (by decide) ?_
      refine zv_cSp (pc := 21) g cw_X4_47 (ctX4_within h) (by decide) (by decide) zz_pN rfl rfl (Nat.le_of_ble_eq_true rfl) dX4_then_21 (fun v9 h => ?_)
      refine zv_if_ne (pc := 24) 34 g dX4_then_24 rfl (fun c10 => ?_) (fun c10 => ?_)
      · replace h := h.1 c10
        refine zv_aload_n (pc := 34) g dX4_then_34 0 rfl rfl ?_
        refine zv_iload_n (pc := 35) g dX4_then_35 2 rfl rfl ?_
        refine zv_cVv (pc := 36) g cw_X4_151 (ctX4_lookAhead h) (by decide) (by decide) zz_p0 (xW β b) (fun T => zz_p1 T) (q := 0) rfl rfl rfl rfl rfl (Nat.le_of_ble_eq_true rfl) dX4_then_36 (fun S11 h => ?_)
        refine zv_iload_n (pc := 39) g dX4_then_39 3 rfl rfl ?_
        refine zv_if_ne (pc := 40) 55 g dX4_then_40 rfl (fun c12 => ?_) (fun c12 => ?_)
        · replace h := h.1 c12
          refine zv_aload_n (pc := 55) g dX4_then_55 0 rfl rfl ?_
          refine zv_get (pc := 56) g fl_X4_19 0 rfl rfl dX4_then_56 ?_
          refine zv_get (pc := 59) g fl_X4_105 15 rfl rfl dX4_then_59 ?_
          refine zv_iload_n (pc := 62) g dX4_then_62 1 rfl rfl ?_
          obtain ⟨hi, h⟩ := h
          refine zv_iald (pc := 63) g 20 rfl hi dX4_then_63 ?_
          exact zv_iret (pc := 64) g hR dX4_then_64 ⟨_, _, rfl, rfl, h⟩
        · replace h := h.2 c12
          refine zv_aload_n (pc := 43) g dX4_then_43 0 rfl rfl ?_
          refine zv_get (pc := 44) g fl_X4_19 0 rfl rfl dX4_then_44 ?_
          refine zv_get (pc := 47) g fl_X4_108 15 rfl rfl dX4_then_47 ?_
          refine zv_iload_n (pc := 50) g dX4_then_50 1 rfl rfl ?_
          obtain ⟨hi, h⟩ := h
          refine zv_iald (pc := 51) g 19 rfl hi dX4_then_51 ?_
          refine zv_goto (pc := 52) 64 g dX4_then_52 rfl ?_
          exact zv_iret (pc := 64) g hR dX4_then_64 ⟨_, _, rfl, rfl, h⟩
      · replace h := h.2 c10
        refine zv_aload_n (pc := 27) g dX4_then_27 0 rfl rfl ?_
        refine zv_ldc (pc := 28) g wd_217 dX4_then_28 ?_
        refine zv_cVi (pc := 30) g cw_X4_52 (ctX4_finding h) (by decide) (by decide) zz_p0 (xW β b) (fun T => zz_p1 T) (q := 0) rfl rfl rfl rfl rfl (Nat.le_of_ble_eq_true rfl) dX4_then_30 (fun v13 S14 h => ?_)
        exact zv_iret (pc := 33) g hR dX4_then_33 ⟨_, _, rfl, rfl, h⟩
def wX4_clean_27 (post : Int32 → (XSt) → Prop) : Nat → (XSt) → (Int32) → (Int32) → Prop
  | 0, _, _, _ => False
  | f0 + 1, S, x1, x2 => ((100 : Int32) < x2 → wX4_finding (fun v6 S7 => post v6 S7) S (-1000000004)) ∧ (¬ (100 : Int32) < x2 → vp_in x1 8 ∧ ((¬ (h_dust (x_ahead S) (Int32.toNatClampNeg x1)) = 0 → wX0_goDay (fun S9 => ∀ S10 : XSt, S10 = (x_ahead_s S S9) → (wX4_clean_27 post f0 S10 x1 (x2 + 1))) (x_ahead S)) ∧ ((h_dust (x_ahead S) (Int32.toNatClampNeg x1)) = 0 → post x2 S)))
set_option maxRecDepth 100000 in
set_option maxHeartbeats 4000000 in
theorem lX4_clean_27 {β : zz_B} {Γ : zz_X} {b : Nat → Nat} {post : Int32 → (XSt) → Prop} (g : zG β 3 Γ cX4_clean RX4 4 94) (hR : zR β Γ (some .int) (fun r w => ∃ (v : Int32) (T : XSt), r = some (.int v) ∧ w = (xW β b) T ∧ post v T)) : ∀ (f0 : Nat) (S : XSt) (x1 : Int32) (x2 : Int32) , wX4_clean_27 post f0 S x1 x2 → zV β 3 Γ ((xW β b) S) 27 [(0, .ref (b 0)), (1, .int x1), (2, .int x2)] [] := by
  intro f0
  induction f0 with
  | zero => intro S x1 x2 h; exact h.elim
  | succ f0 ih0 =>
    intro S x1 x2 h
    rw [wX4_clean_27] at h
    refine zv_iload_n (pc := 27) g dX4_clean_27 2 rfl rfl ?_
    refine zv_bipush (pc := 28) g dX4_clean_28 (v := 100) (by decide) ?_
    refine zv_icmp_gt (pc := 30) 60 g dX4_clean_30 rfl (fun c5 => ?_) (fun c5 => ?_)
    · replace h := h.1 c5
      refine zv_aload_n (pc := 60) g dX4_clean_60 0 rfl rfl ?_
      refine zv_ldc (pc := 61) g wd_391 dX4_clean_61 ?_
      refine zv_cVi (pc := 63) g cw_X4_52 (ctX4_finding h) (by decide) (by decide) zz_p0 (xW β b) (fun T => zz_p1 T) (q := 0) rfl rfl rfl rfl rfl (Nat.le_of_ble_eq_true rfl) dX4_clean_63 (fun v6 S7 h => ?_)
      exact zv_iret (pc := 66) g hR dX4_clean_66 ⟨_, _, rfl, rfl, h⟩
    · replace h := h.2 c5
      refine zv_aload_n (pc := 33) g dX4_clean_33 0 rfl rfl ?_
      refine zv_get (pc := 34) g fl_X4_19 0 rfl rfl dX4_clean_34 ?_
      refine zv_get (pc := 37) g fl_X4_64 15 rfl rfl dX4_clean_37 ?_
      refine zv_iload_n (pc := 40) g dX4_clean_40 1 rfl rfl ?_
      obtain ⟨hi, h⟩ := h
      refine zv_iald (pc := 41) g 16 rfl hi dX4_clean_41 ?_
      refine zv_if_ne (pc := 42) 47 g dX4_clean_42 rfl (fun c8 => ?_) (fun c8 => ?_)
      · replace h := h.1 c8
        refine zv_aload_n (pc := 47) g dX4_clean_47 0 rfl rfl ?_
        refine zv_get (pc := 48) g fl_X4_19 0 rfl rfl dX4_clean_48 ?_
        refine zv_cVv (pc := 51) g cw_X4_158 (ctX0_goDay h) (by decide) (by decide) (pmX_ahead β b S) (fun T => xW β b (x_ahead_s S T)) (fun T => pbX_ahead β b S T) (q := 0) rfl rfl rfl rfl rfl (Nat.le_of_ble_eq_true rfl) dX4_clean_51 (fun S9 h => ?_)
        refine zv_nmS (wf := (xW β b)) (fun S10 eS10 => ?_)
        replace h := h S10 eS10
        refine zv_iinc (pc := 54) 1 [(2, .int (x2 + 1)), (0, .ref (b 0)), (1, .int x1)] g dX4_clean_54 2 rfl (by decide) (by decide) rfl ?_
        refine zv_goto (pc := 57) 27 g dX4_clean_57 rfl ?_
        refine zv_sub [1, 2, 0] rfl ?_
        exact ih0 _ _ _ h
      · replace h := h.2 c8
        refine zv_iload_n (pc := 45) g dX4_clean_45 2 rfl rfl ?_
        exact zv_iret (pc := 46) g hR dX4_clean_46 ⟨_, _, rfl, rfl, h⟩
def wX4_clean (post : Int32 → (XSt) → Prop) (S : XSt) (x1 : Int32) : Prop := wX4_isRoom (fun v1 => (¬ v1 = 0 → wX0_becomeAs (fun S3 => ∀ S4 : XSt, S4 = (x_live_s (x_ahead_s S S3.1) S3.2) → (∃ f11 : Nat, wX4_clean_27 post f11 S4 x1 0)) (x_ahead S, x_live S)) ∧ (v1 = 0 → wX4_finding (fun v12 S13 => post v12 S13) S (-1000000001))) x1
set_option maxRecDepth 100000 in
set_option maxHeartbeats 4000000 in
theorem ctX4_clean {β : zz_B} {b : Nat → Nat} {post : Int32 → (XSt) → Prop} {S : XSt} {x1 : Int32} (h : wX4_clean post S x1) : zCi β yX4_clean cX4_clean 3 (some .int) 4 94 [.ref (b 0), .int x1] (xW β b) S post := by
  unfold wX4_clean at h
  unfold zCi
  refine zC.of (by decide) (Nat.le_of_ble_eq_true rfl) ?_
  intro Γ g hR
  show zV β 3 Γ ((xW β b) S) 0 [(0, .ref (b 0)), (1, .int x1)] []
  refine zv_iload_n (pc := 0) g dX4_clean_0 1 rfl rfl ?_
  refine zv_cSp (pc := 1) g cw_X4_60 (ctX4_isRoom h) (by decide) (by decide) zz_pN rfl rfl (Nat.le_of_ble_eq_true rfl) dX4_clean_1 (fun v1 h => ?_)
  refine zv_if_ne (pc := 4) 14 g dX4_clean_4 rfl (fun c2 => ?_) (fun c2 => ?_)
  · replace h := h.1 c2
    refine zv_aload_n (pc := 14) g dX4_clean_14 0 rfl rfl ?_
    refine zv_get (pc := 15) g fl_X4_19 0 rfl rfl dX4_clean_15 ?_
    refine zv_aload_n (pc := 18) g dX4_clean_18 0 rfl rfl ?_
    refine zv_get (pc := 19) g fl_X4_12 0 rfl rfl dX4_clean_19 ?_
    refine zv_cVv (pc := 22) g cw_X4_154 (ctX0_becomeAs h) (by decide) (by decide) (pmX_ahead_live β b S) (fun T => xW β b (x_live_s (x_ahead_s S T.1) T.2)) (fun T => pbX_ahead_live β b S T) (q := 0) rfl rfl rfl rfl rfl (Nat.le_of_ble_eq_true rfl) dX4_clean_22 (fun S3 h => ?_)
    refine zv_nmS (wf := (xW β b)) (fun S4 eS4 => ?_)
    replace h := h S4 eS4
    refine zv_iconst (pc := 25) g dX4_clean_25 (v := 0) (by decide) ?_
    refine zv_istore_n (pc := 26) 2 [(2, .int 0), (0, .ref (b 0)), (1, .int x1)] g dX4_clean_26 rfl (by decide) rfl ?_
    obtain ⟨f11, h⟩ := h
    refine zv_sub [1, 2, 0] rfl ?_
    exact lX4_clean_27 g hR f11 _ _ _ h
  · replace h := h.2 c2
    refine zv_aload_n (pc := 7) g dX4_clean_7 0 rfl rfl ?_
    refine zv_ldc (pc := 8) g wd_217 dX4_clean_8 ?_
    refine zv_cVi (pc := 10) g cw_X4_52 (ctX4_finding h) (by decide) (by decide) zz_p0 (xW β b) (fun T => zz_p1 T) (q := 0) rfl rfl rfl rfl rfl (Nat.le_of_ble_eq_true rfl) dX4_clean_10 (fun v12 S13 h => ?_)
    exact zv_iret (pc := 13) g hR dX4_clean_13 ⟨_, _, rfl, rfl, h⟩
def wX4_isMemory (post : Int32 → Prop) (x0 : Int32) : Prop := wX4_within (fun v1 => (v1 = 0 ∨ v1 = 1) ∧ post v1) x0 0 9
set_option maxRecDepth 100000 in
set_option maxHeartbeats 4000000 in
theorem ctX4_isMemory {β : zz_B} {post : Int32 → Prop} {x0 : Int32} (h : wX4_isMemory post x0) : zCp β yX4_isMemory cX4_isMemory 1 (some .boolean) 1 22 [.int x0] [] post := by
  unfold wX4_isMemory at h
  unfold zCp
  refine zC.of (by decide) (Nat.le_of_ble_eq_true rfl) ?_
  intro Γ g hR
  show zV β 1 Γ [] 0 [(0, .int x0)] []
  refine zv_iload_n (pc := 0) g dX4_isMemory_0 0 rfl rfl ?_
  refine zv_iconst (pc := 1) g dX4_isMemory_1 (v := 0) (by decide) ?_
  refine zv_bipush (pc := 2) g dX4_isMemory_2 (v := 9) (by decide) ?_
  refine zv_cSp (pc := 4) g cw_X4_47 (ctX4_within h) (by decide) (by decide) zz_pN rfl rfl (Nat.le_of_ble_eq_true rfl) dX4_isMemory_4 (fun v1 h => ?_)
  exact zv_zret (pc := 7) g hR (zz_nb h.1).1 dX4_isMemory_7 ⟨_, rfl, rfl, h.2⟩
def wX4_firstWith_memories_14 (post : Int32 → (XSt) → Prop) : Nat → (XSt) → (Int32) → (Int32) → (Int32) → Prop
  | 0, _, _, _, _ => False
  | f0 + 1, S, x2, x3, x4 => ((100 : Int32) < x4 → wX4_finding (fun v4 S5 => post v4 S5) S (-1000000004)) ∧ (¬ (100 : Int32) < x4 → vp_in x2 8 ∧ (((((h_memories (x_ahead S) (Int32.toNatClampNeg x2)) >>> (x3 &&& 31)) &&& 1) = 0 → wX0_goDay (fun S7 => ∀ S8 : XSt, S8 = (x_ahead_s S S7) → (wX4_firstWith_memories_14 post f0 S8 x2 x3 (x4 + 1))) (x_ahead S)) ∧ (¬ (((h_memories (x_ahead S) (Int32.toNatClampNeg x2)) >>> (x3 &&& 31)) &&& 1) = 0 → post x4 S)))
set_option maxRecDepth 100000 in
set_option maxHeartbeats 4000000 in
theorem lX4_firstWith_memories_14 {β : zz_B} {Γ : zz_X} {b : Nat → Nat} {post : Int32 → (XSt) → Prop} (g : zG β 5 Γ cX4_firstWith RX4 4 94) (hR : zR β Γ (some .int) (fun r w => ∃ (v : Int32) (T : XSt), r = some (.int v) ∧ w = (xW β b) T ∧ post v T)) : ∀ (f0 : Nat) (S : XSt) (x2 : Int32) (x3 : Int32) (x4 : Int32) , wX4_firstWith_memories_14 post f0 S x2 x3 x4 → zV β 5 Γ ((xW β b) S) 14 [(0, .ref (b 0)), (1, .ref (b 17)), (2, .int x2), (3, .int x3), (4, .int x4)] [] := by
  intro f0
  induction f0 with
  | zero => intro S x2 x3 x4 h; exact h.elim
  | succ f0 ih0 =>
    intro S x2 x3 x4 h
    rw [wX4_firstWith_memories_14] at h
    refine zv_iload (pc := 14) g dX4_firstWith_14 4 rfl ?_
    refine zv_bipush (pc := 16) g dX4_firstWith_16 (v := 100) (by decide) ?_
    refine zv_icmp_gt (pc := 18) 47 g dX4_firstWith_18 rfl (fun c3 => ?_) (fun c3 => ?_)
    · replace h := h.1 c3
      refine zv_aload_n (pc := 47) g dX4_firstWith_47 0 rfl rfl ?_
      refine zv_ldc (pc := 48) g wd_391 dX4_firstWith_48 ?_
      refine zv_cVi (pc := 50) g cw_X4_52 (ctX4_finding h) (by decide) (by decide) zz_p0 (xW β b) (fun T => zz_p1 T) (q := 0) rfl rfl rfl rfl rfl (Nat.le_of_ble_eq_true rfl) dX4_firstWith_50 (fun v4 S5 h => ?_)
      exact zv_iret (pc := 53) g hR dX4_firstWith_53 ⟨_, _, rfl, rfl, h⟩
    · replace h := h.2 c3
      refine zv_aload_n (pc := 21) g dX4_firstWith_21 1 rfl rfl ?_
      refine zv_iload_n (pc := 22) g dX4_firstWith_22 2 rfl rfl ?_
      obtain ⟨hi, h⟩ := h
      refine zv_iald (pc := 23) g 17 rfl hi dX4_firstWith_23 ?_
      refine zv_iload_n (pc := 24) g dX4_firstWith_24 3 rfl rfl ?_
      refine zv_ishr (pc := 25) g dX4_firstWith_25 ?_
      refine zv_iconst (pc := 26) g dX4_firstWith_26 (v := 1) (by decide) ?_
      refine zv_iand (pc := 27) g dX4_firstWith_27 ?_
      refine zv_if_eq (pc := 28) 34 g dX4_firstWith_28 rfl (fun c6 => ?_) (fun c6 => ?_)
      · replace h := h.1 c6
        refine zv_aload_n (pc := 34) g dX4_firstWith_34 0 rfl rfl ?_
        refine zv_get (pc := 35) g fl_X4_19 0 rfl rfl dX4_firstWith_35 ?_
        refine zv_cVv (pc := 38) g cw_X4_158 (ctX0_goDay h) (by decide) (by decide) (pmX_ahead β b S) (fun T => xW β b (x_ahead_s S T)) (fun T => pbX_ahead β b S T) (q := 0) rfl rfl rfl rfl rfl (Nat.le_of_ble_eq_true rfl) dX4_firstWith_38 (fun S7 h => ?_)
        refine zv_nmS (wf := (xW β b)) (fun S8 eS8 => ?_)
        replace h := h S8 eS8
        refine zv_iinc (pc := 41) 1 [(4, .int (x4 + 1)), (0, .ref (b 0)), (1, .ref (b 17)), (2, .int x2), (3, .int x3)] g dX4_firstWith_41 4 rfl (by decide) (by decide) rfl ?_
        refine zv_goto (pc := 44) 14 g dX4_firstWith_44 rfl ?_
        refine zv_sub [1, 2, 3, 4, 0] rfl ?_
        exact ih0 _ _ _ _ h
      · replace h := h.2 c6
        refine zv_iload (pc := 31) g dX4_firstWith_31 4 rfl ?_
        exact zv_iret (pc := 33) g hR dX4_firstWith_33 ⟨_, _, rfl, rfl, h⟩
def wX4_firstWith_memories (post : Int32 → (XSt) → Prop) (S : XSt) (x2 : Int32) (x3 : Int32) : Prop := wX0_becomeAs (fun S1 => ∀ S2 : XSt, S2 = (x_live_s (x_ahead_s S S1.1) S1.2) → (∃ f9 : Nat, wX4_firstWith_memories_14 post f9 S2 x2 x3 0)) (x_ahead S, x_live S)
set_option maxRecDepth 100000 in
set_option maxHeartbeats 4000000 in
theorem ctX4_firstWith_memories {β : zz_B} {b : Nat → Nat} {post : Int32 → (XSt) → Prop} {S : XSt} {x2 : Int32} {x3 : Int32} (h : wX4_firstWith_memories post S x2 x3) : zCi β yX4_firstWith cX4_firstWith 5 (some .int) 4 94 [.ref (b 0), .ref (b 17), .int x2, .int x3] (xW β b) S post := by
  unfold wX4_firstWith_memories at h
  unfold zCi
  refine zC.of (by decide) (Nat.le_of_ble_eq_true rfl) ?_
  intro Γ g hR
  show zV β 5 Γ ((xW β b) S) 0 [(0, .ref (b 0)), (1, .ref (b 17)), (2, .int x2), (3, .int x3)] []
  refine zv_aload_n (pc := 0) g dX4_firstWith_0 0 rfl rfl ?_
  refine zv_get (pc := 1) g fl_X4_19 0 rfl rfl dX4_firstWith_1 ?_
  refine zv_aload_n (pc := 4) g dX4_firstWith_4 0 rfl rfl ?_
  refine zv_get (pc := 5) g fl_X4_12 0 rfl rfl dX4_firstWith_5 ?_
  refine zv_cVv (pc := 8) g cw_X4_154 (ctX0_becomeAs h) (by decide) (by decide) (pmX_ahead_live β b S) (fun T => xW β b (x_live_s (x_ahead_s S T.1) T.2)) (fun T => pbX_ahead_live β b S T) (q := 0) rfl rfl rfl rfl rfl (Nat.le_of_ble_eq_true rfl) dX4_firstWith_8 (fun S1 h => ?_)
  refine zv_nmS (wf := (xW β b)) (fun S2 eS2 => ?_)
  replace h := h S2 eS2
  refine zv_iconst (pc := 11) g dX4_firstWith_11 (v := 0) (by decide) ?_
  refine zv_istore (pc := 12) [(4, .int 0), (0, .ref (b 0)), (1, .ref (b 17)), (2, .int x2), (3, .int x3)] g dX4_firstWith_12 (by decide) rfl ?_
  obtain ⟨f9, h⟩ := h
  refine zv_sub [1, 2, 3, 4, 0] rfl ?_
  exact lX4_firstWith_memories_14 g hR f9 _ _ _ _ h
def wX4_firstWith_held_14 (post : Int32 → (XSt) → Prop) : Nat → (XSt) → (Int32) → (Int32) → (Int32) → Prop
  | 0, _, _, _, _ => False
  | f0 + 1, S, x2, x3, x4 => ((100 : Int32) < x4 → wX4_finding (fun v4 S5 => post v4 S5) S (-1000000004)) ∧ (¬ (100 : Int32) < x4 → vp_in x2 8 ∧ (((((h_held (x_ahead S) (Int32.toNatClampNeg x2)) >>> (x3 &&& 31)) &&& 1) = 0 → wX0_goDay (fun S7 => ∀ S8 : XSt, S8 = (x_ahead_s S S7) → (wX4_firstWith_held_14 post f0 S8 x2 x3 (x4 + 1))) (x_ahead S)) ∧ (¬ (((h_held (x_ahead S) (Int32.toNatClampNeg x2)) >>> (x3 &&& 31)) &&& 1) = 0 → post x4 S)))
set_option maxRecDepth 100000 in
set_option maxHeartbeats 4000000 in
theorem lX4_firstWith_held_14 {β : zz_B} {Γ : zz_X} {b : Nat → Nat} {post : Int32 → (XSt) → Prop} (g : zG β 5 Γ cX4_firstWith RX4 4 94) (hR : zR β Γ (some .int) (fun r w => ∃ (v : Int32) (T : XSt), r = some (.int v) ∧ w = (xW β b) T ∧ post v T)) : ∀ (f0 : Nat) (S : XSt) (x2 : Int32) (x3 : Int32) (x4 : Int32) , wX4_firstWith_held_14 post f0 S x2 x3 x4 → zV β 5 Γ ((xW β b) S) 14 [(0, .ref (b 0)), (1, .ref (b 19)), (2, .int x2), (3, .int x3), (4, .int x4)] [] := by
  intro f0
  induction f0 with
  | zero => intro S x2 x3 x4 h; exact h.elim
  | succ f0 ih0 =>
    intro S x2 x3 x4 h
    rw [wX4_firstWith_held_14] at h
    refine zv_iload (pc := 14) g dX4_firstWith_14 4 rfl ?_
    refine zv_bipush (pc := 16) g dX4_firstWith_16 (v := 100) (by decide) ?_
    refine zv_icmp_gt (pc := 18) 47 g dX4_firstWith_18 rfl (fun c3 => ?_) (fun c3 => ?_)
    · replace h := h.1 c3
      refine zv_aload_n (pc := 47) g dX4_firstWith_47 0 rfl rfl ?_
      refine zv_ldc (pc := 48) g wd_391 dX4_firstWith_48 ?_
      refine zv_cVi (pc := 50) g cw_X4_52 (ctX4_finding h) (by decide) (by decide) zz_p0 (xW β b) (fun T => zz_p1 T) (q := 0) rfl rfl rfl rfl rfl (Nat.le_of_ble_eq_true rfl) dX4_firstWith_50 (fun v4 S5 h => ?_)
      exact zv_iret (pc := 53) g hR dX4_firstWith_53 ⟨_, _, rfl, rfl, h⟩
    · replace h := h.2 c3
      refine zv_aload_n (pc := 21) g dX4_firstWith_21 1 rfl rfl ?_
      refine zv_iload_n (pc := 22) g dX4_firstWith_22 2 rfl rfl ?_
      obtain ⟨hi, h⟩ := h
      refine zv_iald (pc := 23) g 19 rfl hi dX4_firstWith_23 ?_
      refine zv_iload_n (pc := 24) g dX4_firstWith_24 3 rfl rfl ?_
      refine zv_ishr (pc := 25) g dX4_firstWith_25 ?_
      refine zv_iconst (pc := 26) g dX4_firstWith_26 (v := 1) (by decide) ?_
      refine zv_iand (pc := 27) g dX4_firstWith_27 ?_
      refine zv_if_eq (pc := 28) 34 g dX4_firstWith_28 rfl (fun c6 => ?_) (fun c6 => ?_)
      · replace h := h.1 c6
        refine zv_aload_n (pc := 34) g dX4_firstWith_34 0 rfl rfl ?_
        refine zv_get (pc := 35) g fl_X4_19 0 rfl rfl dX4_firstWith_35 ?_
        refine zv_cVv (pc := 38) g cw_X4_158 (ctX0_goDay h) (by decide) (by decide) (pmX_ahead β b S) (fun T => xW β b (x_ahead_s S T)) (fun T => pbX_ahead β b S T) (q := 0) rfl rfl rfl rfl rfl (Nat.le_of_ble_eq_true rfl) dX4_firstWith_38 (fun S7 h => ?_)
        refine zv_nmS (wf := (xW β b)) (fun S8 eS8 => ?_)
        replace h := h S8 eS8
        refine zv_iinc (pc := 41) 1 [(4, .int (x4 + 1)), (0, .ref (b 0)), (1, .ref (b 19)), (2, .int x2), (3, .int x3)] g dX4_firstWith_41 4 rfl (by decide) (by decide) rfl ?_
        refine zv_goto (pc := 44) 14 g dX4_firstWith_44 rfl ?_
        refine zv_sub [1, 2, 3, 4, 0] rfl ?_
        exact ih0 _ _ _ _ h
      · replace h := h.2 c6
        refine zv_iload (pc := 31) g dX4_firstWith_31 4 rfl ?_
        exact zv_iret (pc := 33) g hR dX4_firstWith_33 ⟨_, _, rfl, rfl, h⟩
def wX4_firstWith_held (post : Int32 → (XSt) → Prop) (S : XSt) (x2 : Int32) (x3 : Int32) : Prop := wX0_becomeAs (fun S1 => ∀ S2 : XSt, S2 = (x_live_s (x_ahead_s S S1.1) S1.2) → (∃ f9 : Nat, wX4_firstWith_held_14 post f9 S2 x2 x3 0)) (x_ahead S, x_live S)
set_option maxRecDepth 100000 in
set_option maxHeartbeats 4000000 in
theorem ctX4_firstWith_held {β : zz_B} {b : Nat → Nat} {post : Int32 → (XSt) → Prop} {S : XSt} {x2 : Int32} {x3 : Int32} (h : wX4_firstWith_held post S x2 x3) : zCi β yX4_firstWith cX4_firstWith 5 (some .int) 4 94 [.ref (b 0), .ref (b 19), .int x2, .int x3] (xW β b) S post := by
  unfold wX4_firstWith_held at h
  unfold zCi
  refine zC.of (by decide) (Nat.le_of_ble_eq_true rfl) ?_
  intro Γ g hR
  show zV β 5 Γ ((xW β b) S) 0 [(0, .ref (b 0)), (1, .ref (b 19)), (2, .int x2), (3, .int x3)] []
  refine zv_aload_n (pc := 0) g dX4_firstWith_0 0 rfl rfl ?_
  refine zv_get (pc := 1) g fl_X4_19 0 rfl rfl dX4_firstWith_1 ?_
  refine zv_aload_n (pc := 4) g dX4_firstWith_4 0 rfl rfl ?_
  refine zv_get (pc := 5) g fl_X4_12 0 rfl rfl dX4_firstWith_5 ?_
  refine zv_cVv (pc := 8) g cw_X4_154 (ctX0_becomeAs h) (by decide) (by decide) (pmX_ahead_live β b S) (fun T => xW β b (x_live_s (x_ahead_s S T.1) T.2)) (fun T => pbX_ahead_live β b S T) (q := 0) rfl rfl rfl rfl rfl (Nat.le_of_ble_eq_true rfl) dX4_firstWith_8 (fun S1 h => ?_)
  refine zv_nmS (wf := (xW β b)) (fun S2 eS2 => ?_)
  replace h := h S2 eS2
  refine zv_iconst (pc := 11) g dX4_firstWith_11 (v := 0) (by decide) ?_
  refine zv_istore (pc := 12) [(4, .int 0), (0, .ref (b 0)), (1, .ref (b 19)), (2, .int x2), (3, .int x3)] g dX4_firstWith_12 (by decide) rfl ?_
  obtain ⟨f9, h⟩ := h
  refine zv_sub [1, 2, 3, 4, 0] rfl ?_
  exact lX4_firstWith_held_14 g hR f9 _ _ _ _ h
def wX4_comes (post : Int32 → (XSt) → Prop) (S : XSt) (x1 : Int32) (x2 : Int32) : Prop := wX4_isRoom (fun v1 => (v1 = 0 → wX4_finding (fun v3 S4 => post v3 S4) S (-1000000001)) ∧ (¬ v1 = 0 → wX4_isMemory (fun v5 => (¬ v5 = 0 → wX4_firstWith_memories (fun v7 S8 => post v7 S8) S x1 x2) ∧ (v5 = 0 → wX4_finding (fun v9 S10 => post v9 S10) S (-1000000001))) x2)) x1
set_option maxRecDepth 100000 in
set_option maxHeartbeats 4000000 in
theorem ctX4_comes {β : zz_B} {b : Nat → Nat} {post : Int32 → (XSt) → Prop} {S : XSt} {x1 : Int32} {x2 : Int32} (h : wX4_comes post S x1 x2) : zCi β yX4_comes cX4_comes 3 (some .int) 5 118 [.ref (b 0), .int x1, .int x2] (xW β b) S post := by
  unfold wX4_comes at h
  unfold zCi
  refine zC.of (by decide) (Nat.le_of_ble_eq_true rfl) ?_
  intro Γ g hR
  show zV β 3 Γ ((xW β b) S) 0 [(0, .ref (b 0)), (1, .int x1), (2, .int x2)] []
  refine zv_iload_n (pc := 0) g dX4_comes_0 1 rfl rfl ?_
  refine zv_cSp (pc := 1) g cw_X4_60 (ctX4_isRoom h) (by decide) (by decide) zz_pN rfl rfl (Nat.le_of_ble_eq_true rfl) dX4_comes_1 (fun v1 h => ?_)
  refine zv_if_eq (pc := 4) 14 g dX4_comes_4 rfl (fun c2 => ?_) (fun c2 => ?_)
  · replace h := h.1 c2
    refine zv_aload_n (pc := 14) g dX4_comes_14 0 rfl rfl ?_
    refine zv_ldc (pc := 15) g wd_217 dX4_comes_15 ?_
    refine zv_cVi (pc := 17) g cw_X4_52 (ctX4_finding h) (by decide) (by decide) zz_p0 (xW β b) (fun T => zz_p1 T) (q := 0) rfl rfl rfl rfl rfl (Nat.le_of_ble_eq_true rfl) dX4_comes_17 (fun v3 S4 h => ?_)
    exact zv_iret (pc := 20) g hR dX4_comes_20 ⟨_, _, rfl, rfl, h⟩
  · replace h := h.2 c2
    refine zv_iload_n (pc := 7) g dX4_comes_7 2 rfl rfl ?_
    refine zv_cSp (pc := 8) g cw_X4_162 (ctX4_isMemory h) (by decide) (by decide) zz_pN rfl rfl (Nat.le_of_ble_eq_true rfl) dX4_comes_8 (fun v5 h => ?_)
    refine zv_if_ne (pc := 11) 21 g dX4_comes_11 rfl (fun c6 => ?_) (fun c6 => ?_)
    · replace h := h.1 c6
      refine zv_aload_n (pc := 21) g dX4_comes_21 0 rfl rfl ?_
      refine zv_aload_n (pc := 22) g dX4_comes_22 0 rfl rfl ?_
      refine zv_get (pc := 23) g fl_X4_19 0 rfl rfl dX4_comes_23 ?_
      refine zv_get (pc := 26) g fl_X4_67 15 rfl rfl dX4_comes_26 ?_
      refine zv_iload_n (pc := 29) g dX4_comes_29 1 rfl rfl ?_
      refine zv_iload_n (pc := 30) g dX4_comes_30 2 rfl rfl ?_
      refine zv_cVi (pc := 31) g cw_X4_165 (ctX4_firstWith_memories h) (by decide) (by decide) zz_p0 (xW β b) (fun T => zz_p1 T) (q := 0) rfl rfl rfl rfl rfl (Nat.le_of_ble_eq_true rfl) dX4_comes_31 (fun v7 S8 h => ?_)
      exact zv_iret (pc := 34) g hR dX4_comes_34 ⟨_, _, rfl, rfl, h⟩
    · replace h := h.2 c6
      refine zv_aload_n (pc := 14) g dX4_comes_14 0 rfl rfl ?_
      refine zv_ldc (pc := 15) g wd_217 dX4_comes_15 ?_
      refine zv_cVi (pc := 17) g cw_X4_52 (ctX4_finding h) (by decide) (by decide) zz_p0 (xW β b) (fun T => zz_p1 T) (q := 0) rfl rfl rfl rfl rfl (Nat.le_of_ble_eq_true rfl) dX4_comes_17 (fun v9 S10 h => ?_)
      exact zv_iret (pc := 20) g hR dX4_comes_20 ⟨_, _, rfl, rfl, h⟩
def wX4_holds (post : Int32 → (XSt) → Prop) (S : XSt) (x1 : Int32) (x2 : Int32) : Prop := wX4_isDuster (fun v1 => (v1 = 0 → wX4_finding (fun v3 S4 => post v3 S4) S (-1000000001)) ∧ (¬ v1 = 0 → wX4_isMemory (fun v5 => (¬ v5 = 0 → wX4_firstWith_held (fun v7 S8 => post v7 S8) S x1 x2) ∧ (v5 = 0 → wX4_finding (fun v9 S10 => post v9 S10) S (-1000000001))) x2)) S x1
set_option maxRecDepth 100000 in
set_option maxHeartbeats 4000000 in
theorem ctX4_holds {β : zz_B} {b : Nat → Nat} {post : Int32 → (XSt) → Prop} {S : XSt} {x1 : Int32} {x2 : Int32} (h : wX4_holds post S x1 x2) : zCi β yX4_holds cX4_holds 3 (some .int) 5 118 [.ref (b 0), .int x1, .int x2] (xW β b) S post := by
  unfold wX4_holds at h
  unfold zCi
  refine zC.of (by decide) (Nat.le_of_ble_eq_true rfl) ?_
  intro Γ g hR
  show zV β 3 Γ ((xW β b) S) 0 [(0, .ref (b 0)), (1, .int x1), (2, .int x2)] []
  refine zv_aload_n (pc := 0) g dX4_holds_0 0 rfl rfl ?_
  refine zv_iload_n (pc := 1) g dX4_holds_1 1 rfl rfl ?_
  refine zv_cVp (pc := 2) g cw_X4_99 (ctX4_isDuster h) (by decide) (by decide) zz_p0 (q := 0) rfl rfl rfl rfl rfl (Nat.le_of_ble_eq_true rfl) dX4_holds_2 (fun v1 h => ?_)
  refine zv_if_eq (pc := 5) 15 g dX4_holds_5 rfl (fun c2 => ?_) (fun c2 => ?_)
  · replace h := h.1 c2
    refine zv_aload_n (pc := 15) g dX4_holds_15 0 rfl rfl ?_
    refine zv_ldc (pc := 16) g wd_217 dX4_holds_16 ?_
    refine zv_cVi (pc := 18) g cw_X4_52 (ctX4_finding h) (by decide) (by decide) zz_p0 (xW β b) (fun T => zz_p1 T) (q := 0) rfl rfl rfl rfl rfl (Nat.le_of_ble_eq_true rfl) dX4_holds_18 (fun v3 S4 h => ?_)
    exact zv_iret (pc := 21) g hR dX4_holds_21 ⟨_, _, rfl, rfl, h⟩
  · replace h := h.2 c2
    refine zv_iload_n (pc := 8) g dX4_holds_8 2 rfl rfl ?_
    refine zv_cSp (pc := 9) g cw_X4_162 (ctX4_isMemory h) (by decide) (by decide) zz_pN rfl rfl (Nat.le_of_ble_eq_true rfl) dX4_holds_9 (fun v5 h => ?_)
    refine zv_if_ne (pc := 12) 22 g dX4_holds_12 rfl (fun c6 => ?_) (fun c6 => ?_)
    · replace h := h.1 c6
      refine zv_aload_n (pc := 22) g dX4_holds_22 0 rfl rfl ?_
      refine zv_aload_n (pc := 23) g dX4_holds_23 0 rfl rfl ?_
      refine zv_get (pc := 24) g fl_X4_19 0 rfl rfl dX4_holds_24 ?_
      refine zv_get (pc := 27) g fl_X4_108 15 rfl rfl dX4_holds_27 ?_
      refine zv_iload_n (pc := 30) g dX4_holds_30 1 rfl rfl ?_
      refine zv_iload_n (pc := 31) g dX4_holds_31 2 rfl rfl ?_
      refine zv_cVi (pc := 32) g cw_X4_165 (ctX4_firstWith_held h) (by decide) (by decide) zz_p0 (xW β b) (fun T => zz_p1 T) (q := 0) rfl rfl rfl rfl rfl (Nat.le_of_ble_eq_true rfl) dX4_holds_32 (fun v7 S8 h => ?_)
      exact zv_iret (pc := 35) g hR dX4_holds_35 ⟨_, _, rfl, rfl, h⟩
    · replace h := h.2 c6
      refine zv_aload_n (pc := 15) g dX4_holds_15 0 rfl rfl ?_
      refine zv_ldc (pc := 16) g wd_217 dX4_holds_16 ?_
      refine zv_cVi (pc := 18) g cw_X4_52 (ctX4_finding h) (by decide) (by decide) zz_p0 (xW β b) (fun T => zz_p1 T) (q := 0) rfl rfl rfl rfl rfl (Nat.le_of_ble_eq_true rfl) dX4_holds_18 (fun v9 S10 h => ?_)
      exact zv_iret (pc := 21) g hR dX4_holds_21 ⟨_, _, rfl, rfl, h⟩
def wX4_dustAheadAfter (post : Int32 → (XSt) → Prop) (S : XSt) (x1 : Int32) : Prop := wX0_goDays (fun S1 => ∀ S2 : XSt, S2 = (x_ahead_s S S1) → (wX0_dustOfAll (fun v3 => post v3 S2) (x_ahead S2))) (x_ahead S) x1
set_option maxRecDepth 100000 in
set_option maxHeartbeats 4000000 in
theorem ctX4_dustAheadAfter {β : zz_B} {b : Nat → Nat} {post : Int32 → (XSt) → Prop} {S : XSt} {x1 : Int32} (h : wX4_dustAheadAfter post S x1) : zCi β yX4_dustAheadAfter cX4_dustAheadAfter 2 (some .int) 5 116 [.ref (b 0), .int x1] (xW β b) S post := by
  unfold wX4_dustAheadAfter at h
  unfold zCi
  refine zC.of (by decide) (Nat.le_of_ble_eq_true rfl) ?_
  intro Γ g hR
  show zV β 2 Γ ((xW β b) S) 0 [(0, .ref (b 0)), (1, .int x1)] []
  refine zv_aload_n (pc := 0) g dX4_dustAheadAfter_0 0 rfl rfl ?_
  refine zv_get (pc := 1) g fl_X4_19 0 rfl rfl dX4_dustAheadAfter_1 ?_
  refine zv_iload_n (pc := 4) g dX4_dustAheadAfter_4 1 rfl rfl ?_
  refine zv_cVv (pc := 5) g cw_X4_147 (ctX0_goDays h) (by decide) (by decide) (pmX_ahead β b S) (fun T => xW β b (x_ahead_s S T)) (fun T => pbX_ahead β b S T) (q := 0) rfl rfl rfl rfl rfl (Nat.le_of_ble_eq_true rfl) dX4_dustAheadAfter_5 (fun S1 h => ?_)
  refine zv_nmS (wf := (xW β b)) (fun S2 eS2 => ?_)
  replace h := h S2 eS2
  refine zv_aload_n (pc := 8) g dX4_dustAheadAfter_8 0 rfl rfl ?_
  refine zv_get (pc := 9) g fl_X4_19 0 rfl rfl dX4_dustAheadAfter_9 ?_
  refine zv_cVp (pc := 12) g cw_X4_76 (ctX0_dustOfAll h) (by decide) (by decide) (pmX_ahead β b S2) (q := 0) rfl rfl rfl rfl rfl (Nat.le_of_ble_eq_true rfl) dX4_dustAheadAfter_12 (fun v3 h => ?_)
  exact zv_iret (pc := 15) g hR dX4_dustAheadAfter_15 ⟨_, _, rfl, rfl, h⟩
def wX4_round_34 (post : Int32 → (XSt) → Prop) : Nat → (XSt) → (Int32) → (Int32) → (Int32) → (Int32) → (Int32) → Prop
  | 0, _, _, _, _, _, _ => False
  | f0 + 1, S, x1, x2, x3, x4, x5 => ((8 : Int32) ≤ x5 → post x3 S) ∧ (¬ (8 : Int32) ≤ x5 → wX0_becomeAs (fun S8 => ∀ S9 : XSt, S9 = (x_live_s (x_ahead_s S S8.1) S8.2) → (vp_in x1 8 ∧ (∀ S10 : XSt, S10 = (x_ahead_s S9 (h_rounds_s (x_ahead S9) (upd (h_rounds (x_ahead S9)) (Int32.toNatClampNeg x1) x5))) → (wX4_dustAheadAfter (fun v11 S12 => (x4 ≤ v11 → wX4_round_34 post f0 S12 x1 x2 x3 x4 (x5 + 1)) ∧ (¬ x4 ≤ v11 → wX4_round_34 post f0 S12 x1 x2 x5 v11 (x5 + 1))) S10 x2)))) (x_ahead S, x_live S))
set_option maxRecDepth 100000 in
set_option maxHeartbeats 4000000 in
theorem lX4_round_34 {β : zz_B} {Γ : zz_X} {b : Nat → Nat} {post : Int32 → (XSt) → Prop} (g : zG β 7 Γ cX4_round RX4 6 137) (hR : zR β Γ (some .int) (fun r w => ∃ (v : Int32) (T : XSt), r = some (.int v) ∧ w = (xW β b) T ∧ post v T)) : ∀ (f0 : Nat) (S : XSt) (x1 : Int32) (x2 : Int32) (x3 : Int32) (x4 : Int32) (x5 : Int32) , wX4_round_34 post f0 S x1 x2 x3 x4 x5 → zV β 7 Γ ((xW β b) S) 34 [(0, .ref (b 0)), (1, .int x1), (2, .int x2), (3, .int x3), (4, .int x4), (5, .int x5)] [] := by
  intro f0
  induction f0 with
  | zero => intro S x1 x2 x3 x4 x5 h; exact h.elim
  | succ f0 ih0 =>
    intro S x1 x2 x3 x4 x5 h
    rw [wX4_round_34] at h
    refine zv_iload (pc := 34) g dX4_round_34 5 rfl ?_
    refine zv_bipush (pc := 36) g dX4_round_36 (v := 8) (by decide) ?_
    refine zv_icmp_ge (pc := 38) 90 g dX4_round_38 rfl (fun c7 => ?_) (fun c7 => ?_)
    · replace h := h.1 c7
      refine zv_iload_n (pc := 90) g dX4_round_90 3 rfl rfl ?_
      exact zv_iret (pc := 91) g hR dX4_round_91 ⟨_, _, rfl, rfl, h⟩
    · replace h := h.2 c7
      refine zv_aload_n (pc := 41) g dX4_round_41 0 rfl rfl ?_
      refine zv_get (pc := 42) g fl_X4_19 0 rfl rfl dX4_round_42 ?_
      refine zv_aload_n (pc := 45) g dX4_round_45 0 rfl rfl ?_
      refine zv_get (pc := 46) g fl_X4_12 0 rfl rfl dX4_round_46 ?_
      refine zv_cVv (pc := 49) g cw_X4_154 (ctX0_becomeAs h) (by decide) (by decide) (pmX_ahead_live β b S) (fun T => xW β b (x_live_s (x_ahead_s S T.1) T.2)) (fun T => pbX_ahead_live β b S T) (q := 0) rfl rfl rfl rfl rfl (Nat.le_of_ble_eq_true rfl) dX4_round_49 (fun S8 h => ?_)
      refine zv_nmS (wf := (xW β b)) (fun S9 eS9 => ?_)
      replace h := h S9 eS9
      refine zv_aload_n (pc := 52) g dX4_round_52 0 rfl rfl ?_
      refine zv_get (pc := 53) g fl_X4_19 0 rfl rfl dX4_round_53 ?_
      refine zv_get (pc := 56) g fl_X4_111 15 rfl rfl dX4_round_56 ?_
      refine zv_iload_n (pc := 59) g dX4_round_59 1 rfl rfl ?_
      refine zv_iload (pc := 60) g dX4_round_60 5 rfl ?_
      obtain ⟨hi, h⟩ := h
      refine zv_ials (pc := 62) ((xW β b) (x_ahead_s S9 (h_rounds_s (x_ahead S9) (upd (h_rounds (x_ahead S9)) (Int32.toNatClampNeg x1) x5)))) g 21 rfl hi rfl dX4_round_62 ?_
      refine zv_nmS (wf := (xW β b)) (fun S10 eS10 => ?_)
      replace h := h S10 eS10
      refine zv_aload_n (pc := 63) g dX4_round_63 0 rfl rfl ?_
      refine zv_iload_n (pc := 64) g dX4_round_64 2 rfl rfl ?_
      refine zv_cVi (pc := 65) g cw_X4_172 (ctX4_dustAheadAfter h) (by decide) (by decide) zz_p0 (xW β b) (fun T => zz_p1 T) (q := 0) rfl rfl rfl rfl rfl (Nat.le_of_ble_eq_true rfl) dX4_round_65 (fun v11 S12 h => ?_)
      refine zv_istore (pc := 68) [(6, .int v11), (0, .ref (b 0)), (1, .int x1), (2, .int x2), (3, .int x3), (4, .int x4), (5, .int x5)] g dX4_round_68 (by decide) rfl ?_
      refine zv_iload (pc := 70) g dX4_round_70 0 rfl ?_
      refine zv_iload (pc := 72) g dX4_round_72 5 rfl ?_
      refine zv_icmp_ge (pc := 74) 84 g dX4_round_74 rfl (fun c13 => ?_) (fun c13 => ?_)
      · replace h := h.1 c13
        refine zv_iinc (pc := 84) 1 [(5, .int (x5 + 1)), (6, .int v11), (0, .ref (b 0)), (1, .int x1), (2, .int x2), (3, .int x3), (4, .int x4)] g dX4_round_84 6 rfl (by decide) (by decide) rfl ?_
        refine zv_goto (pc := 87) 34 g dX4_round_87 rfl ?_
        refine zv_sub [2, 3, 4, 5, 6, 0] rfl ?_
        exact ih0 _ _ _ _ _ _ h
      · replace h := h.2 c13
        refine zv_iload (pc := 77) g dX4_round_77 0 rfl ?_
        refine zv_istore (pc := 79) [(4, .int v11), (6, .int v11), (0, .ref (b 0)), (1, .int x1), (2, .int x2), (3, .int x3), (5, .int x5)] g dX4_round_79 (by decide) rfl ?_
        refine zv_iload (pc := 81) g dX4_round_81 6 rfl ?_
        refine zv_istore_n (pc := 83) 3 [(3, .int x5), (4, .int v11), (6, .int v11), (0, .ref (b 0)), (1, .int x1), (2, .int x2), (5, .int x5)] g dX4_round_83 rfl (by decide) rfl ?_
        refine zv_iinc (pc := 84) 1 [(5, .int (x5 + 1)), (3, .int x5), (4, .int v11), (6, .int v11), (0, .ref (b 0)), (1, .int x1), (2, .int x2)] g dX4_round_84 6 rfl (by decide) (by decide) rfl ?_
        refine zv_goto (pc := 87) 34 g dX4_round_87 rfl ?_
        refine zv_sub [4, 5, 6, 1, 2, 0] rfl ?_
        exact ih0 _ _ _ _ _ _ h
def wX4_round (post : Int32 → (XSt) → Prop) (S : XSt) (x1 : Int32) (x2 : Int32) : Prop := wX4_isDuster (fun v1 => (v1 = 0 → wX4_finding (fun v3 S4 => post v3 S4) S (-1000000001)) ∧ (¬ v1 = 0 → wX4_within (fun v5 => (¬ v5 = 0 → ∃ f14 : Nat, wX4_round_34 post f14 S x1 x2 0 2147483647 0) ∧ (v5 = 0 → wX4_finding (fun v15 S16 => post v15 S16) S (-1000000001))) x2 1 40)) S x1
set_option maxRecDepth 100000 in
set_option maxHeartbeats 4000000 in
theorem ctX4_round {β : zz_B} {b : Nat → Nat} {post : Int32 → (XSt) → Prop} {S : XSt} {x1 : Int32} {x2 : Int32} (h : wX4_round post S x1 x2) : zCi β yX4_round cX4_round 7 (some .int) 6 137 [.ref (b 0), .int x1, .int x2] (xW β b) S post := by
  unfold wX4_round at h
  unfold zCi
  refine zC.of (by decide) (Nat.le_of_ble_eq_true rfl) ?_
  intro Γ g hR
  show zV β 7 Γ ((xW β b) S) 0 [(0, .ref (b 0)), (1, .int x1), (2, .int x2)] []
  refine zv_aload_n (pc := 0) g dX4_round_0 0 rfl rfl ?_
  refine zv_iload_n (pc := 1) g dX4_round_1 1 rfl rfl ?_
  refine zv_cVp (pc := 2) g cw_X4_99 (ctX4_isDuster h) (by decide) (by decide) zz_p0 (q := 0) rfl rfl rfl rfl rfl (Nat.le_of_ble_eq_true rfl) dX4_round_2 (fun v1 h => ?_)
  refine zv_if_eq (pc := 5) 18 g dX4_round_5 rfl (fun c2 => ?_) (fun c2 => ?_)
  · replace h := h.1 c2
    refine zv_aload_n (pc := 18) g dX4_round_18 0 rfl rfl ?_
    refine zv_ldc (pc := 19) g wd_217 dX4_round_19 ?_
    refine zv_cVi (pc := 21) g cw_X4_52 (ctX4_finding h) (by decide) (by decide) zz_p0 (xW β b) (fun T => zz_p1 T) (q := 0) rfl rfl rfl rfl rfl (Nat.le_of_ble_eq_true rfl) dX4_round_21 (fun v3 S4 h => ?_)
    exact zv_iret (pc := 24) g hR dX4_round_24 ⟨_, _, rfl, rfl, h⟩
  · replace h := h.2 c2
    refine zv_iload_n (pc := 8) g dX4_round_8 2 rfl rfl ?_
    refine zv_iconst (pc := 9) g dX4_round_9 (v := 1) (by decide) ?_
    refine zv_bipush (pc := 10) g dX4_round_10 (v := 40) (by decide) ?_
    refine zv_cSp (pc := 12) g cw_X4_47 (ctX4_within h) (by decide) (by decide) zz_pN rfl rfl (Nat.le_of_ble_eq_true rfl) dX4_round_12 (fun v5 h => ?_)
    refine zv_if_ne (pc := 15) 25 g dX4_round_15 rfl (fun c6 => ?_) (fun c6 => ?_)
    · replace h := h.1 c6
      refine zv_iconst (pc := 25) g dX4_round_25 (v := 0) (by decide) ?_
      refine zv_istore_n (pc := 26) 3 [(3, .int 0), (0, .ref (b 0)), (1, .int x1), (2, .int x2)] g dX4_round_26 rfl (by decide) rfl ?_
      refine zv_ldc (pc := 27) g wd_411 dX4_round_27 ?_
      refine zv_istore (pc := 29) [(4, .int 2147483647), (3, .int 0), (0, .ref (b 0)), (1, .int x1), (2, .int x2)] g dX4_round_29 (by decide) rfl ?_
      refine zv_iconst (pc := 31) g dX4_round_31 (v := 0) (by decide) ?_
      refine zv_istore (pc := 32) [(5, .int 0), (4, .int 2147483647), (3, .int 0), (0, .ref (b 0)), (1, .int x1), (2, .int x2)] g dX4_round_32 (by decide) rfl ?_
      obtain ⟨f14, h⟩ := h
      refine zv_sub [3, 4, 5, 2, 1, 0] rfl ?_
      exact lX4_round_34 g hR f14 _ _ _ _ _ _ h
    · replace h := h.2 c6
      refine zv_aload_n (pc := 18) g dX4_round_18 0 rfl rfl ?_
      refine zv_ldc (pc := 19) g wd_217 dX4_round_19 ?_
      refine zv_cVi (pc := 21) g cw_X4_52 (ctX4_finding h) (by decide) (by decide) zz_p0 (xW β b) (fun T => zz_p1 T) (q := 0) rfl rfl rfl rfl rfl (Nat.le_of_ble_eq_true rfl) dX4_round_21 (fun v15 S16 h => ?_)
      exact zv_iret (pc := 24) g hR dX4_round_24 ⟨_, _, rfl, rfl, h⟩
def wX4_withMostMemories_kinds_9 (post : Int32 → (XSt) → Prop) : Nat → (XSt) → (Int32) → (Int32) → (Int32) → (Int32) → (Int32) → (Int32) → Prop
  | 0, _, _, _, _, _, _, _ => False
  | f0 + 1, S, x2, x3, x4, x5, x6, x7 => (x3 < x7 → post x5 S) ∧ (¬ x3 < x7 → wX0_becomeAs (fun S2 => ∀ S3 : XSt, S3 = (x_live_s (x_ahead_s S S2.1) S2.2) → (vp_in x2 8 ∧ (∀ S4 : XSt, S4 = (x_ahead_s S3 (h_kinds_s (x_ahead S3) (upd (h_kinds (x_ahead S3)) (Int32.toNatClampNeg x2) x7))) → (wX0_goDays (fun S5 => ∀ S6 : XSt, S6 = (x_ahead_s S4 S5) → (wX0_memoriesCounted (fun v7 => (v7 ≤ x6 → wX4_withMostMemories_kinds_9 post f0 S6 x2 x3 x4 x5 x6 (x7 + 1)) ∧ (¬ v7 ≤ x6 → wX4_withMostMemories_kinds_9 post f0 S6 x2 x3 x4 x7 v7 (x7 + 1))) (x_ahead S6))) (x_ahead S4) x4)))) (x_ahead S, x_live S))
set_option maxRecDepth 100000 in
set_option maxHeartbeats 4000000 in
theorem lX4_withMostMemories_kinds_9 {β : zz_B} {Γ : zz_X} {b : Nat → Nat} {post : Int32 → (XSt) → Prop} (g : zG β 9 Γ cX4_withMostMemories RX4 5 116) (hR : zR β Γ (some .int) (fun r w => ∃ (v : Int32) (T : XSt), r = some (.int v) ∧ w = (xW β b) T ∧ post v T)) : ∀ (f0 : Nat) (S : XSt) (x2 : Int32) (x3 : Int32) (x4 : Int32) (x5 : Int32) (x6 : Int32) (x7 : Int32) , wX4_withMostMemories_kinds_9 post f0 S x2 x3 x4 x5 x6 x7 → zV β 9 Γ ((xW β b) S) 9 [(0, .ref (b 0)), (1, .ref (b 18)), (2, .int x2), (3, .int x3), (4, .int x4), (5, .int x5), (6, .int x6), (7, .int x7)] [] := by
  intro f0
  induction f0 with
  | zero => intro S x2 x3 x4 x5 x6 x7 h; exact h.elim
  | succ f0 ih0 =>
    intro S x2 x3 x4 x5 x6 x7 h
    rw [wX4_withMostMemories_kinds_9] at h
    refine zv_iload (pc := 9) g dX4_withMostMemories_9 7 rfl ?_
    refine zv_iload_n (pc := 11) g dX4_withMostMemories_11 3 rfl rfl ?_
    refine zv_icmp_gt (pc := 12) 70 g dX4_withMostMemories_12 rfl (fun c1 => ?_) (fun c1 => ?_)
    · replace h := h.1 c1
      refine zv_iload (pc := 70) g dX4_withMostMemories_70 5 rfl ?_
      exact zv_iret (pc := 72) g hR dX4_withMostMemories_72 ⟨_, _, rfl, rfl, h⟩
    · replace h := h.2 c1
      refine zv_aload_n (pc := 15) g dX4_withMostMemories_15 0 rfl rfl ?_
      refine zv_get (pc := 16) g fl_X4_19 0 rfl rfl dX4_withMostMemories_16 ?_
      refine zv_aload_n (pc := 19) g dX4_withMostMemories_19 0 rfl rfl ?_
      refine zv_get (pc := 20) g fl_X4_12 0 rfl rfl dX4_withMostMemories_20 ?_
      refine zv_cVv (pc := 23) g cw_X4_154 (ctX0_becomeAs h) (by decide) (by decide) (pmX_ahead_live β b S) (fun T => xW β b (x_live_s (x_ahead_s S T.1) T.2)) (fun T => pbX_ahead_live β b S T) (q := 0) rfl rfl rfl rfl rfl (Nat.le_of_ble_eq_true rfl) dX4_withMostMemories_23 (fun S2 h => ?_)
      refine zv_nmS (wf := (xW β b)) (fun S3 eS3 => ?_)
      replace h := h S3 eS3
      refine zv_aload_n (pc := 26) g dX4_withMostMemories_26 1 rfl rfl ?_
      refine zv_iload_n (pc := 27) g dX4_withMostMemories_27 2 rfl rfl ?_
      refine zv_iload (pc := 28) g dX4_withMostMemories_28 7 rfl ?_
      obtain ⟨hi, h⟩ := h
      refine zv_ials (pc := 30) ((xW β b) (x_ahead_s S3 (h_kinds_s (x_ahead S3) (upd (h_kinds (x_ahead S3)) (Int32.toNatClampNeg x2) x7)))) g 18 rfl hi rfl dX4_withMostMemories_30 ?_
      refine zv_nmS (wf := (xW β b)) (fun S4 eS4 => ?_)
      replace h := h S4 eS4
      refine zv_aload_n (pc := 31) g dX4_withMostMemories_31 0 rfl rfl ?_
      refine zv_get (pc := 32) g fl_X4_19 0 rfl rfl dX4_withMostMemories_32 ?_
      refine zv_iload (pc := 35) g dX4_withMostMemories_35 4 rfl ?_
      refine zv_cVv (pc := 37) g cw_X4_147 (ctX0_goDays h) (by decide) (by decide) (pmX_ahead β b S4) (fun T => xW β b (x_ahead_s S4 T)) (fun T => pbX_ahead β b S4 T) (q := 0) rfl rfl rfl rfl rfl (Nat.le_of_ble_eq_true rfl) dX4_withMostMemories_37 (fun S5 h => ?_)
      refine zv_nmS (wf := (xW β b)) (fun S6 eS6 => ?_)
      replace h := h S6 eS6
      refine zv_aload_n (pc := 40) g dX4_withMostMemories_40 0 rfl rfl ?_
      refine zv_get (pc := 41) g fl_X4_19 0 rfl rfl dX4_withMostMemories_41 ?_
      refine zv_cVp (pc := 44) g cw_X4_233 (ctX0_memoriesCounted h) (by decide) (by decide) (pmX_ahead β b S6) (q := 0) rfl rfl rfl rfl rfl (Nat.le_of_ble_eq_true rfl) dX4_withMostMemories_44 (fun v7 h => ?_)
      refine zv_istore (pc := 47) [(8, .int v7), (0, .ref (b 0)), (1, .ref (b 18)), (2, .int x2), (3, .int x3), (4, .int x4), (5, .int x5), (6, .int x6), (7, .int x7)] g dX4_withMostMemories_47 (by decide) rfl ?_
      refine zv_iload (pc := 49) g dX4_withMostMemories_49 0 rfl ?_
      refine zv_iload (pc := 51) g dX4_withMostMemories_51 7 rfl ?_
      refine zv_icmp_le (pc := 53) 64 g dX4_withMostMemories_53 rfl (fun c8 => ?_) (fun c8 => ?_)
      · replace h := h.1 c8
        refine zv_iinc (pc := 64) 1 [(7, .int (x7 + 1)), (8, .int v7), (0, .ref (b 0)), (1, .ref (b 18)), (2, .int x2), (3, .int x3), (4, .int x4), (5, .int x5), (6, .int x6)] g dX4_withMostMemories_64 8 rfl (by decide) (by decide) rfl ?_
        refine zv_goto (pc := 67) 9 g dX4_withMostMemories_67 rfl ?_
        refine zv_sub [2, 3, 4, 5, 6, 7, 8, 0] rfl ?_
        exact ih0 _ _ _ _ _ _ _ h
      · replace h := h.2 c8
        refine zv_iload (pc := 56) g dX4_withMostMemories_56 0 rfl ?_
        refine zv_istore (pc := 58) [(6, .int v7), (8, .int v7), (0, .ref (b 0)), (1, .ref (b 18)), (2, .int x2), (3, .int x3), (4, .int x4), (5, .int x5), (7, .int x7)] g dX4_withMostMemories_58 (by decide) rfl ?_
        refine zv_iload (pc := 60) g dX4_withMostMemories_60 8 rfl ?_
        refine zv_istore (pc := 62) [(5, .int x7), (6, .int v7), (8, .int v7), (0, .ref (b 0)), (1, .ref (b 18)), (2, .int x2), (3, .int x3), (4, .int x4), (7, .int x7)] g dX4_withMostMemories_62 (by decide) rfl ?_
        refine zv_iinc (pc := 64) 1 [(7, .int (x7 + 1)), (5, .int x7), (6, .int v7), (8, .int v7), (0, .ref (b 0)), (1, .ref (b 18)), (2, .int x2), (3, .int x3), (4, .int x4)] g dX4_withMostMemories_64 8 rfl (by decide) (by decide) rfl ?_
        refine zv_goto (pc := 67) 9 g dX4_withMostMemories_67 rfl ?_
        refine zv_sub [4, 5, 6, 7, 8, 1, 2, 0] rfl ?_
        exact ih0 _ _ _ _ _ _ _ h
def wX4_withMostMemories_kinds (post : Int32 → (XSt) → Prop) (S : XSt) (x2 : Int32) (x3 : Int32) (x4 : Int32) : Prop := ∃ f9 : Nat, wX4_withMostMemories_kinds_9 post f9 S x2 x3 x4 0 (-1) 0
set_option maxRecDepth 100000 in
set_option maxHeartbeats 4000000 in
theorem ctX4_withMostMemories_kinds {β : zz_B} {b : Nat → Nat} {post : Int32 → (XSt) → Prop} {S : XSt} {x2 : Int32} {x3 : Int32} {x4 : Int32} (h : wX4_withMostMemories_kinds post S x2 x3 x4) : zCi β yX4_withMostMemories cX4_withMostMemories 9 (some .int) 5 116 [.ref (b 0), .ref (b 18), .int x2, .int x3, .int x4] (xW β b) S post := by
  unfold wX4_withMostMemories_kinds at h
  unfold zCi
  refine zC.of (by decide) (Nat.le_of_ble_eq_true rfl) ?_
  intro Γ g hR
  show zV β 9 Γ ((xW β b) S) 0 [(0, .ref (b 0)), (1, .ref (b 18)), (2, .int x2), (3, .int x3), (4, .int x4)] []
  refine zv_iconst (pc := 0) g dX4_withMostMemories_0 (v := 0) (by decide) ?_
  refine zv_istore (pc := 1) [(5, .int 0), (0, .ref (b 0)), (1, .ref (b 18)), (2, .int x2), (3, .int x3), (4, .int x4)] g dX4_withMostMemories_1 (by decide) rfl ?_
  refine zv_iconst (pc := 3) g dX4_withMostMemories_3 (v := (-1)) (by decide) ?_
  refine zv_istore (pc := 4) [(6, .int (-1)), (5, .int 0), (0, .ref (b 0)), (1, .ref (b 18)), (2, .int x2), (3, .int x3), (4, .int x4)] g dX4_withMostMemories_4 (by decide) rfl ?_
  refine zv_iconst (pc := 6) g dX4_withMostMemories_6 (v := 0) (by decide) ?_
  refine zv_istore (pc := 7) [(7, .int 0), (6, .int (-1)), (5, .int 0), (0, .ref (b 0)), (1, .ref (b 18)), (2, .int x2), (3, .int x3), (4, .int x4)] g dX4_withMostMemories_7 (by decide) rfl ?_
  obtain ⟨f9, h⟩ := h
  refine zv_sub [3, 4, 5, 6, 7, 2, 1, 0] rfl ?_
  exact lX4_withMostMemories_kinds_9 g hR f9 _ _ _ _ _ _ _ h
def wX4_withMostMemories_grimes_9 (post : Int32 → (XSt) → Prop) : Nat → (XSt) → (Int32) → (Int32) → (Int32) → (Int32) → (Int32) → (Int32) → Prop
  | 0, _, _, _, _, _, _, _ => False
  | f0 + 1, S, x2, x3, x4, x5, x6, x7 => (x3 < x7 → post x5 S) ∧ (¬ x3 < x7 → wX0_becomeAs (fun S2 => ∀ S3 : XSt, S3 = (x_live_s (x_ahead_s S S2.1) S2.2) → (vp_in x2 8 ∧ (∀ S4 : XSt, S4 = (x_ahead_s S3 (h_grimes_s (x_ahead S3) (upd (h_grimes (x_ahead S3)) (Int32.toNatClampNeg x2) x7))) → (wX0_goDays (fun S5 => ∀ S6 : XSt, S6 = (x_ahead_s S4 S5) → (wX0_memoriesCounted (fun v7 => (v7 ≤ x6 → wX4_withMostMemories_grimes_9 post f0 S6 x2 x3 x4 x5 x6 (x7 + 1)) ∧ (¬ v7 ≤ x6 → wX4_withMostMemories_grimes_9 post f0 S6 x2 x3 x4 x7 v7 (x7 + 1))) (x_ahead S6))) (x_ahead S4) x4)))) (x_ahead S, x_live S))
set_option maxRecDepth 100000 in
set_option maxHeartbeats 4000000 in
theorem lX4_withMostMemories_grimes_9 {β : zz_B} {Γ : zz_X} {b : Nat → Nat} {post : Int32 → (XSt) → Prop} (g : zG β 9 Γ cX4_withMostMemories RX4 5 116) (hR : zR β Γ (some .int) (fun r w => ∃ (v : Int32) (T : XSt), r = some (.int v) ∧ w = (xW β b) T ∧ post v T)) : ∀ (f0 : Nat) (S : XSt) (x2 : Int32) (x3 : Int32) (x4 : Int32) (x5 : Int32) (x6 : Int32) (x7 : Int32) , wX4_withMostMemories_grimes_9 post f0 S x2 x3 x4 x5 x6 x7 → zV β 9 Γ ((xW β b) S) 9 [(0, .ref (b 0)), (1, .ref (b 20)), (2, .int x2), (3, .int x3), (4, .int x4), (5, .int x5), (6, .int x6), (7, .int x7)] [] := by
  intro f0
  induction f0 with
  | zero => intro S x2 x3 x4 x5 x6 x7 h; exact h.elim
  | succ f0 ih0 =>
    intro S x2 x3 x4 x5 x6 x7 h
    rw [wX4_withMostMemories_grimes_9] at h
    refine zv_iload (pc := 9) g dX4_withMostMemories_9 7 rfl ?_
    refine zv_iload_n (pc := 11) g dX4_withMostMemories_11 3 rfl rfl ?_
    refine zv_icmp_gt (pc := 12) 70 g dX4_withMostMemories_12 rfl (fun c1 => ?_) (fun c1 => ?_)
    · replace h := h.1 c1
      refine zv_iload (pc := 70) g dX4_withMostMemories_70 5 rfl ?_
      exact zv_iret (pc := 72) g hR dX4_withMostMemories_72 ⟨_, _, rfl, rfl, h⟩
    · replace h := h.2 c1
      refine zv_aload_n (pc := 15) g dX4_withMostMemories_15 0 rfl rfl ?_
      refine zv_get (pc := 16) g fl_X4_19 0 rfl rfl dX4_withMostMemories_16 ?_
      refine zv_aload_n (pc := 19) g dX4_withMostMemories_19 0 rfl rfl ?_
      refine zv_get (pc := 20) g fl_X4_12 0 rfl rfl dX4_withMostMemories_20 ?_
      refine zv_cVv (pc := 23) g cw_X4_154 (ctX0_becomeAs h) (by decide) (by decide) (pmX_ahead_live β b S) (fun T => xW β b (x_live_s (x_ahead_s S T.1) T.2)) (fun T => pbX_ahead_live β b S T) (q := 0) rfl rfl rfl rfl rfl (Nat.le_of_ble_eq_true rfl) dX4_withMostMemories_23 (fun S2 h => ?_)
      refine zv_nmS (wf := (xW β b)) (fun S3 eS3 => ?_)
      replace h := h S3 eS3
      refine zv_aload_n (pc := 26) g dX4_withMostMemories_26 1 rfl rfl ?_
      refine zv_iload_n (pc := 27) g dX4_withMostMemories_27 2 rfl rfl ?_
      refine zv_iload (pc := 28) g dX4_withMostMemories_28 7 rfl ?_
      obtain ⟨hi, h⟩ := h
      refine zv_ials (pc := 30) ((xW β b) (x_ahead_s S3 (h_grimes_s (x_ahead S3) (upd (h_grimes (x_ahead S3)) (Int32.toNatClampNeg x2) x7)))) g 20 rfl hi rfl dX4_withMostMemories_30 ?_
      refine zv_nmS (wf := (xW β b)) (fun S4 eS4 => ?_)
      replace h := h S4 eS4
      refine zv_aload_n (pc := 31) g dX4_withMostMemories_31 0 rfl rfl ?_
      refine zv_get (pc := 32) g fl_X4_19 0 rfl rfl dX4_withMostMemories_32 ?_
      refine zv_iload (pc := 35) g dX4_withMostMemories_35 4 rfl ?_
      refine zv_cVv (pc := 37) g cw_X4_147 (ctX0_goDays h) (by decide) (by decide) (pmX_ahead β b S4) (fun T => xW β b (x_ahead_s S4 T)) (fun T => pbX_ahead β b S4 T) (q := 0) rfl rfl rfl rfl rfl (Nat.le_of_ble_eq_true rfl) dX4_withMostMemories_37 (fun S5 h => ?_)
      refine zv_nmS (wf := (xW β b)) (fun S6 eS6 => ?_)
      replace h := h S6 eS6
      refine zv_aload_n (pc := 40) g dX4_withMostMemories_40 0 rfl rfl ?_
      refine zv_get (pc := 41) g fl_X4_19 0 rfl rfl dX4_withMostMemories_41 ?_
      refine zv_cVp (pc := 44) g cw_X4_233 (ctX0_memoriesCounted h) (by decide) (by decide) (pmX_ahead β b S6) (q := 0) rfl rfl rfl rfl rfl (Nat.le_of_ble_eq_true rfl) dX4_withMostMemories_44 (fun v7 h => ?_)
      refine zv_istore (pc := 47) [(8, .int v7), (0, .ref (b 0)), (1, .ref (b 20)), (2, .int x2), (3, .int x3), (4, .int x4), (5, .int x5), (6, .int x6), (7, .int x7)] g dX4_withMostMemories_47 (by decide) rfl ?_
      refine zv_iload (pc := 49) g dX4_withMostMemories_49 0 rfl ?_
      refine zv_iload (pc := 51) g dX4_withMostMemories_51 7 rfl ?_
      refine zv_icmp_le (pc := 53) 64 g dX4_withMostMemories_53 rfl (fun c8 => ?_) (fun c8 => ?_)
      · replace h := h.1 c8
        refine zv_iinc (pc := 64) 1 [(7, .int (x7 + 1)), (8, .int v7), (0, .ref (b 0)), (1, .ref (b 20)), (2, .int x2), (3, .int x3), (4, .int x4), (5, .int x5), (6, .int x6)] g dX4_withMostMemories_64 8 rfl (by decide) (by decide) rfl ?_
        refine zv_goto (pc := 67) 9 g dX4_withMostMemories_67 rfl ?_
        refine zv_sub [2, 3, 4, 5, 6, 7, 8, 0] rfl ?_
        exact ih0 _ _ _ _ _ _ _ h
      · replace h := h.2 c8
        refine zv_iload (pc := 56) g dX4_withMostMemories_56 0 rfl ?_
        refine zv_istore (pc := 58) [(6, .int v7), (8, .int v7), (0, .ref (b 0)), (1, .ref (b 20)), (2, .int x2), (3, .int x3), (4, .int x4), (5, .int x5), (7, .int x7)] g dX4_withMostMemories_58 (by decide) rfl ?_
        refine zv_iload (pc := 60) g dX4_withMostMemories_60 8 rfl ?_
        refine zv_istore (pc := 62) [(5, .int x7), (6, .int v7), (8, .int v7), (0, .ref (b 0)), (1, .ref (b 20)), (2, .int x2), (3, .int x3), (4, .int x4), (7, .int x7)] g dX4_withMostMemories_62 (by decide) rfl ?_
        refine zv_iinc (pc := 64) 1 [(7, .int (x7 + 1)), (5, .int x7), (6, .int v7), (8, .int v7), (0, .ref (b 0)), (1, .ref (b 20)), (2, .int x2), (3, .int x3), (4, .int x4)] g dX4_withMostMemories_64 8 rfl (by decide) (by decide) rfl ?_
        refine zv_goto (pc := 67) 9 g dX4_withMostMemories_67 rfl ?_
        refine zv_sub [4, 5, 6, 7, 8, 1, 2, 0] rfl ?_
        exact ih0 _ _ _ _ _ _ _ h
def wX4_withMostMemories_grimes (post : Int32 → (XSt) → Prop) (S : XSt) (x2 : Int32) (x3 : Int32) (x4 : Int32) : Prop := ∃ f9 : Nat, wX4_withMostMemories_grimes_9 post f9 S x2 x3 x4 0 (-1) 0
set_option maxRecDepth 100000 in
set_option maxHeartbeats 4000000 in
theorem ctX4_withMostMemories_grimes {β : zz_B} {b : Nat → Nat} {post : Int32 → (XSt) → Prop} {S : XSt} {x2 : Int32} {x3 : Int32} {x4 : Int32} (h : wX4_withMostMemories_grimes post S x2 x3 x4) : zCi β yX4_withMostMemories cX4_withMostMemories 9 (some .int) 5 116 [.ref (b 0), .ref (b 20), .int x2, .int x3, .int x4] (xW β b) S post := by
  unfold wX4_withMostMemories_grimes at h
  unfold zCi
  refine zC.of (by decide) (Nat.le_of_ble_eq_true rfl) ?_
  intro Γ g hR
  show zV β 9 Γ ((xW β b) S) 0 [(0, .ref (b 0)), (1, .ref (b 20)), (2, .int x2), (3, .int x3), (4, .int x4)] []
  refine zv_iconst (pc := 0) g dX4_withMostMemories_0 (v := 0) (by decide) ?_
  refine zv_istore (pc := 1) [(5, .int 0), (0, .ref (b 0)), (1, .ref (b 20)), (2, .int x2), (3, .int x3), (4, .int x4)] g dX4_withMostMemories_1 (by decide) rfl ?_
  refine zv_iconst (pc := 3) g dX4_withMostMemories_3 (v := (-1)) (by decide) ?_
  refine zv_istore (pc := 4) [(6, .int (-1)), (5, .int 0), (0, .ref (b 0)), (1, .ref (b 20)), (2, .int x2), (3, .int x3), (4, .int x4)] g dX4_withMostMemories_4 (by decide) rfl ?_
  refine zv_iconst (pc := 6) g dX4_withMostMemories_6 (v := 0) (by decide) ?_
  refine zv_istore (pc := 7) [(7, .int 0), (6, .int (-1)), (5, .int 0), (0, .ref (b 0)), (1, .ref (b 20)), (2, .int x2), (3, .int x3), (4, .int x4)] g dX4_withMostMemories_7 (by decide) rfl ?_
  obtain ⟨f9, h⟩ := h
  refine zv_sub [3, 4, 5, 6, 7, 2, 1, 0] rfl ?_
  exact lX4_withMostMemories_grimes_9 g hR f9 _ _ _ _ _ _ _ h
