def wX1_isUnder_21 (post : Int32 → Prop) (x0 : Int32) (x1 : Int32) : Prop := (¬ x0 = (5 : Int32) → post 0) ∧ (x0 = (5 : Int32) → (¬ x1 = (2 : Int32) → post 0) ∧ (x1 = (2 : Int32) → post 1))
set_option maxRecDepth 100000 in
set_option maxHeartbeats 4000000 in
theorem lX1_isUnder_21 {β : zz_B} {Γ : zz_X} {post : Int32 → Prop} (g : zG β 2 Γ cX1_isUnder RX1 0 0) (hR : zR β Γ (some .boolean) (fun r w => ∃ v : Int32, r = some (.int v) ∧ w = [] ∧ post v)) (x0 : Int32) (x1 : Int32) (h : wX1_isUnder_21 post x0 x1) : zV β 2 Γ [] 21 [(0, .int x0), (1, .int x1)] [] := by
  unfold wX1_isUnder_21 at h
  refine zv_iload_n (pc := 21) g dX1_isUnder_21 0 rfl rfl ?_
  refine zv_iconst (pc := 22) g dX1_isUnder_22 (v := 5) (by decide) ?_
  refine zv_icmp_ne (pc := 23) 35 g dX1_isUnder_23 rfl (fun c4 => ?_) (fun c4 => ?_)
  · replace h := h.1 c4
    refine zv_iconst (pc := 35) g dX1_isUnder_35 (v := 0) (by decide) ?_
    exact zv_zret (pc := 36) g hR (by decide) dX1_isUnder_36 ⟨_, rfl, rfl, h⟩
  · replace h := h.2 c4
    refine zv_iload_n (pc := 26) g dX1_isUnder_26 1 rfl rfl ?_
    refine zv_iconst (pc := 27) g dX1_isUnder_27 (v := 2) (by decide) ?_
    refine zv_icmp_ne (pc := 28) 35 g dX1_isUnder_28 rfl (fun c5 => ?_) (fun c5 => ?_)
    · replace h := h.1 c5
      refine zv_iconst (pc := 35) g dX1_isUnder_35 (v := 0) (by decide) ?_
      exact zv_zret (pc := 36) g hR (by decide) dX1_isUnder_36 ⟨_, rfl, rfl, h⟩
    · replace h := h.2 c5
      refine zv_iconst (pc := 31) g dX1_isUnder_31 (v := 1) (by decide) ?_
      refine zv_goto (pc := 32) 36 g dX1_isUnder_32 rfl ?_
      exact zv_zret (pc := 36) g hR (by decide) dX1_isUnder_36 ⟨_, rfl, rfl, h⟩
def wX1_isUnder (post : Int32 → Prop) (x0 : Int32) (x1 : Int32) : Prop := (x0 = x1 → post 1) ∧ (¬ x0 = x1 → (¬ x1 = 0 → (¬ x0 = (4 : Int32) → wX1_isUnder_21 post x0 x1) ∧ (x0 = (4 : Int32) → (x1 = (1 : Int32) → post 1) ∧ (¬ x1 = (1 : Int32) → wX1_isUnder_21 post x0 x1))) ∧ (x1 = 0 → post 1))
set_option maxRecDepth 100000 in
set_option maxHeartbeats 4000000 in
theorem ctX1_isUnder {β : zz_B} {post : Int32 → Prop} {x0 : Int32} {x1 : Int32} (h : wX1_isUnder post x0 x1) : zCp β yX1_isUnder cX1_isUnder 2 (some .boolean) 0 0 [.int x0, .int x1] [] post := by
  unfold wX1_isUnder at h
  unfold zCp
  refine zC.of (by decide) (Nat.le_of_ble_eq_true rfl) ?_
  intro Γ g hR
  show zV β 2 Γ [] 0 [(0, .int x0), (1, .int x1)] []
  refine zv_iload_n (pc := 0) g dX1_isUnder_0 0 rfl rfl ?_
  refine zv_iload_n (pc := 1) g dX1_isUnder_1 1 rfl rfl ?_
  refine zv_icmp_eq (pc := 2) 9 g dX1_isUnder_2 rfl (fun c1 => ?_) (fun c1 => ?_)
  · replace h := h.1 c1
    refine zv_iconst (pc := 9) g dX1_isUnder_9 (v := 1) (by decide) ?_
    exact zv_zret (pc := 10) g hR (by decide) dX1_isUnder_10 ⟨_, rfl, rfl, h⟩
  · replace h := h.2 c1
    refine zv_iload_n (pc := 5) g dX1_isUnder_5 1 rfl rfl ?_
    refine zv_if_ne (pc := 6) 11 g dX1_isUnder_6 rfl (fun c2 => ?_) (fun c2 => ?_)
    · replace h := h.1 c2
      refine zv_iload_n (pc := 11) g dX1_isUnder_11 0 rfl rfl ?_
      refine zv_iconst (pc := 12) g dX1_isUnder_12 (v := 4) (by decide) ?_
      refine zv_icmp_ne (pc := 13) 21 g dX1_isUnder_13 rfl (fun c3 => ?_) (fun c3 => ?_)
      · replace h := h.1 c3
        refine zv_sub [0, 1] rfl ?_
        exact lX1_isUnder_21 g hR _ _ h
      · replace h := h.2 c3
        refine zv_iload_n (pc := 16) g dX1_isUnder_16 1 rfl rfl ?_
        refine zv_iconst (pc := 17) g dX1_isUnder_17 (v := 1) (by decide) ?_
        refine zv_icmp_eq (pc := 18) 31 g dX1_isUnder_18 rfl (fun c6 => ?_) (fun c6 => ?_)
        · replace h := h.1 c6
          refine zv_iconst (pc := 31) g dX1_isUnder_31 (v := 1) (by decide) ?_
          refine zv_goto (pc := 32) 36 g dX1_isUnder_32 rfl ?_
          exact zv_zret (pc := 36) g hR (by decide) dX1_isUnder_36 ⟨_, rfl, rfl, h⟩
        · replace h := h.2 c6
          refine zv_sub [0, 1] rfl ?_
          exact lX1_isUnder_21 g hR _ _ h
    · replace h := h.2 c2
      refine zv_iconst (pc := 9) g dX1_isUnder_9 (v := 1) (by decide) ?_
      exact zv_zret (pc := 10) g hR (by decide) dX1_isUnder_10 ⟨_, rfl, rfl, h⟩
def wX1_wipes_25 (post : Int32 → Prop) (x0 : Int32) (x2 : Int32) (x3 : Int32) (s0 : Int32) : Prop := (x0 = 1 → post x3) ∧ (x0 = 2 → post s0) ∧ (x0 = 3 → post 9) ∧ (x0 = 4 → post (x3 - 5)) ∧ (x0 = 5 → post (s0 - 1)) ∧ (((x0).toInt < 1 ∨ 5 < (x0).toInt) → post x2)
set_option maxRecDepth 100000 in
set_option maxHeartbeats 4000000 in
theorem lX1_wipes_25 {β : zz_B} {Γ : zz_X} {post : Int32 → Prop} (g : zG β 5 Γ cX1_wipes RX1 0 0) (hR : zR β Γ (some .int) (fun r w => ∃ v : Int32, r = some (.int v) ∧ w = [] ∧ post v)) (x0 : Int32) (x2 : Int32) (x3 : Int32) (s0 : Int32) (h : wX1_wipes_25 post x0 x2 x3 s0) : zV β 5 Γ [] 25 [(0, .int x0), (2, .int x2), (3, .int x3)] [.int s0] := by
  unfold wX1_wipes_25 at h
  refine zv_istore (pc := 25) [(4, .int s0), (0, .int x0), (2, .int x2), (3, .int x3)] g dX1_wipes_25 (by decide) rfl ?_
  refine zv_iload_n (pc := 27) g dX1_wipes_27 1 rfl rfl ?_
  rcases zz_ts_1_5 x0 with c4 | c4 | c4 | c4 | c4 | c4
  · refine zv_tblIn (pc := 28) 1 64 g dX1_wipes_28 c4 (by decide) (by decide) rfl rfl ?_
    replace h := h.1 c4
    refine zv_iload_n (pc := 64) g dX1_wipes_64 3 rfl rfl ?_
    exact zv_iret (pc := 65) g hR dX1_wipes_65 ⟨_, rfl, rfl, h⟩
  · refine zv_tblIn (pc := 28) 2 66 g dX1_wipes_28 c4 (by decide) (by decide) rfl rfl ?_
    replace h := h.2.1 c4
    refine zv_iload (pc := 66) g dX1_wipes_66 0 rfl ?_
    exact zv_iret (pc := 68) g hR dX1_wipes_68 ⟨_, rfl, rfl, h⟩
  · refine zv_tblIn (pc := 28) 3 69 g dX1_wipes_28 c4 (by decide) (by decide) rfl rfl ?_
    replace h := h.2.2.1 c4
    refine zv_bipush (pc := 69) g dX1_wipes_69 (v := 9) (by decide) ?_
    exact zv_iret (pc := 71) g hR dX1_wipes_71 ⟨_, rfl, rfl, h⟩
  · refine zv_tblIn (pc := 28) 4 72 g dX1_wipes_28 c4 (by decide) (by decide) rfl rfl ?_
    replace h := h.2.2.2.1 c4
    refine zv_iload_n (pc := 72) g dX1_wipes_72 3 rfl rfl ?_
    refine zv_iconst (pc := 73) g dX1_wipes_73 (v := 5) (by decide) ?_
    refine zv_isub (pc := 74) g dX1_wipes_74 ?_
    exact zv_iret (pc := 75) g hR dX1_wipes_75 ⟨_, rfl, rfl, h⟩
  · refine zv_tblIn (pc := 28) 5 76 g dX1_wipes_28 c4 (by decide) (by decide) rfl rfl ?_
    replace h := h.2.2.2.2.1 c4
    refine zv_iload (pc := 76) g dX1_wipes_76 0 rfl ?_
    refine zv_iconst (pc := 78) g dX1_wipes_78 (v := 1) (by decide) ?_
    refine zv_isub (pc := 79) g dX1_wipes_79 ?_
    exact zv_iret (pc := 80) g hR dX1_wipes_80 ⟨_, rfl, rfl, h⟩
  · refine zv_tblOut (pc := 28) 81 g dX1_wipes_28 c4 rfl ?_
    replace h := h.2.2.2.2.2 c4
    refine zv_iload_n (pc := 81) g dX1_wipes_81 2 rfl rfl ?_
    exact zv_iret (pc := 82) g hR dX1_wipes_82 ⟨_, rfl, rfl, h⟩
def wX1_wipes (post : Int32 → Prop) (x0 : Int32) (x1 : Int32) : Prop := ∀ y1 : Int32, y1 = (12 - (x1 / 10)) → (∀ y2 : Int32, y2 = (y1 + 3) → (((20 : Int32) ≤ x1 → wX1_wipes_25 post x0 y1 y2 y1) ∧ (¬ (20 : Int32) ≤ x1 → wX1_wipes_25 post x0 y1 y2 (y1 * 2))))
set_option maxRecDepth 100000 in
set_option maxHeartbeats 4000000 in
theorem ctX1_wipes {β : zz_B} {post : Int32 → Prop} {x0 : Int32} {x1 : Int32} (h : wX1_wipes post x0 x1) : zCp β yX1_wipes cX1_wipes 5 (some .int) 0 0 [.int x0, .int x1] [] post := by
  unfold wX1_wipes at h
  unfold zCp
  refine zC.of (by decide) (Nat.le_of_ble_eq_true rfl) ?_
  intro Γ g hR
  show zV β 5 Γ [] 0 [(0, .int x0), (1, .int x1)] []
  refine zv_bipush (pc := 0) g dX1_wipes_0 (v := 12) (by decide) ?_
  refine zv_iload_n (pc := 2) g dX1_wipes_2 1 rfl rfl ?_
  refine zv_bipush (pc := 3) g dX1_wipes_3 (v := 10) (by decide) ?_
  refine zv_idiv (pc := 5) g dX1_wipes_5 (by decide) ?_
  refine zv_isub (pc := 6) g dX1_wipes_6 ?_
  refine zv_topi (fun y1 ey1 => ?_)
  replace h := h y1 ey1
  refine zv_istore_n (pc := 7) 2 [(2, .int y1), (0, .int x0), (1, .int x1)] g dX1_wipes_7 rfl (by decide) rfl ?_
  refine zv_iload_n (pc := 8) g dX1_wipes_8 0 rfl rfl ?_
  refine zv_iconst (pc := 9) g dX1_wipes_9 (v := 3) (by decide) ?_
  refine zv_iadd (pc := 10) g dX1_wipes_10 ?_
  refine zv_topi (fun y2 ey2 => ?_)
  replace h := h y2 ey2
  refine zv_istore_n (pc := 11) 3 [(3, .int y2), (2, .int y1), (0, .int x0), (1, .int x1)] g dX1_wipes_11 rfl (by decide) rfl ?_
  refine zv_iload_n (pc := 12) g dX1_wipes_12 3 rfl rfl ?_
  refine zv_bipush (pc := 13) g dX1_wipes_13 (v := 20) (by decide) ?_
  refine zv_icmp_ge (pc := 15) 24 g dX1_wipes_15 rfl (fun c3 => ?_) (fun c3 => ?_)
  · replace h := h.1 c3
    refine zv_iload_n (pc := 24) g dX1_wipes_24 1 rfl rfl ?_
    refine zv_sub [2, 1, 0] rfl ?_
    exact lX1_wipes_25 g hR _ _ _ _ h
  · replace h := h.2 c3
    refine zv_iload_n (pc := 18) g dX1_wipes_18 1 rfl rfl ?_
    refine zv_iconst (pc := 19) g dX1_wipes_19 (v := 2) (by decide) ?_
    refine zv_imul (pc := 20) g dX1_wipes_20 ?_
    refine zv_goto (pc := 21) 25 g dX1_wipes_21 rfl ?_
    refine zv_sub [2, 1, 0] rfl ?_
    exact lX1_wipes_25 g hR _ _ _ _ h
def wX1_takesUp (post : Int32 → Prop) (x0 : Int32) (x1 : Int32) : Prop := (x0 = 1 → post 2) ∧ (x0 = 2 → (x1 ≤ (60 : Int32) → post 1) ∧ (¬ x1 ≤ (60 : Int32) → post 0)) ∧ (x0 = 3 → post 9) ∧ (x0 = 4 → post 2) ∧ (x0 = 5 → post 0) ∧ (((x0).toInt < 1 ∨ 5 < (x0).toInt) → post 1)
set_option maxRecDepth 100000 in
set_option maxHeartbeats 4000000 in
theorem ctX1_takesUp {β : zz_B} {post : Int32 → Prop} {x0 : Int32} {x1 : Int32} (h : wX1_takesUp post x0 x1) : zCp β yX1_takesUp cX1_takesUp 2 (some .int) 0 0 [.int x0, .int x1] [] post := by
  unfold wX1_takesUp at h
  unfold zCp
  refine zC.of (by decide) (Nat.le_of_ble_eq_true rfl) ?_
  intro Γ g hR
  show zV β 2 Γ [] 0 [(0, .int x0), (1, .int x1)] []
  refine zv_iload_n (pc := 0) g dX1_takesUp_0 0 rfl rfl ?_
  rcases zz_ts_1_5 x0 with c1 | c1 | c1 | c1 | c1 | c1
  · refine zv_tblIn (pc := 1) 1 36 g dX1_takesUp_1 c1 (by decide) (by decide) rfl rfl ?_
    replace h := h.1 c1
    refine zv_iconst (pc := 36) g dX1_takesUp_36 (v := 2) (by decide) ?_
    exact zv_iret (pc := 37) g hR dX1_takesUp_37 ⟨_, rfl, rfl, h⟩
  · refine zv_tblIn (pc := 1) 2 38 g dX1_takesUp_1 c1 (by decide) (by decide) rfl rfl ?_
    replace h := h.2.1 c1
    refine zv_iload_n (pc := 38) g dX1_takesUp_38 1 rfl rfl ?_
    refine zv_bipush (pc := 39) g dX1_takesUp_39 (v := 60) (by decide) ?_
    refine zv_icmp_le (pc := 41) 48 g dX1_takesUp_41 rfl (fun c2 => ?_) (fun c2 => ?_)
    · replace h := h.1 c2
      refine zv_iconst (pc := 48) g dX1_takesUp_48 (v := 1) (by decide) ?_
      exact zv_iret (pc := 49) g hR dX1_takesUp_49 ⟨_, rfl, rfl, h⟩
    · replace h := h.2 c2
      refine zv_iconst (pc := 44) g dX1_takesUp_44 (v := 0) (by decide) ?_
      refine zv_goto (pc := 45) 49 g dX1_takesUp_45 rfl ?_
      exact zv_iret (pc := 49) g hR dX1_takesUp_49 ⟨_, rfl, rfl, h⟩
  · refine zv_tblIn (pc := 1) 3 50 g dX1_takesUp_1 c1 (by decide) (by decide) rfl rfl ?_
    replace h := h.2.2.1 c1
    refine zv_bipush (pc := 50) g dX1_takesUp_50 (v := 9) (by decide) ?_
    exact zv_iret (pc := 52) g hR dX1_takesUp_52 ⟨_, rfl, rfl, h⟩
  · refine zv_tblIn (pc := 1) 4 36 g dX1_takesUp_1 c1 (by decide) (by decide) rfl rfl ?_
    replace h := h.2.2.2.1 c1
    refine zv_iconst (pc := 36) g dX1_takesUp_36 (v := 2) (by decide) ?_
    exact zv_iret (pc := 37) g hR dX1_takesUp_37 ⟨_, rfl, rfl, h⟩
  · refine zv_tblIn (pc := 1) 5 53 g dX1_takesUp_1 c1 (by decide) (by decide) rfl rfl ?_
    replace h := h.2.2.2.2.1 c1
    refine zv_iconst (pc := 53) g dX1_takesUp_53 (v := 0) (by decide) ?_
    exact zv_iret (pc := 54) g hR dX1_takesUp_54 ⟨_, rfl, rfl, h⟩
  · refine zv_tblOut (pc := 1) 55 g dX1_takesUp_1 c1 rfl ?_
    replace h := h.2.2.2.2.2 c1
    refine zv_iconst (pc := 55) g dX1_takesUp_55 (v := 1) (by decide) ?_
    exact zv_iret (pc := 56) g hR dX1_takesUp_56 ⟨_, rfl, rfl, h⟩
def wX1_leaves (post : Int32 → Prop) (x0 : Int32) (x1 : Int32) : Prop := ∀ y1 : Int32, y1 = (x1 / 25) → ((x0 = 1 → post (y1 + 1)) ∧ (x0 = 2 → post y1) ∧ (x0 = 3 → post (if 0 < (y1 - 1) then (y1 - 1) else 0)) ∧ (x0 = 4 → post ((y1 + 1) * 2)) ∧ (x0 = 5 → (¬ x1 = 0 → post y1) ∧ (x1 = 0 → post (y1 + 1))) ∧ (((x0).toInt < 1 ∨ 5 < (x0).toInt) → post y1))
set_option maxRecDepth 100000 in
set_option maxHeartbeats 4000000 in
theorem ctX1_leaves {β : zz_B} {post : Int32 → Prop} {x0 : Int32} {x1 : Int32} (h : wX1_leaves post x0 x1) : zCp β yX1_leaves cX1_leaves 3 (some .int) 1 21 [.int x0, .int x1] [] post := by
  unfold wX1_leaves at h
  unfold zCp
  refine zC.of (by decide) (Nat.le_of_ble_eq_true rfl) ?_
  intro Γ g hR
  show zV β 3 Γ [] 0 [(0, .int x0), (1, .int x1)] []
  refine zv_iload_n (pc := 0) g dX1_leaves_0 1 rfl rfl ?_
  refine zv_bipush (pc := 1) g dX1_leaves_1 (v := 25) (by decide) ?_
  refine zv_idiv (pc := 3) g dX1_leaves_3 (by decide) ?_
  refine zv_topi (fun y1 ey1 => ?_)
  replace h := h y1 ey1
  refine zv_istore_n (pc := 4) 2 [(2, .int y1), (0, .int x0), (1, .int x1)] g dX1_leaves_4 rfl (by decide) rfl ?_
  refine zv_iload_n (pc := 5) g dX1_leaves_5 1 rfl rfl ?_
  rcases zz_ts_1_5 x0 with c2 | c2 | c2 | c2 | c2 | c2
  · refine zv_tblIn (pc := 6) 1 40 g dX1_leaves_6 c2 (by decide) (by decide) rfl rfl ?_
    replace h := h.1 c2
    refine zv_iload_n (pc := 40) g dX1_leaves_40 0 rfl rfl ?_
    refine zv_iconst (pc := 41) g dX1_leaves_41 (v := 1) (by decide) ?_
    refine zv_iadd (pc := 42) g dX1_leaves_42 ?_
    exact zv_iret (pc := 43) g hR dX1_leaves_43 ⟨_, rfl, rfl, h⟩
  · refine zv_tblIn (pc := 6) 2 70 g dX1_leaves_6 c2 (by decide) (by decide) rfl rfl ?_
    replace h := h.2.1 c2
    refine zv_iload_n (pc := 70) g dX1_leaves_70 0 rfl rfl ?_
    exact zv_iret (pc := 71) g hR dX1_leaves_71 ⟨_, rfl, rfl, h⟩
  · refine zv_tblIn (pc := 6) 3 44 g dX1_leaves_6 c2 (by decide) (by decide) rfl rfl ?_
    replace h := h.2.2.1 c2
    refine zv_iconst (pc := 44) g dX1_leaves_44 (v := 0) (by decide) ?_
    refine zv_iload_n (pc := 45) g dX1_leaves_45 0 rfl rfl ?_
    refine zv_iconst (pc := 46) g dX1_leaves_46 (v := 1) (by decide) ?_
    refine zv_isub (pc := 47) g dX1_leaves_47 ?_
    refine zv_max (pc := 48) g cm_X1_9 (by decide) (by decide) (Nat.le_of_ble_eq_true rfl) dX1_leaves_48 ?_
    exact zv_iret (pc := 51) g hR dX1_leaves_51 ⟨_, rfl, rfl, h⟩
  · refine zv_tblIn (pc := 6) 4 52 g dX1_leaves_6 c2 (by decide) (by decide) rfl rfl ?_
    replace h := h.2.2.2.1 c2
    refine zv_iload_n (pc := 52) g dX1_leaves_52 0 rfl rfl ?_
    refine zv_iconst (pc := 53) g dX1_leaves_53 (v := 1) (by decide) ?_
    refine zv_iadd (pc := 54) g dX1_leaves_54 ?_
    refine zv_iconst (pc := 55) g dX1_leaves_55 (v := 2) (by decide) ?_
    refine zv_imul (pc := 56) g dX1_leaves_56 ?_
    exact zv_iret (pc := 57) g hR dX1_leaves_57 ⟨_, rfl, rfl, h⟩
  · refine zv_tblIn (pc := 6) 5 58 g dX1_leaves_6 c2 (by decide) (by decide) rfl rfl ?_
    replace h := h.2.2.2.2.1 c2
    refine zv_iload_n (pc := 58) g dX1_leaves_58 2 rfl rfl ?_
    refine zv_if_ne (pc := 59) 68 g dX1_leaves_59 rfl (fun c3 => ?_) (fun c3 => ?_)
    · replace h := h.1 c3
      refine zv_iload_n (pc := 68) g dX1_leaves_68 0 rfl rfl ?_
      exact zv_iret (pc := 69) g hR dX1_leaves_69 ⟨_, rfl, rfl, h⟩
    · replace h := h.2 c3
      refine zv_iload_n (pc := 62) g dX1_leaves_62 0 rfl rfl ?_
      refine zv_iconst (pc := 63) g dX1_leaves_63 (v := 1) (by decide) ?_
      refine zv_iadd (pc := 64) g dX1_leaves_64 ?_
      refine zv_goto (pc := 65) 69 g dX1_leaves_65 rfl ?_
      exact zv_iret (pc := 69) g hR dX1_leaves_69 ⟨_, rfl, rfl, h⟩
  · refine zv_tblOut (pc := 6) 70 g dX1_leaves_6 c2 rfl ?_
    replace h := h.2.2.2.2.2 c2
    refine zv_iload_n (pc := 70) g dX1_leaves_70 0 rfl rfl ?_
    exact zv_iret (pc := 71) g hR dX1_leaves_71 ⟨_, rfl, rfl, h⟩
def wJ6_bitCount (post : Int32 → Prop) (x0 : Int32) : Prop := ∀ y1 : Int32, y1 = (x0 - (((x0.toUInt32 >>> (Int32.toUInt32 1 &&& Int32.toUInt32 31)).toInt32) &&& 1431655765)) → (∀ y2 : Int32, y2 = ((y1 &&& 858993459) + (((y1.toUInt32 >>> (Int32.toUInt32 2 &&& Int32.toUInt32 31)).toInt32) &&& 858993459)) → (∀ y3 : Int32, y3 = ((y2 + ((y2.toUInt32 >>> (Int32.toUInt32 4 &&& Int32.toUInt32 31)).toInt32)) &&& 252645135) → (∀ y4 : Int32, y4 = (y3 + ((y3.toUInt32 >>> (Int32.toUInt32 8 &&& Int32.toUInt32 31)).toInt32)) → (∀ y5 : Int32, y5 = (y4 + ((y4.toUInt32 >>> (Int32.toUInt32 16 &&& Int32.toUInt32 31)).toInt32)) → (post (y5 &&& 63))))))
set_option maxRecDepth 100000 in
set_option maxHeartbeats 4000000 in
theorem ctJ6_bitCount {β : zz_B} {post : Int32 → Prop} {x0 : Int32} (h : wJ6_bitCount post x0) : zCp β yJ6_bitCount_0f7a4 cJ6_bitCount_0f7a4 1 (some .int) 0 0 [.int x0] [] post := by
  unfold wJ6_bitCount at h
  unfold zCp
  refine zC.of (by decide) (Nat.le_of_ble_eq_true rfl) ?_
  intro Γ g hR
  show zV β 1 Γ [] 0 [(0, .int x0)] []
  refine zv_iload_n (pc := 0) g dJ6_bitCount_0f7a4_0 0 rfl rfl ?_
  refine zv_iload_n (pc := 1) g dJ6_bitCount_0f7a4_1 0 rfl rfl ?_
  refine zv_iconst (pc := 2) g dJ6_bitCount_0f7a4_2 (v := 1) (by decide) ?_
  refine zv_iushr (pc := 3) g dJ6_bitCount_0f7a4_3 ?_
  refine zv_ldcw (pc := 4) g wd_300 dJ6_bitCount_0f7a4_4 ?_
  refine zv_iand (pc := 7) g dJ6_bitCount_0f7a4_7 ?_
  refine zv_isub (pc := 8) g dJ6_bitCount_0f7a4_8 ?_
  refine zv_topi (fun y1 ey1 => ?_)
  replace h := h y1 ey1
  refine zv_istore_n (pc := 9) 0 [(0, .int y1)] g dJ6_bitCount_0f7a4_9 rfl (by decide) rfl ?_
  refine zv_iload_n (pc := 10) g dJ6_bitCount_0f7a4_10 0 rfl rfl ?_
  refine zv_ldcw (pc := 11) g wd_301 dJ6_bitCount_0f7a4_11 ?_
  refine zv_iand (pc := 14) g dJ6_bitCount_0f7a4_14 ?_
  refine zv_iload_n (pc := 15) g dJ6_bitCount_0f7a4_15 0 rfl rfl ?_
  refine zv_iconst (pc := 16) g dJ6_bitCount_0f7a4_16 (v := 2) (by decide) ?_
  refine zv_iushr (pc := 17) g dJ6_bitCount_0f7a4_17 ?_
  refine zv_ldcw (pc := 18) g wd_301 dJ6_bitCount_0f7a4_18 ?_
  refine zv_iand (pc := 21) g dJ6_bitCount_0f7a4_21 ?_
  refine zv_iadd (pc := 22) g dJ6_bitCount_0f7a4_22 ?_
  refine zv_topi (fun y2 ey2 => ?_)
  replace h := h y2 ey2
  refine zv_istore_n (pc := 23) 0 [(0, .int y2)] g dJ6_bitCount_0f7a4_23 rfl (by decide) rfl ?_
  refine zv_iload_n (pc := 24) g dJ6_bitCount_0f7a4_24 0 rfl rfl ?_
  refine zv_iload_n (pc := 25) g dJ6_bitCount_0f7a4_25 0 rfl rfl ?_
  refine zv_iconst (pc := 26) g dJ6_bitCount_0f7a4_26 (v := 4) (by decide) ?_
  refine zv_iushr (pc := 27) g dJ6_bitCount_0f7a4_27 ?_
  refine zv_iadd (pc := 28) g dJ6_bitCount_0f7a4_28 ?_
  refine zv_ldcw (pc := 29) g wd_302 dJ6_bitCount_0f7a4_29 ?_
  refine zv_iand (pc := 32) g dJ6_bitCount_0f7a4_32 ?_
  refine zv_topi (fun y3 ey3 => ?_)
  replace h := h y3 ey3
  refine zv_istore_n (pc := 33) 0 [(0, .int y3)] g dJ6_bitCount_0f7a4_33 rfl (by decide) rfl ?_
  refine zv_iload_n (pc := 34) g dJ6_bitCount_0f7a4_34 0 rfl rfl ?_
  refine zv_iload_n (pc := 35) g dJ6_bitCount_0f7a4_35 0 rfl rfl ?_
  refine zv_bipush (pc := 36) g dJ6_bitCount_0f7a4_36 (v := 8) (by decide) ?_
  refine zv_iushr (pc := 38) g dJ6_bitCount_0f7a4_38 ?_
  refine zv_iadd (pc := 39) g dJ6_bitCount_0f7a4_39 ?_
  refine zv_topi (fun y4 ey4 => ?_)
  replace h := h y4 ey4
  refine zv_istore_n (pc := 40) 0 [(0, .int y4)] g dJ6_bitCount_0f7a4_40 rfl (by decide) rfl ?_
  refine zv_iload_n (pc := 41) g dJ6_bitCount_0f7a4_41 0 rfl rfl ?_
  refine zv_iload_n (pc := 42) g dJ6_bitCount_0f7a4_42 0 rfl rfl ?_
  refine zv_bipush (pc := 43) g dJ6_bitCount_0f7a4_43 (v := 16) (by decide) ?_
  refine zv_iushr (pc := 45) g dJ6_bitCount_0f7a4_45 ?_
  refine zv_iadd (pc := 46) g dJ6_bitCount_0f7a4_46 ?_
  refine zv_topi (fun y5 ey5 => ?_)
  replace h := h y5 ey5
  refine zv_istore_n (pc := 47) 0 [(0, .int y5)] g dJ6_bitCount_0f7a4_47 rfl (by decide) rfl ?_
  refine zv_iload_n (pc := 48) g dJ6_bitCount_0f7a4_48 0 rfl rfl ?_
  refine zv_bipush (pc := 49) g dJ6_bitCount_0f7a4_49 (v := 63) (by decide) ?_
  refine zv_iand (pc := 51) g dJ6_bitCount_0f7a4_51 ?_
  exact zv_iret (pc := 52) g hR dJ6_bitCount_0f7a4_52 ⟨_, rfl, rfl, h⟩
def wX1_keeps (post : Int32 → Prop) (x0 : Int32) (x1 : Int32) : Prop := (x0 = 2 → post 0) ∧ (x0 = 5 → wJ6_bitCount (fun v2 => (v2 < (5 : Int32) → post 0) ∧ (¬ v2 < (5 : Int32) → post 1)) x1) ∧ ((¬ x0 = 2 ∧ ¬ x0 = 5) → post 1)
set_option maxRecDepth 100000 in
set_option maxHeartbeats 4000000 in
theorem ctX1_keeps {β : zz_B} {post : Int32 → Prop} {x0 : Int32} {x1 : Int32} (h : wX1_keeps post x0 x1) : zCp β yX1_keeps cX1_keeps 2 (some .boolean) 1 20 [.int x0, .int x1] [] post := by
  unfold wX1_keeps at h
  unfold zCp
  refine zC.of (by decide) (Nat.le_of_ble_eq_true rfl) ?_
  intro Γ g hR
  show zV β 2 Γ [] 0 [(0, .int x0), (1, .int x1)] []
  refine zv_iload_n (pc := 0) g dX1_keeps_0 0 rfl rfl ?_
  rcases zz_ls_2_5 x0 with c1 | c1 | c1
  · refine zv_lkp (pc := 1) 28 g dX1_keeps_1 (by decide) (by rw [c1]) rfl ?_
    replace h := h.1 c1
    refine zv_iconst (pc := 28) g dX1_keeps_28 (v := 0) (by decide) ?_
    exact zv_zret (pc := 29) g hR (by decide) dX1_keeps_29 ⟨_, rfl, rfl, h⟩
  · refine zv_lkp (pc := 1) 30 g dX1_keeps_1 (by decide) (by rw [c1]) rfl ?_
    replace h := h.2.1 c1
    refine zv_iload_n (pc := 30) g dX1_keeps_30 1 rfl rfl ?_
    refine zv_cSp (pc := 31) g cw_X1_15 (ctJ6_bitCount h) (by decide) (by decide) zz_pN rfl rfl (Nat.le_of_ble_eq_true rfl) dX1_keeps_31 (fun v2 h => ?_)
    refine zv_iconst (pc := 34) g dX1_keeps_34 (v := 5) (by decide) ?_
    refine zv_icmp_lt (pc := 35) 42 g dX1_keeps_35 rfl (fun c3 => ?_) (fun c3 => ?_)
    · replace h := h.1 c3
      refine zv_iconst (pc := 42) g dX1_keeps_42 (v := 0) (by decide) ?_
      exact zv_zret (pc := 43) g hR (by decide) dX1_keeps_43 ⟨_, rfl, rfl, h⟩
    · replace h := h.2 c3
      refine zv_iconst (pc := 38) g dX1_keeps_38 (v := 1) (by decide) ?_
      refine zv_goto (pc := 39) 43 g dX1_keeps_39 rfl ?_
      exact zv_zret (pc := 43) g hR (by decide) dX1_keeps_43 ⟨_, rfl, rfl, h⟩
  · refine zv_lkp (pc := 1) 44 g dX1_keeps_1 (by decide) (zz_lo_2_5 x0 c1) rfl ?_
    replace h := h.2.2 c1
    refine zv_iconst (pc := 44) g dX1_keeps_44 (v := 1) (by decide) ?_
    exact zv_zret (pc := 45) g hR (by decide) dX1_keeps_45 ⟨_, rfl, rfl, h⟩
