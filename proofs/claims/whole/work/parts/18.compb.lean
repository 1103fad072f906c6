def wX4_kind (post : Int32 → (XSt) → Prop) (S : XSt) (x1 : Int32) (x2 : Int32) : Prop := wX4_isDuster (fun v1 => (v1 = 0 → wX4_finding (fun v3 S4 => post v3 S4) S (-1000000001)) ∧ (¬ v1 = 0 → wX4_within (fun v5 => (¬ v5 = 0 → wX4_withMostMemories_kinds (fun v7 S8 => post v7 S8) S x1 5 x2) ∧ (v5 = 0 → wX4_finding (fun v9 S10 => post v9 S10) S (-1000000001))) x2 1 40)) S x1
set_option maxRecDepth 100000 in
set_option maxHeartbeats 4000000 in
theorem ctX4_kind {β : zz_B} {b : Nat → Nat} {post : Int32 → (XSt) → Prop} {S : XSt} {x1 : Int32} {x2 : Int32} (h : wX4_kind post S x1 x2) : zCi β yX4_kind cX4_kind 3 (some .int) 6 144 [.ref (b 0), .int x1, .int x2] (xW β b) S post := by
  unfold wX4_kind at h
  unfold zCi
  refine zC.of (by decide) (Nat.le_of_ble_eq_true rfl) ?_
  intro Γ g hR
  show zV β 3 Γ ((xW β b) S) 0 [(0, .ref (b 0)), (1, .int x1), (2, .int x2)] []
  refine zv_aload_n (pc := 0) g dX4_kind_0 0 rfl rfl ?_
  refine zv_iload_n (pc := 1) g dX4_kind_1 1 rfl rfl ?_
  refine zv_cVp (pc := 2) g cw_X4_99 (ctX4_isDuster h) (by decide) (by decide) zz_p0 (q := 0) rfl rfl rfl rfl rfl (Nat.le_of_ble_eq_true rfl) dX4_kind_2 (fun v1 h => ?_)
  refine zv_if_eq (pc := 5) 18 g dX4_kind_5 rfl (fun c2 => ?_) (fun c2 => ?_)
  · replace h := h.1 c2
    refine zv_aload_n (pc := 18) g dX4_kind_18 0 rfl rfl ?_
    refine zv_ldc (pc := 19) g wd_217 dX4_kind_19 ?_
    refine zv_cVi (pc := 21) g cw_X4_52 (ctX4_finding h) (by decide) (by decide) zz_p0 (xW β b) (fun T => zz_p1 T) (q := 0) rfl rfl rfl rfl rfl (Nat.le_of_ble_eq_true rfl) dX4_kind_21 (fun v3 S4 h => ?_)
    exact zv_iret (pc := 24) g hR dX4_kind_24 ⟨_, _, rfl, rfl, h⟩
  · replace h := h.2 c2
    refine zv_iload_n (pc := 8) g dX4_kind_8 2 rfl rfl ?_
    refine zv_iconst (pc := 9) g dX4_kind_9 (v := 1) (by decide) ?_
    refine zv_bipush (pc := 10) g dX4_kind_10 (v := 40) (by decide) ?_
    refine zv_cSp (pc := 12) g cw_X4_47 (ctX4_within h) (by decide) (by decide) zz_pN rfl rfl (Nat.le_of_ble_eq_true rfl) dX4_kind_12 (fun v5 h => ?_)
    refine zv_if_ne (pc := 15) 25 g dX4_kind_15 rfl (fun c6 => ?_) (fun c6 => ?_)
    · replace h := h.1 c6
      refine zv_aload_n (pc := 25) g dX4_kind_25 0 rfl rfl ?_
      refine zv_aload_n (pc := 26) g dX4_kind_26 0 rfl rfl ?_
      refine zv_get (pc := 27) g fl_X4_19 0 rfl rfl dX4_kind_27 ?_
      refine zv_get (pc := 30) g fl_X4_102 15 rfl rfl dX4_kind_30 ?_
      refine zv_iload_n (pc := 33) g dX4_kind_33 1 rfl rfl ?_
      refine zv_iconst (pc := 34) g dX4_kind_34 (v := 5) (by decide) ?_
      refine zv_iload_n (pc := 35) g dX4_kind_35 2 rfl rfl ?_
      refine zv_cVi (pc := 36) g cw_X4_175 (ctX4_withMostMemories_kinds h) (by decide) (by decide) zz_p0 (xW β b) (fun T => zz_p1 T) (q := 0) rfl rfl rfl rfl rfl (Nat.le_of_ble_eq_true rfl) dX4_kind_36 (fun v7 S8 h => ?_)
      exact zv_iret (pc := 39) g hR dX4_kind_39 ⟨_, _, rfl, rfl, h⟩
    · replace h := h.2 c6
      refine zv_aload_n (pc := 18) g dX4_kind_18 0 rfl rfl ?_
      refine zv_ldc (pc := 19) g wd_217 dX4_kind_19 ?_
      refine zv_cVi (pc := 21) g cw_X4_52 (ctX4_finding h) (by decide) (by decide) zz_p0 (xW β b) (fun T => zz_p1 T) (q := 0) rfl rfl rfl rfl rfl (Nat.le_of_ble_eq_true rfl) dX4_kind_21 (fun v9 S10 h => ?_)
      exact zv_iret (pc := 24) g hR dX4_kind_24 ⟨_, _, rfl, rfl, h⟩
def wX4_grime (post : Int32 → (XSt) → Prop) (S : XSt) (x1 : Int32) (x2 : Int32) : Prop := wX4_isDuster (fun v1 => (v1 = 0 → wX4_finding (fun v3 S4 => post v3 S4) S (-1000000001)) ∧ (¬ v1 = 0 → wX4_within (fun v5 => (¬ v5 = 0 → wX4_withMostMemories_grimes (fun v7 S8 => post v7 S8) S x1 99 x2) ∧ (v5 = 0 → wX4_finding (fun v9 S10 => post v9 S10) S (-1000000001))) x2 1 40)) S x1
set_option maxRecDepth 100000 in
set_option maxHeartbeats 4000000 in
theorem ctX4_grime {β : zz_B} {b : Nat → Nat} {post : Int32 → (XSt) → Prop} {S : XSt} {x1 : Int32} {x2 : Int32} (h : wX4_grime post S x1 x2) : zCi β yX4_grime cX4_grime 3 (some .int) 6 144 [.ref (b 0), .int x1, .int x2] (xW β b) S post := by
  unfold wX4_grime at h
  unfold zCi
  refine zC.of (by decide) (Nat.le_of_ble_eq_true rfl) ?_
  intro Γ g hR
  show zV β 3 Γ ((xW β b) S) 0 [(0, .ref (b 0)), (1, .int x1), (2, .int x2)] []
  refine zv_aload_n (pc := 0) g dX4_grime_0 0 rfl rfl ?_
  refine zv_iload_n (pc := 1) g dX4_grime_1 1 rfl rfl ?_
  refine zv_cVp (pc := 2) g cw_X4_99 (ctX4_isDuster h) (by decide) (by decide) zz_p0 (q := 0) rfl rfl rfl rfl rfl (Nat.le_of_ble_eq_true rfl) dX4_grime_2 (fun v1 h => ?_)
  refine zv_if_eq (pc := 5) 18 g dX4_grime_5 rfl (fun c2 => ?_) (fun c2 => ?_)
  · replace h := h.1 c2
    refine zv_aload_n (pc := 18) g dX4_grime_18 0 rfl rfl ?_
    refine zv_ldc (pc := 19) g wd_217 dX4_grime_19 ?_
    refine zv_cVi (pc := 21) g cw_X4_52 (ctX4_finding h) (by decide) (by decide) zz_p0 (xW β b) (fun T => zz_p1 T) (q := 0) rfl rfl rfl rfl rfl (Nat.le_of_ble_eq_true rfl) dX4_grime_21 (fun v3 S4 h => ?_)
    exact zv_iret (pc := 24) g hR dX4_grime_24 ⟨_, _, rfl, rfl, h⟩
  · replace h := h.2 c2
    refine zv_iload_n (pc := 8) g dX4_grime_8 2 rfl rfl ?_
    refine zv_iconst (pc := 9) g dX4_grime_9 (v := 1) (by decide) ?_
    refine zv_bipush (pc := 10) g dX4_grime_10 (v := 40) (by decide) ?_
    refine zv_cSp (pc := 12) g cw_X4_47 (ctX4_within h) (by decide) (by decide) zz_pN rfl rfl (Nat.le_of_ble_eq_true rfl) dX4_grime_12 (fun v5 h => ?_)
    refine zv_if_ne (pc := 15) 25 g dX4_grime_15 rfl (fun c6 => ?_) (fun c6 => ?_)
    · replace h := h.1 c6
      refine zv_aload_n (pc := 25) g dX4_grime_25 0 rfl rfl ?_
      refine zv_aload_n (pc := 26) g dX4_grime_26 0 rfl rfl ?_
      refine zv_get (pc := 27) g fl_X4_19 0 rfl rfl dX4_grime_27 ?_
      refine zv_get (pc := 30) g fl_X4_105 15 rfl rfl dX4_grime_30 ?_
      refine zv_iload_n (pc := 33) g dX4_grime_33 1 rfl rfl ?_
      refine zv_bipush (pc := 34) g dX4_grime_34 (v := 99) (by decide) ?_
      refine zv_iload_n (pc := 36) g dX4_grime_36 2 rfl rfl ?_
      refine zv_cVi (pc := 37) g cw_X4_175 (ctX4_withMostMemories_grimes h) (by decide) (by decide) zz_p0 (xW β b) (fun T => zz_p1 T) (q := 0) rfl rfl rfl rfl rfl (Nat.le_of_ble_eq_true rfl) dX4_grime_37 (fun v7 S8 h => ?_)
      exact zv_iret (pc := 40) g hR dX4_grime_40 ⟨_, _, rfl, rfl, h⟩
    · replace h := h.2 c6
      refine zv_aload_n (pc := 18) g dX4_grime_18 0 rfl rfl ?_
      refine zv_ldc (pc := 19) g wd_217 dX4_grime_19 ?_
      refine zv_cVi (pc := 21) g cw_X4_52 (ctX4_finding h) (by decide) (by decide) zz_p0 (xW β b) (fun T => zz_p1 T) (q := 0) rfl rfl rfl rfl rfl (Nat.le_of_ble_eq_true rfl) dX4_grime_21 (fun v9 S10 h => ?_)
      exact zv_iret (pc := 24) g hR dX4_grime_24 ⟨_, _, rfl, rfl, h⟩
def wX4_best_42 (post : Int32 → (XSt) → Prop) : Nat → (XSt) → (Int32) → (Int32) → (Int32) → (Int32) → Prop
  | 0, _, _, _, _, _ => False
  | f0 + 1, S, x1, x2, x3, x4 => ((h_dusters (x_live S)) ≤ x4 → post x2 S) ∧ (¬ (h_dusters (x_live S)) ≤ x4 → wX0_becomeAs (fun S5 => ∀ S6 : XSt, S6 = (x_live_s (x_ahead_s S S5.1) S5.2) → (wX0_washOne (fun v7 S8 => ∀ S9 : XSt, S9 = (x_ahead_s S6 S8) → (wX4_dustAheadAfter (fun v10 S11 => (x3 ≤ v10 → wX4_best_42 post f0 S11 x1 x2 x3 (x4 + 1)) ∧ (¬ x3 ≤ v10 → wX4_best_42 post f0 S11 x1 x4 v10 (x4 + 1))) S9 x1)) (x_ahead S6) x4)) (x_ahead S, x_live S))
set_option maxRecDepth 100000 in
set_option maxHeartbeats 4000000 in
theorem lX4_best_42 {β : zz_B} {Γ : zz_X} {b : Nat → Nat} {post : Int32 → (XSt) → Prop} (g : zG β 6 Γ cX4_best RX4 6 137) (hR : zR β Γ (some .int) (fun r w => ∃ (v : Int32) (T : XSt), r = some (.int v) ∧ w = (xW β b) T ∧ post v T)) : ∀ (f0 : Nat) (S : XSt) (x1 : Int32) (x2 : Int32) (x3 : Int32) (x4 : Int32) , wX4_best_42 post f0 S x1 x2 x3 x4 → zV β 6 Γ ((xW β b) S) 42 [(0, .ref (b 0)), (1, .int x1), (2, .int x2), (3, .int x3), (4, .int x4)] [] := by
  intro f0
  induction f0 with
  | zero => intro S x1 x2 x3 x4 h; exact h.elim
  | succ f0 ih0 =>
    intro S x1 x2 x3 x4 h
    rw [wX4_best_42] at h
    refine zv_iload (pc := 42) g dX4_best_42 4 rfl ?_
    refine zv_aload_n (pc := 44) g dX4_best_44 0 rfl rfl ?_
    refine zv_get (pc := 45) g fl_X4_12 0 rfl rfl dX4_best_45 ?_
    refine zv_get (pc := 48) g fl_X4_92 1 rfl rfl dX4_best_48 ?_
    refine zv_icmp_ge (pc := 51) 100 g dX4_best_51 rfl (fun c4 => ?_) (fun c4 => ?_)
    · replace h := h.1 c4
      refine zv_iload_n (pc := 100) g dX4_best_100 2 rfl rfl ?_
      exact zv_iret (pc := 101) g hR dX4_best_101 ⟨_, _, rfl, rfl, h⟩
    · replace h := h.2 c4
      refine zv_aload_n (pc := 54) g dX4_best_54 0 rfl rfl ?_
      refine zv_get (pc := 55) g fl_X4_19 0 rfl rfl dX4_best_55 ?_
      refine zv_aload_n (pc := 58) g dX4_best_58 0 rfl rfl ?_
      refine zv_get (pc := 59) g fl_X4_12 0 rfl rfl dX4_best_59 ?_
      refine zv_cVv (pc := 62) g cw_X4_154 (ctX0_becomeAs h) (by decide) (by decide) (pmX_ahead_live β b S) (fun T => xW β b (x_live_s (x_ahead_s S T.1) T.2)) (fun T => pbX_ahead_live β b S T) (q := 0) rfl rfl rfl rfl rfl (Nat.le_of_ble_eq_true rfl) dX4_best_62 (fun S5 h => ?_)
      refine zv_nmS (wf := (xW β b)) (fun S6 eS6 => ?_)
      replace h := h S6 eS6
      refine zv_aload_n (pc := 65) g dX4_best_65 0 rfl rfl ?_
      refine zv_get (pc := 66) g fl_X4_19 0 rfl rfl dX4_best_66 ?_
      refine zv_iload (pc := 69) g dX4_best_69 4 rfl ?_
      refine zv_cVi (pc := 71) g cw_X4_140 (ctX0_washOne h) (by decide) (by decide) (pmX_ahead β b S6) (fun T => xW β b (x_ahead_s S6 T)) (fun T => pbX_ahead β b S6 T) (q := 0) rfl rfl rfl rfl rfl (Nat.le_of_ble_eq_true rfl) dX4_best_71 (fun v7 S8 h => ?_)
      refine zv_nmS (wf := (xW β b)) (fun S9 eS9 => ?_)
      replace h := h S9 eS9
      refine zv_pop (pc := 74) g dX4_best_74 rfl ?_
      refine zv_aload_n (pc := 75) g dX4_best_75 0 rfl rfl ?_
      refine zv_iload_n (pc := 76) g dX4_best_76 1 rfl rfl ?_
      refine zv_cVi (pc := 77) g cw_X4_172 (ctX4_dustAheadAfter h) (by decide) (by decide) zz_p0 (xW β b) (fun T => zz_p1 T) (q := 0) rfl rfl rfl rfl rfl (Nat.le_of_ble_eq_true rfl) dX4_best_77 (fun v10 S11 h => ?_)
      refine zv_istore (pc := 80) [(5, .int v10), (0, .ref (b 0)), (1, .int x1), (2, .int x2), (3, .int x3), (4, .int x4)] g dX4_best_80 (by decide) rfl ?_
      refine zv_iload (pc := 82) g dX4_best_82 0 rfl ?_
      refine zv_iload_n (pc := 84) g dX4_best_84 4 rfl rfl ?_
      refine zv_icmp_ge (pc := 85) 94 g dX4_best_85 rfl (fun c12 => ?_) (fun c12 => ?_)
      · replace h := h.1 c12
        refine zv_iinc (pc := 94) 1 [(4, .int (x4 + 1)), (5, .int v10), (0, .ref (b 0)), (1, .int x1), (2, .int x2), (3, .int x3)] g dX4_best_94 5 rfl (by decide) (by decide) rfl ?_
        refine zv_goto (pc := 97) 42 g dX4_best_97 rfl ?_
        refine zv_sub [2, 3, 4, 5, 0] rfl ?_
        exact ih0 _ _ _ _ _ h
      · replace h := h.2 c12
        refine zv_iload (pc := 88) g dX4_best_88 0 rfl ?_
        refine zv_istore_n (pc := 90) 3 [(3, .int v10), (5, .int v10), (0, .ref (b 0)), (1, .int x1), (2, .int x2), (4, .int x4)] g dX4_best_90 rfl (by decide) rfl ?_
        refine zv_iload (pc := 91) g dX4_best_91 5 rfl ?_
        refine zv_istore_n (pc := 93) 2 [(2, .int x4), (3, .int v10), (5, .int v10), (0, .ref (b 0)), (1, .int x1), (4, .int x4)] g dX4_best_93 rfl (by decide) rfl ?_
        refine zv_iinc (pc := 94) 1 [(4, .int (x4 + 1)), (2, .int x4), (3, .int v10), (5, .int v10), (0, .ref (b 0)), (1, .int x1)] g dX4_best_94 5 rfl (by decide) (by decide) rfl ?_
        refine zv_goto (pc := 97) 42 g dX4_best_97 rfl ?_
        refine zv_sub [4, 5, 1, 2, 0] rfl ?_
        exact ih0 _ _ _ _ _ h
def wX4_best (post : Int32 → (XSt) → Prop) (S : XSt) (x1 : Int32) : Prop := wX4_within (fun v1 => (¬ v1 = 0 → (¬ (h_dusters (x_live S)) = 0 → ∃ f13 : Nat, wX4_best_42 post f13 S x1 0 2147483647 0) ∧ ((h_dusters (x_live S)) = 0 → wX4_finding (fun v14 S15 => post v14 S15) S (-1000000004))) ∧ (v1 = 0 → wX4_finding (fun v16 S17 => post v16 S17) S (-1000000001))) x1 1 40
set_option maxRecDepth 100000 in
set_option maxHeartbeats 4000000 in
theorem ctX4_best {β : zz_B} {b : Nat → Nat} {post : Int32 → (XSt) → Prop} {S : XSt} {x1 : Int32} (h : wX4_best post S x1) : zCi β yX4_best cX4_best 6 (some .int) 6 137 [.ref (b 0), .int x1] (xW β b) S post := by
  unfold wX4_best at h
  unfold zCi
  refine zC.of (by decide) (Nat.le_of_ble_eq_true rfl) ?_
  intro Γ g hR
  show zV β 6 Γ ((xW β b) S) 0 [(0, .ref (b 0)), (1, .int x1)] []
  refine zv_iload_n (pc := 0) g dX4_best_0 1 rfl rfl ?_
  refine zv_iconst (pc := 1) g dX4_best_1 (v := 1) (by decide) ?_
  refine zv_bipush (pc := 2) g dX4_best_2 (v := 40) (by decide) ?_
  refine zv_cSp (pc := 4) g cw_X4_47 (ctX4_within h) (by decide) (by decide) zz_pN rfl rfl (Nat.le_of_ble_eq_true rfl) dX4_best_4 (fun v1 h => ?_)
  refine zv_if_ne (pc := 7) 17 g dX4_best_7 rfl (fun c2 => ?_) (fun c2 => ?_)
  · replace h := h.1 c2
    refine zv_aload_n (pc := 17) g dX4_best_17 0 rfl rfl ?_
    refine zv_get (pc := 18) g fl_X4_12 0 rfl rfl dX4_best_18 ?_
    refine zv_get (pc := 21) g fl_X4_92 1 rfl rfl dX4_best_21 ?_
    refine zv_if_ne (pc := 24) 34 g dX4_best_24 rfl (fun c3 => ?_) (fun c3 => ?_)
    · replace h := h.1 c3
      refine zv_iconst (pc := 34) g dX4_best_34 (v := 0) (by decide) ?_
      refine zv_istore_n (pc := 35) 2 [(2, .int 0), (0, .ref (b 0)), (1, .int x1)] g dX4_best_35 rfl (by decide) rfl ?_
      refine zv_ldc (pc := 36) g wd_411 dX4_best_36 ?_
      refine zv_istore_n (pc := 38) 3 [(3, .int 2147483647), (2, .int 0), (0, .ref (b 0)), (1, .int x1)] g dX4_best_38 rfl (by decide) rfl ?_
      refine zv_iconst (pc := 39) g dX4_best_39 (v := 0) (by decide) ?_
      refine zv_istore (pc := 40) [(4, .int 0), (3, .int 2147483647), (2, .int 0), (0, .ref (b 0)), (1, .int x1)] g dX4_best_40 (by decide) rfl ?_
      obtain ⟨f13, h⟩ := h
      refine zv_sub [3, 4, 2, 1, 0] rfl ?_
      exact lX4_best_42 g hR f13 _ _ _ _ _ h
    · replace h := h.2 c3
      refine zv_aload_n (pc := 27) g dX4_best_27 0 rfl rfl ?_
      refine zv_ldc (pc := 28) g wd_391 dX4_best_28 ?_
      refine zv_cVi (pc := 30) g cw_X4_52 (ctX4_finding h) (by decide) (by decide) zz_p0 (xW β b) (fun T => zz_p1 T) (q := 0) rfl rfl rfl rfl rfl (Nat.le_of_ble_eq_true rfl) dX4_best_30 (fun v14 S15 h => ?_)
      exact zv_iret (pc := 33) g hR dX4_best_33 ⟨_, _, rfl, rfl, h⟩
  · replace h := h.2 c2
    refine zv_aload_n (pc := 10) g dX4_best_10 0 rfl rfl ?_
    refine zv_ldc (pc := 11) g wd_217 dX4_best_11 ?_
    refine zv_cVi (pc := 13) g cw_X4_52 (ctX4_finding h) (by decide) (by decide) zz_p0 (xW β b) (fun T => zz_p1 T) (q := 0) rfl rfl rfl rfl rfl (Nat.le_of_ble_eq_true rfl) dX4_best_13 (fun v16 S17 h => ?_)
    exact zv_iret (pc := 16) g hR dX4_best_16 ⟨_, _, rfl, rfl, h⟩
def wX4_delay_52 (post : Int32 → (XSt) → Prop) : Nat → (XSt) → (Int32) → (Int32) → (Int32) → (Int32) → (Int32) → (Int32) → Prop
  | 0, _, _, _, _, _, _, _ => False
  | f0 + 1, S, x1, x2, x3, x4, x5, x6 => ((20 : Int32) < x6 → post x4 S) ∧ (¬ (20 : Int32) < x6 → wX0_becomeAs (fun S14 => ∀ S15 : XSt, S15 = (x_ahead_s (x_aside_s S S14.1) S14.2) → (wX0_shakeOne (fun v16 S17 => ∀ S18 : XSt, S18 = (x_aside_s S15 S17) → (wX0_goDays (fun S19 => ∀ S20 : XSt, S20 = (x_aside_s S18 S19) → (vp_in x2 8 ∧ (wJ6_bitCount (fun v21 => (v21 ≤ x5 → wX0_goDay (fun S23 => ∀ S24 : XSt, S24 = (x_ahead_s S20 S23) → (wX4_delay_52 post f0 S24 x1 x2 x3 x4 x5 (x6 + 1))) (x_ahead S20)) ∧ (¬ v21 ≤ x5 → wX0_goDay (fun S25 => ∀ S26 : XSt, S26 = (x_ahead_s S20 S25) → (wX4_delay_52 post f0 S26 x1 x2 x3 x6 v21 (x6 + 1))) (x_ahead S20))) (h_memories (x_aside S20) (Int32.toNatClampNeg x2))))) (x_aside S18) x3)) (x_aside S15) x1)) (x_aside S, x_ahead S))
set_option maxRecDepth 100000 in
set_option maxHeartbeats 4000000 in
theorem lX4_delay_52 {β : zz_B} {Γ : zz_X} {b : Nat → Nat} {post : Int32 → (XSt) → Prop} (g : zG β 8 Γ cX4_delay RX4 5 116) (hR : zR β Γ (some .int) (fun r w => ∃ (v : Int32) (T : XSt), r = some (.int v) ∧ w = (xW β b) T ∧ post v T)) : ∀ (f0 : Nat) (S : XSt) (x1 : Int32) (x2 : Int32) (x3 : Int32) (x4 : Int32) (x5 : Int32) (x6 : Int32) , wX4_delay_52 post f0 S x1 x2 x3 x4 x5 x6 → zV β 8 Γ ((xW β b) S) 52 [(0, .ref (b 0)), (1, .int x1), (2, .int x2), (3, .int x3), (4, .int x4), (5, .int x5), (6, .int x6)] [] := by
  intro f0
  induction f0 with
  | zero => intro S x1 x2 x3 x4 x5 x6 h; exact h.elim
  | succ f0 ih0 =>
    intro S x1 x2 x3 x4 x5 x6 h
    rw [wX4_delay_52] at h
    refine zv_iload (pc := 52) g dX4_delay_52 6 rfl ?_
    refine zv_bipush (pc := 54) g dX4_delay_54 (v := 20) (by decide) ?_
    refine zv_icmp_gt (pc := 56) 129 g dX4_delay_56 rfl (fun c13 => ?_) (fun c13 => ?_)
    · replace h := h.1 c13
      refine zv_iload (pc := 129) g dX4_delay_129 4 rfl ?_
      exact zv_iret (pc := 131) g hR dX4_delay_131 ⟨_, _, rfl, rfl, h⟩
    · replace h := h.2 c13
      refine zv_aload_n (pc := 59) g dX4_delay_59 0 rfl rfl ?_
      refine zv_get (pc := 60) g fl_X4_22 0 rfl rfl dX4_delay_60 ?_
      refine zv_aload_n (pc := 63) g dX4_delay_63 0 rfl rfl ?_
      refine zv_get (pc := 64) g fl_X4_19 0 rfl rfl dX4_delay_64 ?_
      refine zv_cVv (pc := 67) g cw_X4_154 (ctX0_becomeAs h) (by decide) (by decide) (pmX_aside_ahead β b S) (fun T => xW β b (x_ahead_s (x_aside_s S T.1) T.2)) (fun T => pbX_aside_ahead β b S T) (q := 0) rfl rfl rfl rfl rfl (Nat.le_of_ble_eq_true rfl) dX4_delay_67 (fun S14 h => ?_)
      refine zv_nmS (wf := (xW β b)) (fun S15 eS15 => ?_)
      replace h := h S15 eS15
      refine zv_aload_n (pc := 70) g dX4_delay_70 0 rfl rfl ?_
      refine zv_get (pc := 71) g fl_X4_22 0 rfl rfl dX4_delay_71 ?_
      refine zv_iload_n (pc := 74) g dX4_delay_74 1 rfl rfl ?_
      refine zv_cVi (pc := 75) g cw_X4_143 (ctX0_shakeOne h) (by decide) (by decide) (pmX_aside β b S15) (fun T => xW β b (x_aside_s S15 T)) (fun T => pbX_aside β b S15 T) (q := 0) rfl rfl rfl rfl rfl (Nat.le_of_ble_eq_true rfl) dX4_delay_75 (fun v16 S17 h => ?_)
      refine zv_nmS (wf := (xW β b)) (fun S18 eS18 => ?_)
      replace h := h S18 eS18
      refine zv_pop (pc := 78) g dX4_delay_78 rfl ?_
      refine zv_aload_n (pc := 79) g dX4_delay_79 0 rfl rfl ?_
      refine zv_get (pc := 80) g fl_X4_22 0 rfl rfl dX4_delay_80 ?_
      refine zv_iload_n (pc := 83) g dX4_delay_83 3 rfl rfl ?_
      refine zv_cVv (pc := 84) g cw_X4_147 (ctX0_goDays h) (by decide) (by decide) (pmX_aside β b S18) (fun T => xW β b (x_aside_s S18 T)) (fun T => pbX_aside β b S18 T) (q := 0) rfl rfl rfl rfl rfl (Nat.le_of_ble_eq_true rfl) dX4_delay_84 (fun S19 h => ?_)
      refine zv_nmS (wf := (xW β b)) (fun S20 eS20 => ?_)
      replace h := h S20 eS20
      refine zv_aload_n (pc := 87) g dX4_delay_87 0 rfl rfl ?_
      refine zv_get (pc := 88) g fl_X4_22 0 rfl rfl dX4_delay_88 ?_
      refine zv_get (pc := 91) g fl_X4_67 22 rfl rfl dX4_delay_91 ?_
      refine zv_iload_n (pc := 94) g dX4_delay_94 2 rfl rfl ?_
      obtain ⟨hi, h⟩ := h
      refine zv_iald (pc := 95) g 24 rfl hi dX4_delay_95 ?_
      refine zv_cSp (pc := 96) g cw_X4_179 (ctJ6_bitCount h) (by decide) (by decide) zz_pN rfl rfl (Nat.le_of_ble_eq_true rfl) dX4_delay_96 (fun v21 h => ?_)
      refine zv_istore (pc := 99) [(7, .int v21), (0, .ref (b 0)), (1, .int x1), (2, .int x2), (3, .int x3), (4, .int x4), (5, .int x5), (6, .int x6)] g dX4_delay_99 (by decide) rfl ?_
      refine zv_iload (pc := 101) g dX4_delay_101 0 rfl ?_
      refine zv_iload (pc := 103) g dX4_delay_103 6 rfl ?_
      refine zv_icmp_le (pc := 105) 116 g dX4_delay_105 rfl (fun c22 => ?_) (fun c22 => ?_)
      · replace h := h.1 c22
        refine zv_aload_n (pc := 116) g dX4_delay_116 1 rfl rfl ?_
        refine zv_get (pc := 117) g fl_X4_19 0 rfl rfl dX4_delay_117 ?_
        refine zv_cVv (pc := 120) g cw_X4_158 (ctX0_goDay h) (by decide) (by decide) (pmX_ahead β b S20) (fun T => xW β b (x_ahead_s S20 T)) (fun T => pbX_ahead β b S20 T) (q := 0) rfl rfl rfl rfl rfl (Nat.le_of_ble_eq_true rfl) dX4_delay_120 (fun S23 h => ?_)
        refine zv_nmS (wf := (xW β b)) (fun S24 eS24 => ?_)
        replace h := h S24 eS24
        refine zv_iinc (pc := 123) 1 [(6, .int (x6 + 1)), (7, .int v21), (0, .ref (b 0)), (1, .int x1), (2, .int x2), (3, .int x3), (4, .int x4), (5, .int x5)] g dX4_delay_123 7 rfl (by decide) (by decide) rfl ?_
        refine zv_goto (pc := 126) 52 g dX4_delay_126 rfl ?_
        refine zv_sub [2, 3, 4, 5, 6, 7, 0] rfl ?_
        exact ih0 _ _ _ _ _ _ _ h
      · replace h := h.2 c22
        refine zv_iload (pc := 108) g dX4_delay_108 0 rfl ?_
        refine zv_istore (pc := 110) [(5, .int v21), (7, .int v21), (0, .ref (b 0)), (1, .int x1), (2, .int x2), (3, .int x3), (4, .int x4), (6, .int x6)] g dX4_delay_110 (by decide) rfl ?_
        refine zv_iload (pc := 112) g dX4_delay_112 7 rfl ?_
        refine zv_istore (pc := 114) [(4, .int x6), (5, .int v21), (7, .int v21), (0, .ref (b 0)), (1, .int x1), (2, .int x2), (3, .int x3), (6, .int x6)] g dX4_delay_114 (by decide) rfl ?_
        refine zv_aload_n (pc := 116) g dX4_delay_116 3 rfl rfl ?_
        refine zv_get (pc := 117) g fl_X4_19 0 rfl rfl dX4_delay_117 ?_
        refine zv_cVv (pc := 120) g cw_X4_158 (ctX0_goDay h) (by decide) (by decide) (pmX_ahead β b S20) (fun T => xW β b (x_ahead_s S20 T)) (fun T => pbX_ahead β b S20 T) (q := 0) rfl rfl rfl rfl rfl (Nat.le_of_ble_eq_true rfl) dX4_delay_120 (fun S25 h => ?_)
        refine zv_nmS (wf := (xW β b)) (fun S26 eS26 => ?_)
        replace h := h S26 eS26
        refine zv_iinc (pc := 123) 1 [(6, .int (x6 + 1)), (4, .int x6), (5, .int v21), (7, .int v21), (0, .ref (b 0)), (1, .int x1), (2, .int x2), (3, .int x3)] g dX4_delay_123 7 rfl (by decide) (by decide) rfl ?_
        refine zv_goto (pc := 126) 52 g dX4_delay_126 rfl ?_
        refine zv_sub [4, 5, 6, 7, 1, 2, 0] rfl ?_
        exact ih0 _ _ _ _ _ _ _ h
def wX4_delay (post : Int32 → (XSt) → Prop) (S : XSt) (x1 : Int32) (x2 : Int32) (x3 : Int32) : Prop := wX4_isDuster (fun v1 => (v1 = 0 → wX4_finding (fun v3 S4 => post v3 S4) S (-1000000001)) ∧ (¬ v1 = 0 → wX4_isRoom (fun v5 => (v5 = 0 → wX4_finding (fun v7 S8 => post v7 S8) S (-1000000001)) ∧ (¬ v5 = 0 → wX4_within (fun v9 => (¬ v9 = 0 → wX0_becomeAs (fun S11 => ∀ S12 : XSt, S12 = (x_live_s (x_ahead_s S S11.1) S11.2) → (∃ f27 : Nat, wX4_delay_52 post f27 S12 x1 x2 x3 0 (-1) 0)) (x_ahead S, x_live S)) ∧ (v9 = 0 → wX4_finding (fun v28 S29 => post v28 S29) S (-1000000001))) x3 1 20)) x2)) S x1
set_option maxRecDepth 100000 in
set_option maxHeartbeats 4000000 in
theorem ctX4_delay {β : zz_B} {b : Nat → Nat} {post : Int32 → (XSt) → Prop} {S : XSt} {x1 : Int32} {x2 : Int32} {x3 : Int32} (h : wX4_delay post S x1 x2 x3) : zCi β yX4_delay cX4_delay 8 (some .int) 5 116 [.ref (b 0), .int x1, .int x2, .int x3] (xW β b) S post := by
  unfold wX4_delay at h
  unfold zCi
  refine zC.of (by decide) (Nat.le_of_ble_eq_true rfl) ?_
  intro Γ g hR
  show zV β 8 Γ ((xW β b) S) 0 [(0, .ref (b 0)), (1, .int x1), (2, .int x2), (3, .int x3)] []
  refine zv_aload_n (pc := 0) g dX4_delay_0 0 rfl rfl ?_
  refine zv_iload_n (pc := 1) g dX4_delay_1 1 rfl rfl ?_
  refine zv_cVp (pc := 2) g cw_X4_99 (ctX4_isDuster h) (by decide) (by decide) zz_p0 (q := 0) rfl rfl rfl rfl rfl (Nat.le_of_ble_eq_true rfl) dX4_delay_2 (fun v1 h => ?_)
  refine zv_if_eq (pc := 5) 25 g dX4_delay_5 rfl (fun c2 => ?_) (fun c2 => ?_)
  · replace h := h.1 c2
    refine zv_aload_n (pc := 25) g dX4_delay_25 0 rfl rfl ?_
    refine zv_ldc (pc := 26) g wd_217 dX4_delay_26 ?_
    refine zv_cVi (pc := 28) g cw_X4_52 (ctX4_finding h) (by decide) (by decide) zz_p0 (xW β b) (fun T => zz_p1 T) (q := 0) rfl rfl rfl rfl rfl (Nat.le_of_ble_eq_true rfl) dX4_delay_28 (fun v3 S4 h => ?_)
    exact zv_iret (pc := 31) g hR dX4_delay_31 ⟨_, _, rfl, rfl, h⟩
  · replace h := h.2 c2
    refine zv_iload_n (pc := 8) g dX4_delay_8 2 rfl rfl ?_
    refine zv_cSp (pc := 9) g cw_X4_60 (ctX4_isRoom h) (by decide) (by decide) zz_pN rfl rfl (Nat.le_of_ble_eq_true rfl) dX4_delay_9 (fun v5 h => ?_)
    refine zv_if_eq (pc := 12) 25 g dX4_delay_12 rfl (fun c6 => ?_) (fun c6 => ?_)
    · replace h := h.1 c6
      refine zv_aload_n (pc := 25) g dX4_delay_25 0 rfl rfl ?_
      refine zv_ldc (pc := 26) g wd_217 dX4_delay_26 ?_
      refine zv_cVi (pc := 28) g cw_X4_52 (ctX4_finding h) (by decide) (by decide) zz_p0 (xW β b) (fun T => zz_p1 T) (q := 0) rfl rfl rfl rfl rfl (Nat.le_of_ble_eq_true rfl) dX4_delay_28 (fun v7 S8 h => ?_)
      exact zv_iret (pc := 31) g hR dX4_delay_31 ⟨_, _, rfl, rfl, h⟩
    · replace h := h.2 c6
      refine zv_iload_n (pc := 15) g dX4_delay_15 3 rfl rfl ?_
      refine zv_iconst (pc := 16) g dX4_delay_16 (v := 1) (by decide) ?_
      refine zv_bipush (pc := 17) g dX4_delay_17 (v := 20) (by decide) ?_
      refine zv_cSp (pc := 19) g cw_X4_47 (ctX4_within h) (by decide) (by decide) zz_pN rfl rfl (Nat.le_of_ble_eq_true rfl) dX4_delay_19 (fun v9 h => ?_)
      refine zv_if_ne (pc := 22) 32 g dX4_delay_22 rfl (fun c10 => ?_) (fun c10 => ?_)
      · replace h := h.1 c10
        refine zv_iconst (pc := 32) g dX4_delay_32 (v := 0) (by decide) ?_
        refine zv_istore (pc := 33) [(4, .int 0), (0, .ref (b 0)), (1, .int x1), (2, .int x2), (3, .int x3)] g dX4_delay_33 (by decide) rfl ?_
        refine zv_iconst (pc := 35) g dX4_delay_35 (v := (-1)) (by decide) ?_
        refine zv_istore (pc := 36) [(5, .int (-1)), (4, .int 0), (0, .ref (b 0)), (1, .int x1), (2, .int x2), (3, .int x3)] g dX4_delay_36 (by decide) rfl ?_
        refine zv_aload_n (pc := 38) g dX4_delay_38 2 rfl rfl ?_
        refine zv_get (pc := 39) g fl_X4_19 0 rfl rfl dX4_delay_39 ?_
        refine zv_aload_n (pc := 42) g dX4_delay_42 2 rfl rfl ?_
        refine zv_get (pc := 43) g fl_X4_12 0 rfl rfl dX4_delay_43 ?_
        refine zv_cVv (pc := 46) g cw_X4_154 (ctX0_becomeAs h) (by decide) (by decide) (pmX_ahead_live β b S) (fun T => xW β b (x_live_s (x_ahead_s S T.1) T.2)) (fun T => pbX_ahead_live β b S T) (q := 0) rfl rfl rfl rfl rfl (Nat.le_of_ble_eq_true rfl) dX4_delay_46 (fun S11 h => ?_)
        refine zv_nmS (wf := (xW β b)) (fun S12 eS12 => ?_)
        replace h := h S12 eS12
        refine zv_iconst (pc := 49) g dX4_delay_49 (v := 0) (by decide) ?_
        refine zv_istore (pc := 50) [(6, .int 0), (5, .int (-1)), (4, .int 0), (0, .ref (b 0)), (1, .int x1), (2, .int x2), (3, .int x3)] g dX4_delay_50 (by decide) rfl ?_
        obtain ⟨f27, h⟩ := h
        refine zv_sub [3, 4, 5, 6, 2, 1, 0] rfl ?_
        exact lX4_delay_52 g hR f27 _ _ _ _ _ _ _ h
      · replace h := h.2 c10
        refine zv_aload_n (pc := 25) g dX4_delay_25 0 rfl rfl ?_
        refine zv_ldc (pc := 26) g wd_217 dX4_delay_26 ?_
        refine zv_cVi (pc := 28) g cw_X4_52 (ctX4_finding h) (by decide) (by decide) zz_p0 (xW β b) (fun T => zz_p1 T) (q := 0) rfl rfl rfl rfl rfl (Nat.le_of_ble_eq_true rfl) dX4_delay_28 (fun v28 S29 h => ?_)
        exact zv_iret (pc := 31) g hR dX4_delay_31 ⟨_, _, rfl, rfl, h⟩
def wX4_bears_28 (post : Int32 → (XSt) → Prop) : Nat → (XSt) → (Int32) → (Int32) → (Int32) → Prop
  | 0, _, _, _, _ => False
  | f0 + 1, S, x1, x2, x3 => (x3 < 0 → wX4_finding (fun v5 S6 => post v5 S6) S (-1000000004)) ∧ (¬ x3 < 0 → wX0_becomeAs (fun S7 => ∀ S8 : XSt, S8 = (x_live_s (x_ahead_s S S7.1) S7.2) → (∀ S9 : XSt, S9 = (x_ahead_s S8 (h_fall_s (x_ahead S8) x3)) → (wX4_dustAheadAfter (fun v10 S11 => (x2 < v10 → wX4_bears_28 post f0 S11 x1 x2 (x3 + (-1))) ∧ (¬ x2 < v10 → post x3 S11)) S9 x1))) (x_ahead S, x_live S))
set_option maxRecDepth 100000 in
set_option maxHeartbeats 4000000 in
theorem lX4_bears_28 {β : zz_B} {Γ : zz_X} {b : Nat → Nat} {post : Int32 → (XSt) → Prop} (g : zG β 4 Γ cX4_bears RX4 6 137) (hR : zR β Γ (some .int) (fun r w => ∃ (v : Int32) (T : XSt), r = some (.int v) ∧ w = (xW β b) T ∧ post v T)) : ∀ (f0 : Nat) (S : XSt) (x1 : Int32) (x2 : Int32) (x3 : Int32) , wX4_bears_28 post f0 S x1 x2 x3 → zV β 4 Γ ((xW β b) S) 28 [(0, .ref (b 0)), (1, .int x1), (2, .int x2), (3, .int x3)] [] := by
  intro f0
  induction f0 with
  | zero => intro S x1 x2 x3 h; exact h.elim
  | succ f0 ih0 =>
    intro S x1 x2 x3 h
    rw [wX4_bears_28] at h
    refine zv_iload_n (pc := 28) g dX4_bears_28 3 rfl rfl ?_
    refine zv_if_lt (pc := 29) 68 g dX4_bears_29 rfl (fun c4 => ?_) (fun c4 => ?_)
    · replace h := h.1 c4
      refine zv_aload_n (pc := 68) g dX4_bears_68 0 rfl rfl ?_
      refine zv_ldc (pc := 69) g wd_391 dX4_bears_69 ?_
      refine zv_cVi (pc := 71) g cw_X4_52 (ctX4_finding h) (by decide) (by decide) zz_p0 (xW β b) (fun T => zz_p1 T) (q := 0) rfl rfl rfl rfl rfl (Nat.le_of_ble_eq_true rfl) dX4_bears_71 (fun v5 S6 h => ?_)
      exact zv_iret (pc := 74) g hR dX4_bears_74 ⟨_, _, rfl, rfl, h⟩
    · replace h := h.2 c4
      refine zv_aload_n (pc := 32) g dX4_bears_32 0 rfl rfl ?_
      refine zv_get (pc := 33) g fl_X4_19 0 rfl rfl dX4_bears_33 ?_
      refine zv_aload_n (pc := 36) g dX4_bears_36 0 rfl rfl ?_
      refine zv_get (pc := 37) g fl_X4_12 0 rfl rfl dX4_bears_37 ?_
      refine zv_cVv (pc := 40) g cw_X4_154 (ctX0_becomeAs h) (by decide) (by decide) (pmX_ahead_live β b S) (fun T => xW β b (x_live_s (x_ahead_s S T.1) T.2)) (fun T => pbX_ahead_live β b S T) (q := 0) rfl rfl rfl rfl rfl (Nat.le_of_ble_eq_true rfl) dX4_bears_40 (fun S7 h => ?_)
      refine zv_nmS (wf := (xW β b)) (fun S8 eS8 => ?_)
      replace h := h S8 eS8
      refine zv_aload_n (pc := 43) g dX4_bears_43 0 rfl rfl ?_
      refine zv_get (pc := 44) g fl_X4_19 0 rfl rfl dX4_bears_44 ?_
      refine zv_iload_n (pc := 47) g dX4_bears_47 3 rfl rfl ?_
      refine zv_put (pc := 48) ((xW β b) (x_ahead_s S8 (h_fall_s (x_ahead S8) x3))) g fp_X4_56 15 rfl rfl rfl (Nat.le_of_ble_eq_true rfl) rfl dX4_bears_48 ?_
      refine zv_nmS (wf := (xW β b)) (fun S9 eS9 => ?_)
      replace h := h S9 eS9
      refine zv_aload_n (pc := 51) g dX4_bears_51 0 rfl rfl ?_
      refine zv_iload_n (pc := 52) g dX4_bears_52 1 rfl rfl ?_
      refine zv_cVi (pc := 53) g cw_X4_172 (ctX4_dustAheadAfter h) (by decide) (by decide) zz_p0 (xW β b) (fun T => zz_p1 T) (q := 0) rfl rfl rfl rfl rfl (Nat.le_of_ble_eq_true rfl) dX4_bears_53 (fun v10 S11 h => ?_)
      refine zv_iload_n (pc := 56) g dX4_bears_56 2 rfl rfl ?_
      refine zv_icmp_gt (pc := 57) 62 g dX4_bears_57 rfl (fun c12 => ?_) (fun c12 => ?_)
      · replace h := h.1 c12
        refine zv_iinc (pc := 62) (-1) [(3, .int (x3 + (-1))), (0, .ref (b 0)), (1, .int x1), (2, .int x2)] g dX4_bears_62 3 rfl (by decide) (by decide) rfl ?_
        refine zv_goto (pc := 65) 28 g dX4_bears_65 rfl ?_
        refine zv_sub [1, 2, 3, 0] rfl ?_
        exact ih0 _ _ _ _ h
      · replace h := h.2 c12
        refine zv_iload_n (pc := 60) g dX4_bears_60 3 rfl rfl ?_
        exact zv_iret (pc := 61) g hR dX4_bears_61 ⟨_, _, rfl, rfl, h⟩
def wX4_bears (post : Int32 → (XSt) → Prop) (S : XSt) (x1 : Int32) : Prop := wX4_within (fun v1 => (¬ v1 = 0 → wX0_dustOfAll (fun v3 => ∃ f13 : Nat, wX4_bears_28 post f13 S x1 v3 20) (x_live S)) ∧ (v1 = 0 → wX4_finding (fun v14 S15 => post v14 S15) S (-1000000001))) x1 1 40
set_option maxRecDepth 100000 in
set_option maxHeartbeats 4000000 in
theorem ctX4_bears {β : zz_B} {b : Nat → Nat} {post : Int32 → (XSt) → Prop} {S : XSt} {x1 : Int32} (h : wX4_bears post S x1) : zCi β yX4_bears cX4_bears 4 (some .int) 6 137 [.ref (b 0), .int x1] (xW β b) S post := by
  unfold wX4_bears at h
  unfold zCi
  refine zC.of (by decide) (Nat.le_of_ble_eq_true rfl) ?_
  intro Γ g hR
  show zV β 4 Γ ((xW β b) S) 0 [(0, .ref (b 0)), (1, .int x1)] []
  refine zv_iload_n (pc := 0) g dX4_bears_0 1 rfl rfl ?_
  refine zv_iconst (pc := 1) g dX4_bears_1 (v := 1) (by decide) ?_
  refine zv_bipush (pc := 2) g dX4_bears_2 (v := 40) (by decide) ?_
  refine zv_cSp (pc := 4) g cw_X4_47 (ctX4_within h) (by decide) (by decide) zz_pN rfl rfl (Nat.le_of_ble_eq_true rfl) dX4_bears_4 (fun v1 h => ?_)
  refine zv_if_ne (pc := 7) 17 g dX4_bears_7 rfl (fun c2 => ?_) (fun c2 => ?_)
  · replace h := h.1 c2
    refine zv_aload_n (pc := 17) g dX4_bears_17 0 rfl rfl ?_
    refine zv_get (pc := 18) g fl_X4_12 0 rfl rfl dX4_bears_18 ?_
    refine zv_cVp (pc := 21) g cw_X4_76 (ctX0_dustOfAll h) (by decide) (by decide) (pmX_live β b S) (q := 0) rfl rfl rfl rfl rfl (Nat.le_of_ble_eq_true rfl) dX4_bears_21 (fun v3 h => ?_)
    refine zv_istore_n (pc := 24) 2 [(2, .int v3), (0, .ref (b 0)), (1, .int x1)] g dX4_bears_24 rfl (by decide) rfl ?_
    refine zv_bipush (pc := 25) g dX4_bears_25 (v := 20) (by decide) ?_
    refine zv_istore_n (pc := 27) 3 [(3, .int 20), (2, .int v3), (0, .ref (b 0)), (1, .int x1)] g dX4_bears_27 rfl (by decide) rfl ?_
    obtain ⟨f13, h⟩ := h
    refine zv_sub [2, 3, 1, 0] rfl ?_
    exact lX4_bears_28 g hR f13 _ _ _ _ h
  · replace h := h.2 c2
    refine zv_aload_n (pc := 10) g dX4_bears_10 0 rfl rfl ?_
    refine zv_ldc (pc := 11) g wd_217 dX4_bears_11 ?_
    refine zv_cVi (pc := 13) g cw_X4_52 (ctX4_finding h) (by decide) (by decide) zz_p0 (xW β b) (fun T => zz_p1 T) (q := 0) rfl rfl rfl rfl rfl (Nat.le_of_ble_eq_true rfl) dX4_bears_13 (fun v14 S15 h => ?_)
    exact zv_iret (pc := 16) g hR dX4_bears_16 ⟨_, _, rfl, rfl, h⟩
def wX4_fullest_29 (post : Int32 → (XSt) → Prop) : Nat → (XSt) → (Int32) → (Int32) → (Int32) → Prop
  | 0, _, _, _, _ => False
  | f0 + 1, S, x2, x3, x4 => ((8 : Int32) ≤ x4 → post x2 S) ∧ (¬ (8 : Int32) ≤ x4 → vp_in x4 8 ∧ (wJ6_bitCount (fun v5 => (v5 ≤ x3 → wX4_fullest_29 post f0 S x2 x3 (x4 + 1)) ∧ (¬ v5 ≤ x3 → wX4_fullest_29 post f0 S x4 v5 (x4 + 1))) (h_memories (x_ahead S) (Int32.toNatClampNeg x4))))
set_option maxRecDepth 100000 in
set_option maxHeartbeats 4000000 in
theorem lX4_fullest_29 {β : zz_B} {Γ : zz_X} {b : Nat → Nat} {post : Int32 → (XSt) → Prop} (g : zG β 6 Γ cX4_fullest RX4 6 137) (hR : zR β Γ (some .int) (fun r w => ∃ (v : Int32) (T : XSt), r = some (.int v) ∧ w = (xW β b) T ∧ post v T)) : ∀ (f0 : Nat) (S : XSt) (x2 : Int32) (x3 : Int32) (x4 : Int32) , wX4_fullest_29 post f0 S x2 x3 x4 → zV β 6 Γ ((xW β b) S) 29 [(0, .ref (b 0)), (2, .int x2), (3, .int x3), (4, .int x4)] [] := by
  intro f0
  induction f0 with
  | zero => intro S x2 x3 x4 h; exact h.elim
  | succ f0 ih0 =>
    intro S x2 x3 x4 h
    rw [wX4_fullest_29] at h
    refine zv_iload (pc := 29) g dX4_fullest_29 3 rfl ?_
    refine zv_bipush (pc := 31) g dX4_fullest_31 (v := 8) (by decide) ?_
    refine zv_icmp_ge (pc := 33) 69 g dX4_fullest_33 rfl (fun c4 => ?_) (fun c4 => ?_)
    · replace h := h.1 c4
      refine zv_iload_n (pc := 69) g dX4_fullest_69 1 rfl rfl ?_
      exact zv_iret (pc := 70) g hR dX4_fullest_70 ⟨_, _, rfl, rfl, h⟩
    · replace h := h.2 c4
      refine zv_aload_n (pc := 36) g dX4_fullest_36 0 rfl rfl ?_
      refine zv_get (pc := 37) g fl_X4_19 0 rfl rfl dX4_fullest_37 ?_
      refine zv_get (pc := 40) g fl_X4_67 15 rfl rfl dX4_fullest_40 ?_
      refine zv_iload (pc := 43) g dX4_fullest_43 3 rfl ?_
      obtain ⟨hi, h⟩ := h
      refine zv_iald (pc := 45) g 17 rfl hi dX4_fullest_45 ?_
      refine zv_cSp (pc := 46) g cw_X4_179 (ctJ6_bitCount h) (by decide) (by decide) zz_pN rfl rfl (Nat.le_of_ble_eq_true rfl) dX4_fullest_46 (fun v5 h => ?_)
      refine zv_istore (pc := 49) [(5, .int v5), (0, .ref (b 0)), (2, .int x2), (3, .int x3), (4, .int x4)] g dX4_fullest_49 (by decide) rfl ?_
      refine zv_iload (pc := 51) g dX4_fullest_51 0 rfl ?_
      refine zv_iload_n (pc := 53) g dX4_fullest_53 3 rfl rfl ?_
      refine zv_icmp_le (pc := 54) 63 g dX4_fullest_54 rfl (fun c6 => ?_) (fun c6 => ?_)
      · replace h := h.1 c6
        refine zv_iinc (pc := 63) 1 [(4, .int (x4 + 1)), (5, .int v5), (0, .ref (b 0)), (2, .int x2), (3, .int x3)] g dX4_fullest_63 4 rfl (by decide) (by decide) rfl ?_
        refine zv_goto (pc := 66) 29 g dX4_fullest_66 rfl ?_
        refine zv_sub [2, 3, 4, 0] rfl ?_
        exact ih0 _ _ _ _ h
      · replace h := h.2 c6
        refine zv_iload (pc := 57) g dX4_fullest_57 0 rfl ?_
        refine zv_istore_n (pc := 59) 3 [(3, .int v5), (5, .int v5), (0, .ref (b 0)), (2, .int x2), (4, .int x4)] g dX4_fullest_59 rfl (by decide) rfl ?_
        refine zv_iload (pc := 60) g dX4_fullest_60 4 rfl ?_
        refine zv_istore_n (pc := 62) 2 [(2, .int x4), (3, .int v5), (5, .int v5), (0, .ref (b 0)), (4, .int x4)] g dX4_fullest_62 rfl (by decide) rfl ?_
        refine zv_iinc (pc := 63) 1 [(4, .int (x4 + 1)), (2, .int x4), (3, .int v5), (5, .int v5), (0, .ref (b 0))] g dX4_fullest_63 4 rfl (by decide) (by decide) rfl ?_
        refine zv_goto (pc := 66) 29 g dX4_fullest_66 rfl ?_
        refine zv_sub [4, 1, 2, 0] rfl ?_
        exact ih0 _ _ _ _ h
def wX4_fullest (post : Int32 → (XSt) → Prop) (S : XSt) (x1 : Int32) : Prop := wX4_within (fun v1 => (¬ v1 = 0 → wX4_lookAhead (fun S3 => ∃ f7 : Nat, wX4_fullest_29 post f7 S3 0 (-1) 0) S x1) ∧ (v1 = 0 → wX4_finding (fun v8 S9 => post v8 S9) S (-1000000001))) x1 0 100
set_option maxRecDepth 100000 in
set_option maxHeartbeats 4000000 in
theorem ctX4_fullest {β : zz_B} {b : Nat → Nat} {post : Int32 → (XSt) → Prop} {S : XSt} {x1 : Int32} (h : wX4_fullest post S x1) : zCi β yX4_fullest cX4_fullest 6 (some .int) 6 137 [.ref (b 0), .int x1] (xW β b) S post := by
  unfold wX4_fullest at h
  unfold zCi
  refine zC.of (by decide) (Nat.le_of_ble_eq_true rfl) ?_
  intro Γ g hR
  show zV β 6 Γ ((xW β b) S) 0 [(0, .ref (b 0)), (1, .int x1)] []
  refine zv_iload_n (pc := 0) g dX4_fullest_0 1 rfl rfl ?_
  refine zv_iconst (pc := 1) g dX4_fullest_1 (v := 0) (by decide) ?_
  refine zv_bipush (pc := 2) g dX4_fullest_2 (v := 100) (by decide) ?_
  refine zv_cSp (pc := 4) g cw_X4_47 (ctX4_within h) (by decide) (by decide) zz_pN rfl rfl (Nat.le_of_ble_eq_true rfl) dX4_fullest_4 (fun v1 h => ?_)
  refine zv_if_ne (pc := 7) 17 g dX4_fullest_7 rfl (fun c2 => ?_) (fun c2 => ?_)
  · replace h := h.1 c2
    refine zv_aload_n (pc := 17) g dX4_fullest_17 0 rfl rfl ?_
    refine zv_iload_n (pc := 18) g dX4_fullest_18 1 rfl rfl ?_
    refine zv_cVv (pc := 19) g cw_X4_151 (ctX4_lookAhead h) (by decide) (by decide) zz_p0 (xW β b) (fun T => zz_p1 T) (q := 0) rfl rfl rfl rfl rfl (Nat.le_of_ble_eq_true rfl) dX4_fullest_19 (fun S3 h => ?_)
    refine zv_iconst (pc := 22) g dX4_fullest_22 (v := 0) (by decide) ?_
    refine zv_istore_n (pc := 23) 2 [(2, .int 0), (0, .ref (b 0)), (1, .int x1)] g dX4_fullest_23 rfl (by decide) rfl ?_
    refine zv_iconst (pc := 24) g dX4_fullest_24 (v := (-1)) (by decide) ?_
    refine zv_istore_n (pc := 25) 3 [(3, .int (-1)), (2, .int 0), (0, .ref (b 0)), (1, .int x1)] g dX4_fullest_25 rfl (by decide) rfl ?_
    refine zv_iconst (pc := 26) g dX4_fullest_26 (v := 0) (by decide) ?_
    refine zv_istore (pc := 27) [(4, .int 0), (3, .int (-1)), (2, .int 0), (0, .ref (b 0)), (1, .int x1)] g dX4_fullest_27 (by decide) rfl ?_
    obtain ⟨f7, h⟩ := h
    refine zv_sub [3, 2, 1, 0] rfl ?_
    exact lX4_fullest_29 g hR f7 _ _ _ _ h
  · replace h := h.2 c2
    refine zv_aload_n (pc := 10) g dX4_fullest_10 0 rfl rfl ?_
    refine zv_ldc (pc := 11) g wd_217 dX4_fullest_11 ?_
    refine zv_cVi (pc := 13) g cw_X4_52 (ctX4_finding h) (by decide) (by decide) zz_p0 (xW β b) (fun T => zz_p1 T) (q := 0) rfl rfl rfl rfl rfl (Nat.le_of_ble_eq_true rfl) dX4_fullest_13 (fun v8 S9 h => ?_)
    exact zv_iret (pc := 16) g hR dX4_fullest_16 ⟨_, _, rfl, rfl, h⟩
def wX4_feed_41 (post : Int32 → (XSt) → Prop) : Nat → (XSt) → (Int32) → (Int32) → Prop
  | 0, _, _, _ => False
  | f0 + 1, S, x1, x3 => (x3 < 0 → post (t_length (x_tape S)) S) ∧ (¬ x3 < 0 → wX3_put (fun S6 => ∀ S7 : XSt, S7 = (x_tape_s S S6) → (wX4_feed_41 post f0 S7 x1 (x3 + (-1)))) (x_tape S) ((x1 >>> ((8 * x3) &&& 31)) &&& 255))
set_option maxRecDepth 100000 in
set_option maxHeartbeats 4000000 in
theorem lX4_feed_41 {β : zz_B} {Γ : zz_X} {b : Nat → Nat} {post : Int32 → (XSt) → Prop} (g : zG β 4 Γ cX4_feed RX4 1 22) (hR : zR β Γ (some .int) (fun r w => ∃ (v : Int32) (T : XSt), r = some (.int v) ∧ w = (xW β b) T ∧ post v T)) : ∀ (f0 : Nat) (S : XSt) (x1 : Int32) (x3 : Int32) , wX4_feed_41 post f0 S x1 x3 → zV β 4 Γ ((xW β b) S) 41 [(0, .ref (b 0)), (1, .int x1), (3, .int x3)] [] := by
  intro f0
  induction f0 with
  | zero => intro S x1 x3 h; exact h.elim
  | succ f0 ih0 =>
    intro S x1 x3 h
    rw [wX4_feed_41] at h
    refine zv_iload_n (pc := 41) g dX4_feed_41 2 rfl rfl ?_
    refine zv_if_lt (pc := 42) 68 g dX4_feed_42 rfl (fun c5 => ?_) (fun c5 => ?_)
    · replace h := h.1 c5
      refine zv_aload_n (pc := 68) g dX4_feed_68 0 rfl rfl ?_
      refine zv_get (pc := 69) g fl_X4_28 0 rfl rfl dX4_feed_69 ?_
      refine zv_get (pc := 72) g fl_X4_182 29 rfl rfl dX4_feed_72 ?_
      exact zv_iret (pc := 75) g hR dX4_feed_75 ⟨_, _, rfl, rfl, h⟩
    · replace h := h.2 c5
      refine zv_aload_n (pc := 45) g dX4_feed_45 0 rfl rfl ?_
      refine zv_get (pc := 46) g fl_X4_28 0 rfl rfl dX4_feed_46 ?_
      refine zv_iload_n (pc := 49) g dX4_feed_49 1 rfl rfl ?_
      refine zv_bipush (pc := 50) g dX4_feed_50 (v := 8) (by decide) ?_
      refine zv_iload_n (pc := 52) g dX4_feed_52 2 rfl rfl ?_
      refine zv_imul (pc := 53) g dX4_feed_53 ?_
      refine zv_ishr (pc := 54) g dX4_feed_54 ?_
      refine zv_sipush (pc := 55) g dX4_feed_55 (v := 255) (by decide) ?_
      refine zv_iand (pc := 58) g dX4_feed_58 ?_
      refine zv_cVv (pc := 59) g cw_X4_185 (ctX3_put h) (by decide) (by decide) (pmX_tape β b S) (fun T => xW β b (x_tape_s S T)) (fun T => pbX_tape β b S T) (q := 0) rfl rfl rfl rfl rfl (Nat.le_of_ble_eq_true rfl) dX4_feed_59 (fun S6 h => ?_)
      refine zv_nmS (wf := (xW β b)) (fun S7 eS7 => ?_)
      replace h := h S7 eS7
      refine zv_iinc (pc := 62) (-1) [(3, .int (x3 + (-1))), (0, .ref (b 0)), (1, .int x1)] g dX4_feed_62 2 rfl (by decide) (by decide) rfl ?_
      refine zv_goto (pc := 65) 41 g dX4_feed_65 rfl ?_
      refine zv_sub [1, 2, 0] rfl ?_
      exact ih0 _ _ _ h
def wX4_feed (post : Int32 → (XSt) → Prop) (S : XSt) (x1 : Int32) (x2 : Int32) : Prop := wX4_within (fun v1 => (¬ v1 = 0 → ((t_length (x_tape S)) ≤ (120 - x2) → ∀ y4 : Int32, y4 = (x2 - 1) → (∃ f8 : Nat, wX4_feed_41 post f8 S x1 y4)) ∧ (¬ (t_length (x_tape S)) ≤ (120 - x2) → wX4_finding (fun v9 S10 => post v9 S10) S (-1000000002))) ∧ (v1 = 0 → wX4_finding (fun v11 S12 => post v11 S12) S (-1000000001))) x2 1 4
set_option maxRecDepth 100000 in
set_option maxHeartbeats 4000000 in
theorem ctX4_feed {β : zz_B} {b : Nat → Nat} {post : Int32 → (XSt) → Prop} {S : XSt} {x1 : Int32} {x2 : Int32} (h : wX4_feed post S x1 x2) : zCi β yX4_feed cX4_feed 4 (some .int) 1 22 [.ref (b 0), .int x1, .int x2] (xW β b) S post := by
  unfold wX4_feed at h
  unfold zCi
  refine zC.of (by decide) (Nat.le_of_ble_eq_true rfl) ?_
  intro Γ g hR
  show zV β 4 Γ ((xW β b) S) 0 [(0, .ref (b 0)), (1, .int x1), (2, .int x2)] []
  refine zv_iload_n (pc := 0) g dX4_feed_0 2 rfl rfl ?_
  refine zv_iconst (pc := 1) g dX4_feed_1 (v := 1) (by decide) ?_
  refine zv_iconst (pc := 2) g dX4_feed_2 (v := 4) (by decide) ?_
  refine zv_cSp (pc := 3) g cw_X4_47 (ctX4_within h) (by decide) (by decide) zz_pN rfl rfl (Nat.le_of_ble_eq_true rfl) dX4_feed_3 (fun v1 h => ?_)
  refine zv_if_ne (pc := 6) 16 g dX4_feed_6 rfl (fun c2 => ?_) (fun c2 => ?_)
  · replace h := h.1 c2
    refine zv_aload_n (pc := 16) g dX4_feed_16 0 rfl rfl ?_
    refine zv_get (pc := 17) g fl_X4_28 0 rfl rfl dX4_feed_17 ?_
    refine zv_get (pc := 20) g fl_X4_182 29 rfl rfl dX4_feed_20 ?_
    refine zv_bipush (pc := 23) g dX4_feed_23 (v := 120) (by decide) ?_
    refine zv_iload_n (pc := 25) g dX4_feed_25 2 rfl rfl ?_
    refine zv_isub (pc := 26) g dX4_feed_26 ?_
    refine zv_icmp_le (pc := 27) 37 g dX4_feed_27 rfl (fun c3 => ?_) (fun c3 => ?_)
    · replace h := h.1 c3
      refine zv_iload_n (pc := 37) g dX4_feed_37 2 rfl rfl ?_
      refine zv_iconst (pc := 38) g dX4_feed_38 (v := 1) (by decide) ?_
      refine zv_isub (pc := 39) g dX4_feed_39 ?_
      refine zv_topi (fun y4 ey4 => ?_)
      replace h := h y4 ey4
      refine zv_istore_n (pc := 40) 3 [(3, .int y4), (0, .ref (b 0)), (1, .int x1), (2, .int x2)] g dX4_feed_40 rfl (by decide) rfl ?_
      obtain ⟨f8, h⟩ := h
      refine zv_sub [1, 2, 0] rfl ?_
      exact lX4_feed_41 g hR f8 _ _ _ h
    · replace h := h.2 c3
      refine zv_aload_n (pc := 30) g dX4_feed_30 0 rfl rfl ?_
      refine zv_ldc (pc := 31) g wd_268 dX4_feed_31 ?_
      refine zv_cVi (pc := 33) g cw_X4_52 (ctX4_finding h) (by decide) (by decide) zz_p0 (xW β b) (fun T => zz_p1 T) (q := 0) rfl rfl rfl rfl rfl (Nat.le_of_ble_eq_true rfl) dX4_feed_33 (fun v9 S10 h => ?_)
      exact zv_iret (pc := 36) g hR dX4_feed_36 ⟨_, _, rfl, rfl, h⟩
  · replace h := h.2 c2
    refine zv_aload_n (pc := 9) g dX4_feed_9 0 rfl rfl ?_
    refine zv_ldc (pc := 10) g wd_217 dX4_feed_10 ?_
    refine zv_cVi (pc := 12) g cw_X4_52 (ctX4_finding h) (by decide) (by decide) zz_p0 (xW β b) (fun T => zz_p1 T) (q := 0) rfl rfl rfl rfl rfl (Nat.le_of_ble_eq_true rfl) dX4_feed_12 (fun v11 S12 h => ?_)
    exact zv_iret (pc := 15) g hR dX4_feed_15 ⟨_, _, rfl, rfl, h⟩
def wX4_wipe (post : Int32 → (XSt) → Prop) (S : XSt) : Prop := ∀ y1 : Int32, y1 = (t_length (x_tape S)) → (∀ S2 : XSt, S2 = (x_tape_s S (t_length_s (x_tape S) 0)) → (post y1 S2))
set_option maxRecDepth 100000 in
set_option maxHeartbeats 4000000 in
theorem ctX4_wipe {β : zz_B} {b : Nat → Nat} {post : Int32 → (XSt) → Prop} {S : XSt} (h : wX4_wipe post S) : zCi β yX4_wipe cX4_wipe 2 (some .int) 0 0 [.ref (b 0)] (xW β b) S post := by
  unfold wX4_wipe at h
  unfold zCi
  refine zC.of (by decide) (Nat.le_of_ble_eq_true rfl) ?_
  intro Γ g hR
  show zV β 2 Γ ((xW β b) S) 0 [(0, .ref (b 0))] []
  refine zv_aload_n (pc := 0) g dX4_wipe_0 0 rfl rfl ?_
  refine zv_get (pc := 1) g fl_X4_28 0 rfl rfl dX4_wipe_1 ?_
  refine zv_get (pc := 4) g fl_X4_182 29 rfl rfl dX4_wipe_4 ?_
  refine zv_topi (fun y1 ey1 => ?_)
  replace h := h y1 ey1
  refine zv_istore_n (pc := 7) 1 [(1, .int y1), (0, .ref (b 0))] g dX4_wipe_7 rfl (by decide) rfl ?_
  refine zv_aload_n (pc := 8) g dX4_wipe_8 1 rfl rfl ?_
  refine zv_get (pc := 9) g fl_X4_28 0 rfl rfl dX4_wipe_9 ?_
  refine zv_iconst (pc := 12) g dX4_wipe_12 (v := 0) (by decide) ?_
  refine zv_put (pc := 13) ((xW β b) (x_tape_s S (t_length_s (x_tape S) 0))) g fp_X4_182 29 rfl rfl rfl (Nat.le_of_ble_eq_true rfl) rfl dX4_wipe_13 ?_
  refine zv_nmS (wf := (xW β b)) (fun S2 eS2 => ?_)
  replace h := h S2 eS2
  refine zv_iload_n (pc := 16) g dX4_wipe_16 0 rfl rfl ?_
  exact zv_iret (pc := 17) g hR dX4_wipe_17 ⟨_, _, rfl, rfl, h⟩
def wX4_house (post : Int32 → (XSt) → Prop) (S : XSt) : Prop := wX0_becomeAs (fun S1 => ∀ S2 : XSt, S2 = (x_live_s (x_ahead_s S S1.1) S1.2) → (wX3_tellHouse (fun v3 S4 => ∀ S5 : XSt, S5 = (x_ahead_s (x_tape_s S2 S4.1) S4.2) → ((v3 < 0 → ∀ S7 : XSt, S7 = (x_tape_s S5 (t_length_s (x_tape S5) 0)) → (post v3 S7)) ∧ (¬ v3 < 0 → wX0_becomeAs (fun S8 => ∀ S9 : XSt, S9 = (x_ahead_s (x_live_s S5 S8.1) S8.2) → (∀ S10 : XSt, S10 = (x_tape_s S9 (t_length_s (x_tape S9) 0)) → (post v3 S10))) (x_live S5, x_ahead S5)))) (x_tape S2, x_ahead S2))) (x_ahead S, x_live S)
set_option maxRecDepth 100000 in
set_option maxHeartbeats 4000000 in
theorem ctX4_house {β : zz_B} {b : Nat → Nat} {post : Int32 → (XSt) → Prop} {S : XSt} (h : wX4_house post S) : zCi β yX4_house cX4_house 2 (some .int) 10 213 [.ref (b 0)] (xW β b) S post := by
  unfold wX4_house at h
  unfold zCi
  refine zC.of (by decide) (Nat.le_of_ble_eq_true rfl) ?_
  intro Γ g hR
  show zV β 2 Γ ((xW β b) S) 0 [(0, .ref (b 0))] []
  refine zv_aload_n (pc := 0) g dX4_house_0 0 rfl rfl ?_
  refine zv_get (pc := 1) g fl_X4_19 0 rfl rfl dX4_house_1 ?_
  refine zv_aload_n (pc := 4) g dX4_house_4 0 rfl rfl ?_
  refine zv_get (pc := 5) g fl_X4_12 0 rfl rfl dX4_house_5 ?_
  refine zv_cVv (pc := 8) g cw_X4_154 (ctX0_becomeAs h) (by decide) (by decide) (pmX_ahead_live β b S) (fun T => xW β b (x_live_s (x_ahead_s S T.1) T.2)) (fun T => pbX_ahead_live β b S T) (q := 0) rfl rfl rfl rfl rfl (Nat.le_of_ble_eq_true rfl) dX4_house_8 (fun S1 h => ?_)
  refine zv_nmS (wf := (xW β b)) (fun S2 eS2 => ?_)
  replace h := h S2 eS2
  refine zv_aload_n (pc := 11) g dX4_house_11 0 rfl rfl ?_
  refine zv_get (pc := 12) g fl_X4_28 0 rfl rfl dX4_house_12 ?_
  refine zv_aload_n (pc := 15) g dX4_house_15 0 rfl rfl ?_
  refine zv_get (pc := 16) g fl_X4_19 0 rfl rfl dX4_house_16 ?_
  refine zv_cVi (pc := 19) g cw_X4_188 (ctX3_tellHouse h) (by decide) (by decide) (pmX_tape_ahead β b S2) (fun T => xW β b (x_ahead_s (x_tape_s S2 T.1) T.2)) (fun T => pbX_tape_ahead β b S2 T) (q := 0) rfl rfl rfl rfl rfl (Nat.le_of_ble_eq_true rfl) dX4_house_19 (fun v3 S4 h => ?_)
  refine zv_nmS (wf := (xW β b)) (fun S5 eS5 => ?_)
  replace h := h S5 eS5
  refine zv_istore_n (pc := 22) 1 [(1, .int v3), (0, .ref (b 0))] g dX4_house_22 rfl (by decide) rfl ?_
  refine zv_iload_n (pc := 23) g dX4_house_23 0 rfl rfl ?_
  refine zv_if_lt (pc := 24) 38 g dX4_house_24 rfl (fun c6 => ?_) (fun c6 => ?_)
  · replace h := h.1 c6
    refine zv_aload_n (pc := 38) g dX4_house_38 1 rfl rfl ?_
    refine zv_get (pc := 39) g fl_X4_28 0 rfl rfl dX4_house_39 ?_
    refine zv_iconst (pc := 42) g dX4_house_42 (v := 0) (by decide) ?_
    refine zv_put (pc := 43) ((xW β b) (x_tape_s S5 (t_length_s (x_tape S5) 0))) g fp_X4_182 29 rfl rfl rfl (Nat.le_of_ble_eq_true rfl) rfl dX4_house_43 ?_
    refine zv_nmS (wf := (xW β b)) (fun S7 eS7 => ?_)
    replace h := h S7 eS7
    refine zv_iload_n (pc := 46) g dX4_house_46 0 rfl rfl ?_
    exact zv_iret (pc := 47) g hR dX4_house_47 ⟨_, _, rfl, rfl, h⟩
  · replace h := h.2 c6
    refine zv_aload_n (pc := 27) g dX4_house_27 1 rfl rfl ?_
    refine zv_get (pc := 28) g fl_X4_12 0 rfl rfl dX4_house_28 ?_
    refine zv_aload_n (pc := 31) g dX4_house_31 1 rfl rfl ?_
    refine zv_get (pc := 32) g fl_X4_19 0 rfl rfl dX4_house_32 ?_
    refine zv_cVv (pc := 35) g cw_X4_154 (ctX0_becomeAs h) (by decide) (by decide) (pmX_live_ahead β b S5) (fun T => xW β b (x_ahead_s (x_live_s S5 T.1) T.2)) (fun T => pbX_live_ahead β b S5 T) (q := 0) rfl rfl rfl rfl rfl (Nat.le_of_ble_eq_true rfl) dX4_house_35 (fun S8 h => ?_)
    refine zv_nmS (wf := (xW β b)) (fun S9 eS9 => ?_)
    replace h := h S9 eS9
    refine zv_aload_n (pc := 38) g dX4_house_38 1 rfl rfl ?_
    refine zv_get (pc := 39) g fl_X4_28 0 rfl rfl dX4_house_39 ?_
    refine zv_iconst (pc := 42) g dX4_house_42 (v := 0) (by decide) ?_
    refine zv_put (pc := 43) ((xW β b) (x_tape_s S9 (t_length_s (x_tape S9) 0))) g fp_X4_182 29 rfl rfl rfl (Nat.le_of_ble_eq_true rfl) rfl dX4_house_43 ?_
    refine zv_nmS (wf := (xW β b)) (fun S10 eS10 => ?_)
    replace h := h S10 eS10
    refine zv_iload_n (pc := 46) g dX4_house_46 0 rfl rfl ?_
    exact zv_iret (pc := 47) g hR dX4_house_47 ⟨_, _, rfl, rfl, h⟩
def xrf (b : Nat → Nat) (r : Option Nat) : Value := va_rf (r.map (fun k => b (32 + 2 * k)))
def wX4_sheetAt (post : Option Nat → Prop) (x1 : Int32) : Prop := wX4_within (fun v => (v = 0 → post none) ∧ (¬ v = 0 → vp_in x1 4 ∧ post (some x1.toNatClampNeg))) x1 0 3
theorem ctX4_sheetAt {β : zz_B} {b : Nat → Nat} {post : Option Nat → Prop} {S : XSt} {x1 : Int32} (h : wX4_sheetAt post x1) : zCr β yX4_sheetAt cX4_sheetAt 2 (some (.object "DusterRounds$Sheet")) 1 22 [.ref (b 0), .int x1] (xW β b S) (xrf b) post := by
  unfold wX4_sheetAt at h
  unfold zCr
  refine zC.of (by decide) (Nat.le_of_ble_eq_true rfl) ?_
  intro Γ g hR
  show zV β 2 Γ (xW β b S) 0 [(0, .ref (b 0)), (1, .int x1)] []
  refine zv_iload_n (pc := 0) g dX4_sheetAt_0 1 rfl rfl ?_
  refine zv_iconst (pc := 1) g dX4_sheetAt_1 (v := 0) (by decide) ?_
  refine zv_iconst (pc := 2) g dX4_sheetAt_2 (v := 3) (by decide) ?_
  refine zv_cSp (pc := 3) g cw_X4_47 (ctX4_within h) (by decide) (by decide) zz_pN rfl rfl (Nat.le_of_ble_eq_true rfl) dX4_sheetAt_3 (fun v h => ?_)
  refine zv_if_eq (pc := 6) 18 g dX4_sheetAt_6 rfl (fun c => ?_) (fun c => ?_)
  · replace h := h.1 c
    refine zv_null (pc := 18) g dX4_sheetAt_18 ?_
    exact zv_aret (pc := 19) g hR (Or.inl ⟨_, rfl⟩) (Or.inl rfl) dX4_sheetAt_19 ⟨none, rfl, rfl, h⟩
  · obtain ⟨hi, h⟩ := h.2 c
    refine zv_aload_n (pc := 9) g dX4_sheetAt_9 0 rfl rfl ?_
    refine zv_get (pc := 10) g fl_X4_34 0 rfl rfl dX4_sheetAt_10 ?_
    refine zv_iload_n (pc := 13) g dX4_sheetAt_13 1 rfl rfl ?_
    refine zv_aald (pc := 14) g 31 rfl hi dX4_sheetAt_14 ?_
    have hn : x1.toNatClampNeg < 4 := Nat.not_le.mp fun q => hi (Or.inr q)
    have e : va_rf (xsF b x1.toNatClampNeg) = xrf b (some x1.toNatClampNeg) := by simp [xsF, xrf, hn]
    rw [e]
    refine zv_goto (pc := 15) 19 g dX4_sheetAt_15 rfl ?_
    exact zv_aret (pc := 19) g hR (Or.inl ⟨_, rfl⟩) (Or.inr ⟨_, rfl⟩) dX4_sheetAt_19 ⟨some x1.toNatClampNeg, rfl, rfl, h⟩
def wX4_sheet_41 (post : Int32 → (XSt) → Prop) (k2 : Nat) (S : XSt) (x2 : Int32) (x3 : Int32) : Prop := (0 ≤ x3 → (x3 ≤ (40 : Int32) → wX2_begin (fun v8 S9 => ∀ S10 : XSt, S10 = (x_sh_s S (zupd (x_sh S) k2 S9)) → (post v8 S10)) (x_sh S k2) x2 x3) ∧ (¬ x3 ≤ (40 : Int32) → wX4_finding (fun v11 S12 => post v11 S12) S (-1000000001))) ∧ (¬ 0 ≤ x3 → wX4_finding (fun v13 S14 => post v13 S14) S (-1000000007))
set_option maxRecDepth 100000 in
set_option maxHeartbeats 4000000 in
theorem lX4_sheet_41 {β : zz_B} {Γ : zz_X} {b : Nat → Nat} {post : Int32 → (XSt) → Prop} {k2 : Nat} (g : zG β 5 Γ cX4_sheet RX4 2 43) (hR : zR β Γ (some .int) (fun r w => ∃ (v : Int32) (T : XSt), r = some (.int v) ∧ w = (xW β b) T ∧ post v T)) (h_k2 : k2 < 4) (S : XSt) (x2 : Int32) (x3 : Int32) (h : wX4_sheet_41 post k2 S x2 x3) : zV β 5 Γ ((xW β b) S) 41 [(0, .ref (b 0)), (2, .int x2), (3, .int x3), (4, .ref (b (32 + 2 * k2)))] [] := by
  unfold wX4_sheet_41 at h
  refine zv_iload_n (pc := 41) g dX4_sheet_41 2 rfl rfl ?_
  refine zv_if_ge (pc := 42) 52 g dX4_sheet_42 rfl (fun c6 => ?_) (fun c6 => ?_)
  · replace h := h.1 c6
    refine zv_iload_n (pc := 52) g dX4_sheet_52 2 rfl rfl ?_
    refine zv_bipush (pc := 53) g dX4_sheet_53 (v := 40) (by decide) ?_
    refine zv_icmp_le (pc := 55) 65 g dX4_sheet_55 rfl (fun c7 => ?_) (fun c7 => ?_)
    · replace h := h.1 c7
      refine zv_aload (pc := 65) g dX4_sheet_65 3 rfl ?_
      refine zv_iload_n (pc := 67) g dX4_sheet_67 1 rfl rfl ?_
      refine zv_iload_n (pc := 68) g dX4_sheet_68 2 rfl rfl ?_
      refine zv_cVi (pc := 69) g cw_X4_197 (ctX2_begin h) (by decide) (by decide) (pmX_sh β b S h_k2) (fun T => xW β b (x_sh_s S (zupd (x_sh S) k2 T))) (fun T => pbX_sh β b S h_k2 T) (q := 0) rfl rfl rfl rfl rfl (Nat.le_of_ble_eq_true rfl) dX4_sheet_69 (fun v8 S9 h => ?_)
      refine zv_nmS (wf := (xW β b)) (fun S10 eS10 => ?_)
      replace h := h S10 eS10
      exact zv_iret (pc := 72) g hR dX4_sheet_72 ⟨_, _, rfl, rfl, h⟩
    · replace h := h.2 c7
      refine zv_aload_n (pc := 58) g dX4_sheet_58 0 rfl rfl ?_
      refine zv_ldc (pc := 59) g wd_217 dX4_sheet_59 ?_
      refine zv_cVi (pc := 61) g cw_X4_52 (ctX4_finding h) (by decide) (by decide) zz_p0 (xW β b) (fun T => zz_p1 T) (q := 0) rfl rfl rfl rfl rfl (Nat.le_of_ble_eq_true rfl) dX4_sheet_61 (fun v11 S12 h => ?_)
      exact zv_iret (pc := 64) g hR dX4_sheet_64 ⟨_, _, rfl, rfl, h⟩
  · replace h := h.2 c6
    refine zv_aload_n (pc := 45) g dX4_sheet_45 0 rfl rfl ?_
    refine zv_ldc (pc := 46) g wd_597 dX4_sheet_46 ?_
    refine zv_cVi (pc := 48) g cw_X4_52 (ctX4_finding h) (by decide) (by decide) zz_p0 (xW β b) (fun T => zz_p1 T) (q := 0) rfl rfl rfl rfl rfl (Nat.le_of_ble_eq_true rfl) dX4_sheet_48 (fun v13 S14 h => ?_)
    exact zv_iret (pc := 51) g hR dX4_sheet_51 ⟨_, _, rfl, rfl, h⟩
def wX4_sheet (post : Int32 → (XSt) → Prop) (S : XSt) (x1 : Int32) (x2 : Int32) (x3 : Int32) : Prop := wX4_sheetAt (fun r1 => (r1 = none → wX4_finding (fun v3 S4 => post v3 S4) S (-1000000001)) ∧ (∀ k2 : Nat, r1 = some k2 → k2 < 4 ∧ ((x2 = 0 → wX4_sheet_41 post k2 S x2 x3) ∧ (¬ x2 = 0 → (x2 = (8 : Int32) → wX4_sheet_41 post k2 S x2 x3) ∧ (¬ x2 = (8 : Int32) → (x2 = (16 : Int32) → wX4_sheet_41 post k2 S x2 x3) ∧ (¬ x2 = (16 : Int32) → (x2 = (64 : Int32) → wX4_sheet_41 post k2 S x2 x3) ∧ (¬ x2 = (64 : Int32) → wX4_finding (fun v18 S19 => post v18 S19) S (-1000000001)))))))) x1
set_option maxRecDepth 100000 in
set_option maxHeartbeats 4000000 in
theorem ctX4_sheet {β : zz_B} {b : Nat → Nat} {post : Int32 → (XSt) → Prop} {S : XSt} {x1 : Int32} {x2 : Int32} {x3 : Int32} (h : wX4_sheet post S x1 x2 x3) : zCi β yX4_sheet cX4_sheet 5 (some .int) 2 43 [.ref (b 0), .int x1, .int x2, .int x3] (xW β b) S post := by
  unfold wX4_sheet at h
  unfold zCi
  refine zC.of (by decide) (Nat.le_of_ble_eq_true rfl) ?_
  intro Γ g hR
  show zV β 5 Γ ((xW β b) S) 0 [(0, .ref (b 0)), (1, .int x1), (2, .int x2), (3, .int x3)] []
  refine zv_aload_n (pc := 0) g dX4_sheet_0 0 rfl rfl ?_
  refine zv_iload_n (pc := 1) g dX4_sheet_1 1 rfl rfl ?_
  refine zv_cVr (pc := 2) g cw_X4_192 (ctX4_sheetAt h) (by decide) (by decide) zz_p0 (q := 0) rfl rfl rfl rfl rfl (Nat.le_of_ble_eq_true rfl) dX4_sheet_2 (fun r1 h => ?_)
  obtain _ | k2 := r1
  · replace h := h.1 rfl
    refine zv_astoreN (pc := 5) [(4, .null), (0, .ref (b 0)), (1, .int x1), (2, .int x2), (3, .int x3)] g dX4_sheet_5 (by decide) rfl ?_
    refine zv_aloadN (pc := 7) g dX4_sheet_7 0 rfl ?_
    refine zv_ifnullN (pc := 9) 34 g dX4_sheet_9 rfl ?_
    refine zv_aload_n (pc := 34) g dX4_sheet_34 1 rfl rfl ?_
    refine zv_ldc (pc := 35) g wd_217 dX4_sheet_35 ?_
    refine zv_cVi (pc := 37) g cw_X4_52 (ctX4_finding h) (by decide) (by decide) zz_p0 (xW β b) (fun T => zz_p1 T) (q := 0) rfl rfl rfl rfl rfl (Nat.le_of_ble_eq_true rfl) dX4_sheet_37 (fun v3 S4 h => ?_)
    exact zv_iret (pc := 40) g hR dX4_sheet_40 ⟨_, _, rfl, rfl, h⟩
  · obtain ⟨h_k2, h⟩ := h.2 k2 rfl
    refine zv_astore (pc := 5) [(4, .ref (b (32 + 2 * k2))), (0, .ref (b 0)), (1, .int x1), (2, .int x2), (3, .int x3)] g dX4_sheet_5 (by decide) rfl ?_
    refine zv_aload (pc := 7) g dX4_sheet_7 0 rfl ?_
    refine zv_ifnull (pc := 9) g dX4_sheet_9 ?_
    refine zv_iload_n (pc := 12) g dX4_sheet_12 3 rfl rfl ?_
    refine zv_if_eq (pc := 13) 41 g dX4_sheet_13 rfl (fun c5 => ?_) (fun c5 => ?_)
    · replace h := h.1 c5
      refine zv_sub [1, 3, 4, 0] rfl ?_
      exact lX4_sheet_41 g hR h_k2 _ _ _ h
    · replace h := h.2 c5
      refine zv_iload_n (pc := 16) g dX4_sheet_16 3 rfl rfl ?_
      refine zv_bipush (pc := 17) g dX4_sheet_17 (v := 8) (by decide) ?_
      refine zv_icmp_eq (pc := 19) 41 g dX4_sheet_19 rfl (fun c15 => ?_) (fun c15 => ?_)
      · replace h := h.1 c15
        refine zv_sub [1, 3, 4, 0] rfl ?_
        exact lX4_sheet_41 g hR h_k2 _ _ _ h
      · replace h := h.2 c15
        refine zv_iload_n (pc := 22) g dX4_sheet_22 3 rfl rfl ?_
        refine zv_bipush (pc := 23) g dX4_sheet_23 (v := 16) (by decide) ?_
        refine zv_icmp_eq (pc := 25) 41 g dX4_sheet_25 rfl (fun c16 => ?_) (fun c16 => ?_)
        · replace h := h.1 c16
          refine zv_sub [1, 3, 4, 0] rfl ?_
          exact lX4_sheet_41 g hR h_k2 _ _ _ h
        · replace h := h.2 c16
          refine zv_iload_n (pc := 28) g dX4_sheet_28 3 rfl rfl ?_
          refine zv_bipush (pc := 29) g dX4_sheet_29 (v := 64) (by decide) ?_
          refine zv_icmp_eq (pc := 31) 41 g dX4_sheet_31 rfl (fun c17 => ?_) (fun c17 => ?_)
          · replace h := h.1 c17
            refine zv_sub [1, 3, 4, 0] rfl ?_
            exact lX4_sheet_41 g hR h_k2 _ _ _ h
          · replace h := h.2 c17
            refine zv_aload_n (pc := 34) g dX4_sheet_34 1 rfl rfl ?_
            refine zv_ldc (pc := 35) g wd_217 dX4_sheet_35 ?_
            refine zv_cVi (pc := 37) g cw_X4_52 (ctX4_finding h) (by decide) (by decide) zz_p0 (xW β b) (fun T => zz_p1 T) (q := 0) rfl rfl rfl rfl rfl (Nat.le_of_ble_eq_true rfl) dX4_sheet_37 (fun v18 S19 h => ?_)
            exact zv_iret (pc := 40) g hR dX4_sheet_40 ⟨_, _, rfl, rfl, h⟩
def wX4_write (post : Int64 → (XSt) → Prop) (S : XSt) (x1 : Int32) (x2 : Int32) (x3 : Int64) : Prop := wX4_sheetAt (fun r1 => (r1 = none → wX4_finding (fun v3 S4 => post (Int32.toInt64 v3) S4) S (-1000000001)) ∧ (∀ k2 : Nat, r1 = some k2 → k2 < 4 ∧ (wX2_isMissing (fun v5 => (v5 = 0 → wX4_within (fun v7 => (¬ v7 = 0 → vp_in x2 40 ∧ (∀ y9 : Int64, y9 = (s_numbers (x_sh S k2) (Int32.toNatClampNeg x2)) → (wX2_put (fun S10 => ∀ S11 : XSt, S11 = (x_sh_s S (zupd (x_sh S) k2 S10)) → (post y9 S11)) (x_sh S k2) x2 x3))) ∧ (v7 = 0 → wX4_finding (fun v12 S13 => post (Int32.toInt64 v12) S13) S (-1000000001))) x2 0 ((s_size (x_sh S k2)) - 1)) ∧ (¬ v5 = 0 → wX4_finding (fun v14 S15 => post (Int32.toInt64 v14) S15) S (-1000000006))) (x_sh S k2)))) x1
set_option maxRecDepth 100000 in
set_option maxHeartbeats 4000000 in
theorem ctX4_write {β : zz_B} {b : Nat → Nat} {post : Int64 → (XSt) → Prop} {S : XSt} {x1 : Int32} {x2 : Int32} {x3 : Int64} (h : wX4_write post S x1 x2 x3) : zCl β yX4_write cX4_write 8 (some .long) 2 43 [.ref (b 0), .int x1, .int x2, .long x3] (xW β b) S post := by
  unfold wX4_write at h
  unfold zCl
  refine zC.of (by decide) (Nat.le_of_ble_eq_true rfl) ?_
  intro Γ g hR
  show zV β 8 Γ ((xW β b) S) 0 [(0, .ref (b 0)), (1, .int x1), (2, .int x2), (3, .long x3)] []
  refine zv_aload_n (pc := 0) g dX4_write_0 0 rfl rfl ?_
  refine zv_iload_n (pc := 1) g dX4_write_1 1 rfl rfl ?_
  refine zv_cVr (pc := 2) g cw_X4_192 (ctX4_sheetAt h) (by decide) (by decide) zz_p0 (q := 0) rfl rfl rfl rfl rfl (Nat.le_of_ble_eq_true rfl) dX4_write_2 (fun r1 h => ?_)
  obtain _ | k2 := r1
  · replace h := h.1 rfl
    refine zv_astoreN (pc := 5) [(5, .null), (0, .ref (b 0)), (1, .int x1), (2, .int x2), (3, .long x3)] g dX4_write_5 (by decide) rfl ?_
    refine zv_aloadN (pc := 7) g dX4_write_7 0 rfl ?_
    refine zv_ifnonnullN (pc := 9) g dX4_write_9 ?_
    refine zv_aload_n (pc := 12) g dX4_write_12 1 rfl rfl ?_
    refine zv_ldc (pc := 13) g wd_217 dX4_write_13 ?_
    refine zv_cVi (pc := 15) g cw_X4_52 (ctX4_finding h) (by decide) (by decide) zz_p0 (xW β b) (fun T => zz_p1 T) (q := 0) rfl rfl rfl rfl rfl (Nat.le_of_ble_eq_true rfl) dX4_write_15 (fun v3 S4 h => ?_)
    refine zv_i2l (pc := 18) g dX4_write_18 ?_
    exact zv_lret (pc := 19) g hR dX4_write_19 ⟨_, _, rfl, rfl, h⟩
  · obtain ⟨h_k2, h⟩ := h.2 k2 rfl
    refine zv_astore (pc := 5) [(5, .ref (b (32 + 2 * k2))), (0, .ref (b 0)), (1, .int x1), (2, .int x2), (3, .long x3)] g dX4_write_5 (by decide) rfl ?_
    refine zv_aload (pc := 7) g dX4_write_7 0 rfl ?_
    refine zv_ifnonnull (pc := 9) 20 g dX4_write_9 rfl ?_
    refine zv_aload (pc := 20) g dX4_write_20 0 rfl ?_
    refine zv_cVp (pc := 22) g cw_X4_200 (ctX2_isMissing h) (by decide) (by decide) (pmX_sh β b S h_k2) (q := 0) rfl rfl rfl rfl rfl (Nat.le_of_ble_eq_true rfl) dX4_write_22 (fun v5 h => ?_)
    refine zv_if_eq (pc := 25) 36 g dX4_write_25 rfl (fun c6 => ?_) (fun c6 => ?_)
    · replace h := h.1 c6
      refine zv_iload_n (pc := 36) g dX4_write_36 3 rfl rfl ?_
      refine zv_iconst (pc := 37) g dX4_write_37 (v := 0) (by decide) ?_
      refine zv_aload (pc := 38) g dX4_write_38 0 rfl ?_
      refine zv_get (pc := 40) g fl_X4_205 (32 + 2 * k2) (xsh_o _ _ _ h_k2) rfl dX4_write_40 ?_
      refine zv_iconst (pc := 43) g dX4_write_43 (v := 1) (by decide) ?_
      refine zv_isub (pc := 44) g dX4_write_44 ?_
      refine zv_cSp (pc := 45) g cw_X4_47 (ctX4_within h) (by decide) (by decide) zz_pN rfl rfl (Nat.le_of_ble_eq_true rfl) dX4_write_45 (fun v7 h => ?_)
      refine zv_if_ne (pc := 48) 59 g dX4_write_48 rfl (fun c8 => ?_) (fun c8 => ?_)
      · replace h := h.1 c8
        refine zv_aload (pc := 59) g dX4_write_59 0 rfl ?_
        refine zv_get (pc := 61) g fl_X4_208 (32 + 2 * k2) (xsh_o _ _ _ h_k2) rfl dX4_write_61 ?_
        refine zv_iload_n (pc := 64) g dX4_write_64 3 rfl rfl ?_
        obtain ⟨hi, h⟩ := h
        refine zv_lald (pc := 65) g (32 + 2 * k2 + 1) (xsh_a _ _ _ h_k2) hi dX4_write_65 ?_
        refine zv_topl (fun y9 ey9 => ?_)
        replace h := h y9 ey9
        refine zv_lstore (pc := 66) [(6, .long y9), (5, .ref (b (32 + 2 * k2))), (0, .ref (b 0)), (1, .int x1), (2, .int x2), (3, .long x3)] g dX4_write_66 (by decide) rfl ?_
        refine zv_aload (pc := 68) g dX4_write_68 1 rfl ?_
        refine zv_iload_n (pc := 70) g dX4_write_70 4 rfl rfl ?_
        refine zv_lload_n (pc := 71) g dX4_write_71 5 rfl rfl ?_
        refine zv_cVv (pc := 72) g cw_X4_212 (ctX2_put h) (by decide) (by decide) (pmX_sh β b S h_k2) (fun T => xW β b (x_sh_s S (zupd (x_sh S) k2 T))) (fun T => pbX_sh β b S h_k2 T) (q := 0) rfl rfl rfl rfl rfl (Nat.le_of_ble_eq_true rfl) dX4_write_72 (fun S10 h => ?_)
        refine zv_nmS (wf := (xW β b)) (fun S11 eS11 => ?_)
        replace h := h S11 eS11
        refine zv_lload (pc := 75) g dX4_write_75 0 rfl ?_
        exact zv_lret (pc := 77) g hR dX4_write_77 ⟨_, _, rfl, rfl, h⟩
      · replace h := h.2 c8
        refine zv_aload_n (pc := 51) g dX4_write_51 1 rfl rfl ?_
        refine zv_ldc (pc := 52) g wd_217 dX4_write_52 ?_
        refine zv_cVi (pc := 54) g cw_X4_52 (ctX4_finding h) (by decide) (by decide) zz_p0 (xW β b) (fun T => zz_p1 T) (q := 0) rfl rfl rfl rfl rfl (Nat.le_of_ble_eq_true rfl) dX4_write_54 (fun v12 S13 h => ?_)
        refine zv_i2l (pc := 57) g dX4_write_57 ?_
        exact zv_lret (pc := 58) g hR dX4_write_58 ⟨_, _, rfl, rfl, h⟩
    · replace h := h.2 c6
      refine zv_aload_n (pc := 28) g dX4_write_28 1 rfl rfl ?_
      refine zv_ldc (pc := 29) g wd_610 dX4_write_29 ?_
      refine zv_cVi (pc := 31) g cw_X4_52 (ctX4_finding h) (by decide) (by decide) zz_p0 (xW β b) (fun T => zz_p1 T) (q := 0) rfl rfl rfl rfl rfl (Nat.le_of_ble_eq_true rfl) dX4_write_31 (fun v14 S15 h => ?_)
      refine zv_i2l (pc := 34) g dX4_write_34 ?_
      exact zv_lret (pc := 35) g hR dX4_write_35 ⟨_, _, rfl, rfl, h⟩
def wX4_copy (post : Int32 → (XSt) → Prop) (S : XSt) (x1 : Int32) (x2 : Int32) (x3 : Int32) (x4 : Int32) (x5 : Int32) : Prop := wX4_sheetAt (fun r1 => (r1 = none → wX4_sheetAt (fun r3 => (r3 = none → wX4_finding (fun v5 S6 => post v5 S6) S (-1000000001)) ∧ (∀ k4 : Nat, r3 = some k4 → k4 < 4 ∧ (wX4_finding (fun v7 S8 => post v7 S8) S (-1000000001)))) x3) ∧ (∀ k2 : Nat, r1 = some k2 → k2 < 4 ∧ (wX4_sheetAt (fun r9 => (r9 = none → wX4_finding (fun v11 S12 => post v11 S12) S (-1000000001)) ∧ (∀ k10 : Nat, r9 = some k10 → k10 < 4 ∧ (wX2_isMissing (fun v13 => (¬ v13 = 0 → wX4_finding (fun v15 S16 => post v15 S16) S (-1000000006)) ∧ (v13 = 0 → wX2_isMissing (fun v17 => (v17 = 0 → ((s_bits (x_sh S k2)) = (s_bits (x_sh S k10)) → wX2_hasRun (fun v20 => (v20 = 0 → wX4_finding (fun v22 S23 => post v22 S23) S (-1000000001)) ∧ (¬ v20 = 0 → wX2_hasRun (fun v24 => (¬ v24 = 0 → (¬ x2 < 0 ∧ ¬ x4 < 0 ∧ ¬ x5 < 0 ∧ (Int32.toNatClampNeg x2) + (Int32.toNatClampNeg x5) ≤ 40 ∧ (Int32.toNatClampNeg x4) + (Int32.toNatClampNeg x5) ≤ 40) ∧ (∀ S26 : XSt, S26 = (x_sh_s S (zupd (x_sh S) k10 (s_numbers_s (x_sh S k10) (va_cpy (s_numbers (x_sh S k2)) (s_numbers (x_sh S k10)) (Int32.toNatClampNeg x2) (Int32.toNatClampNeg x4) (Int32.toNatClampNeg x5))))) → (post x5 S26))) ∧ (v24 = 0 → wX4_finding (fun v27 S28 => post v27 S28) S (-1000000001))) (x_sh S k10) x4 x5)) (x_sh S k2) x2 x5) ∧ (¬ (s_bits (x_sh S k2)) = (s_bits (x_sh S k10)) → wX4_finding (fun v29 S30 => post v29 S30) S (-1000000003))) ∧ (¬ v17 = 0 → wX4_finding (fun v31 S32 => post v31 S32) S (-1000000006))) (x_sh S k10))) (x_sh S k2)))) x3))) x1
set_option maxRecDepth 100000 in
set_option maxHeartbeats 4000000 in
theorem ctX4_copy {β : zz_B} {b : Nat → Nat} {post : Int32 → (XSt) → Prop} {S : XSt} {x1 : Int32} {x2 : Int32} {x3 : Int32} {x4 : Int32} {x5 : Int32} (h : wX4_copy post S x1 x2 x3 x4 x5) : zCi β yX4_copy cX4_copy 8 (some .int) 2 60 [.ref (b 0), .int x1, .int x2, .int x3, .int x4, .int x5] (xW β b) S post := by
  unfold wX4_copy at h
  unfold zCi
  refine zC.of (by decide) (Nat.le_of_ble_eq_true rfl) ?_
  intro Γ g hR
  show zV β 8 Γ ((xW β b) S) 0 [(0, .ref (b 0)), (1, .int x1), (2, .int x2), (3, .int x3), (4, .int x4), (5, .int x5)] []
  refine zv_aload_n (pc := 0) g dX4_copy_0 0 rfl rfl ?_
  refine zv_iload_n (pc := 1) g dX4_copy_1 1 rfl rfl ?_
  refine zv_cVr (pc := 2) g cw_X4_192 (ctX4_sheetAt h) (by decide) (by decide) zz_p0 (q := 0) rfl rfl rfl rfl rfl (Nat.le_of_ble_eq_true rfl) dX4_copy_2 (fun r1 h => ?_)
  obtain _ | k2 := r1
  · replace h := h.1 rfl
    refine zv_astoreN (pc := 5) [(6, .null), (0, .ref (b 0)), (1, .int x1), (2, .int x2), (3, .int x3), (4, .int x4), (5, .int x5)] g dX4_copy_5 (by decide) rfl ?_
    refine zv_aload_n (pc := 7) g dX4_copy_7 1 rfl rfl ?_
    refine zv_iload_n (pc := 8) g dX4_copy_8 4 rfl rfl ?_
    refine zv_cVr (pc := 9) g cw_X4_192 (ctX4_sheetAt h) (by decide) (by decide) zz_p0 (q := 0) rfl rfl rfl rfl rfl (Nat.le_of_ble_eq_true rfl) dX4_copy_9 (fun r3 h => ?_)
    obtain _ | k4 := r3
    · replace h := h.1 rfl
      refine zv_astoreN (pc := 12) [(7, .null), (6, .null), (0, .ref (b 0)), (1, .int x1), (2, .int x2), (3, .int x3), (4, .int x4), (5, .int x5)] g dX4_copy_12 (by decide) rfl ?_
      refine zv_aloadN (pc := 14) g dX4_copy_14 1 rfl ?_
      refine zv_ifnullN (pc := 16) 24 g dX4_copy_16 rfl ?_
      refine zv_aload_n (pc := 24) g dX4_copy_24 2 rfl rfl ?_
      refine zv_ldc (pc := 25) g wd_217 dX4_copy_25 ?_
      refine zv_cVi (pc := 27) g cw_X4_52 (ctX4_finding h) (by decide) (by decide) zz_p0 (xW β b) (fun T => zz_p1 T) (q := 0) rfl rfl rfl rfl rfl (Nat.le_of_ble_eq_true rfl) dX4_copy_27 (fun v5 S6 h => ?_)
      exact zv_iret (pc := 30) g hR dX4_copy_30 ⟨_, _, rfl, rfl, h⟩
    · obtain ⟨h_k4, h⟩ := h.2 k4 rfl
      refine zv_astore (pc := 12) [(7, .ref (b (32 + 2 * k4))), (6, .null), (0, .ref (b 0)), (1, .int x1), (2, .int x2), (3, .int x3), (4, .int x4), (5, .int x5)] g dX4_copy_12 (by decide) rfl ?_
      refine zv_aloadN (pc := 14) g dX4_copy_14 1 rfl ?_
      refine zv_ifnullN (pc := 16) 24 g dX4_copy_16 rfl ?_
      refine zv_aload_n (pc := 24) g dX4_copy_24 2 rfl rfl ?_
      refine zv_ldc (pc := 25) g wd_217 dX4_copy_25 ?_
      refine zv_cVi (pc := 27) g cw_X4_52 (ctX4_finding h) (by decide) (by decide) zz_p0 (xW β b) (fun T => zz_p1 T) (q := 0) rfl rfl rfl rfl rfl (Nat.le_of_ble_eq_true rfl) dX4_copy_27 (fun v7 S8 h => ?_)
      exact zv_iret (pc := 30) g hR dX4_copy_30 ⟨_, _, rfl, rfl, h⟩
  · obtain ⟨h_k2, h⟩ := h.2 k2 rfl
    refine zv_astore (pc := 5) [(6, .ref (b (32 + 2 * k2))), (0, .ref (b 0)), (1, .int x1), (2, .int x2), (3, .int x3), (4, .int x4), (5, .int x5)] g dX4_copy_5 (by decide) rfl ?_
    refine zv_aload_n (pc := 7) g dX4_copy_7 1 rfl rfl ?_
    refine zv_iload_n (pc := 8) g dX4_copy_8 4 rfl rfl ?_
    refine zv_cVr (pc := 9) g cw_X4_192 (ctX4_sheetAt h) (by decide) (by decide) zz_p0 (q := 0) rfl rfl rfl rfl rfl (Nat.le_of_ble_eq_true rfl) dX4_copy_9 (fun r9 h => ?_)
    obtain _ | k10 := r9
    · replace h := h.1 rfl
      refine zv_astoreN (pc := 12) [(7, .null), (6, .ref (b (32 + 2 * k2))), (0, .ref (b 0)), (1, .int x1), (2, .int x2), (3, .int x3), (4, .int x4), (5, .int x5)] g dX4_copy_12 (by decide) rfl ?_
      refine zv_aload (pc := 14) g dX4_copy_14 1 rfl ?_
      refine zv_ifnull (pc := 16) g dX4_copy_16 ?_
      refine zv_aloadN (pc := 19) g dX4_copy_19 0 rfl ?_
      refine zv_ifnonnullN (pc := 21) g dX4_copy_21 ?_
      refine zv_aload_n (pc := 24) g dX4_copy_24 2 rfl rfl ?_
      refine zv_ldc (pc := 25) g wd_217 dX4_copy_25 ?_
      refine zv_cVi (pc := 27) g cw_X4_52 (ctX4_finding h) (by decide) (by decide) zz_p0 (xW β b) (fun T => zz_p1 T) (q := 0) rfl rfl rfl rfl rfl (Nat.le_of_ble_eq_true rfl) dX4_copy_27 (fun v11 S12 h => ?_)
      exact zv_iret (pc := 30) g hR dX4_copy_30 ⟨_, _, rfl, rfl, h⟩
    · obtain ⟨h_k10, h⟩ := h.2 k10 rfl
      refine zv_astore (pc := 12) [(7, .ref (b (32 + 2 * k10))), (6, .ref (b (32 + 2 * k2))), (0, .ref (b 0)), (1, .int x1), (2, .int x2), (3, .int x3), (4, .int x4), (5, .int x5)] g dX4_copy_12 (by decide) rfl ?_
      refine zv_aload (pc := 14) g dX4_copy_14 1 rfl ?_
      refine zv_ifnull (pc := 16) g dX4_copy_16 ?_
      refine zv_aload (pc := 19) g dX4_copy_19 0 rfl ?_
      refine zv_ifnonnull (pc := 21) 31 g dX4_copy_21 rfl ?_
      refine zv_aload (pc := 31) g dX4_copy_31 1 rfl ?_
      refine zv_cVp (pc := 33) g cw_X4_200 (ctX2_isMissing h) (by decide) (by decide) (pmX_sh β b S h_k2) (q := 0) rfl rfl rfl rfl rfl (Nat.le_of_ble_eq_true rfl) dX4_copy_33 (fun v13 h => ?_)
      refine zv_if_ne (pc := 36) 47 g dX4_copy_36 rfl (fun c14 => ?_) (fun c14 => ?_)
      · replace h := h.1 c14
        refine zv_aload_n (pc := 47) g dX4_copy_47 2 rfl rfl ?_
        refine zv_ldc (pc := 48) g wd_610 dX4_copy_48 ?_
        refine zv_cVi (pc := 50) g cw_X4_52 (ctX4_finding h) (by decide) (by decide) zz_p0 (xW β b) (fun T => zz_p1 T) (q := 0) rfl rfl rfl rfl rfl (Nat.le_of_ble_eq_true rfl) dX4_copy_50 (fun v15 S16 h => ?_)
        exact zv_iret (pc := 53) g hR dX4_copy_53 ⟨_, _, rfl, rfl, h⟩
      · replace h := h.2 c14
        refine zv_aload (pc := 39) g dX4_copy_39 0 rfl ?_
        refine zv_cVp (pc := 41) g cw_X4_200 (ctX2_isMissing h) (by decide) (by decide) (pmX_sh β b S h_k10) (q := 0) rfl rfl rfl rfl rfl (Nat.le_of_ble_eq_true rfl) dX4_copy_41 (fun v17 h => ?_)
        refine zv_if_eq (pc := 44) 54 g dX4_copy_44 rfl (fun c18 => ?_) (fun c18 => ?_)
        · replace h := h.1 c18
          refine zv_aload (pc := 54) g dX4_copy_54 1 rfl ?_
          refine zv_get (pc := 56) g fl_X4_215 (32 + 2 * k2) (xsh_o _ _ _ h_k2) rfl dX4_copy_56 ?_
          refine zv_aload (pc := 59) g dX4_copy_59 0 rfl ?_
          refine zv_get (pc := 61) g fl_X4_215 (32 + 2 * k10) (xsh_o _ _ _ h_k10) rfl dX4_copy_61 ?_
          refine zv_icmp_eq (pc := 64) 74 g dX4_copy_64 rfl (fun c19 => ?_) (fun c19 => ?_)
          · replace h := h.1 c19
            refine zv_aload (pc := 74) g dX4_copy_74 1 rfl ?_
            refine zv_iload_n (pc := 76) g dX4_copy_76 4 rfl rfl ?_
            refine zv_iload (pc := 77) g dX4_copy_77 7 rfl ?_
            refine zv_cVp (pc := 79) g cw_X4_218 (ctX2_hasRun h) (by decide) (by decide) (pmX_sh β b S h_k2) (q := 0) rfl rfl rfl rfl rfl (Nat.le_of_ble_eq_true rfl) dX4_copy_79 (fun v20 h => ?_)
            refine zv_if_eq (pc := 82) 97 g dX4_copy_82 rfl (fun c21 => ?_) (fun c21 => ?_)
            · replace h := h.1 c21
              refine zv_aload_n (pc := 97) g dX4_copy_97 2 rfl rfl ?_
              refine zv_ldc (pc := 98) g wd_217 dX4_copy_98 ?_
              refine zv_cVi (pc := 100) g cw_X4_52 (ctX4_finding h) (by decide) (by decide) zz_p0 (xW β b) (fun T => zz_p1 T) (q := 0) rfl rfl rfl rfl rfl (Nat.le_of_ble_eq_true rfl) dX4_copy_100 (fun v22 S23 h => ?_)
              exact zv_iret (pc := 103) g hR dX4_copy_103 ⟨_, _, rfl, rfl, h⟩
            · replace h := h.2 c21
              refine zv_aload (pc := 85) g dX4_copy_85 0 rfl ?_
              refine zv_iload (pc := 87) g dX4_copy_87 6 rfl ?_
              refine zv_iload (pc := 89) g dX4_copy_89 7 rfl ?_
              refine zv_cVp (pc := 91) g cw_X4_218 (ctX2_hasRun h) (by decide) (by decide) (pmX_sh β b S h_k10) (q := 0) rfl rfl rfl rfl rfl (Nat.le_of_ble_eq_true rfl) dX4_copy_91 (fun v24 h => ?_)
              refine zv_if_ne (pc := 94) 104 g dX4_copy_94 rfl (fun c25 => ?_) (fun c25 => ?_)
              · replace h := h.1 c25
                refine zv_aload (pc := 104) g dX4_copy_104 1 rfl ?_
                refine zv_get (pc := 106) g fl_X4_208 (32 + 2 * k2) (xsh_o _ _ _ h_k2) rfl dX4_copy_106 ?_
                refine zv_iload_n (pc := 109) g dX4_copy_109 4 rfl rfl ?_
                refine zv_aload (pc := 110) g dX4_copy_110 0 rfl ?_
                refine zv_get (pc := 112) g fl_X4_208 (32 + 2 * k10) (xsh_o _ _ _ h_k10) rfl dX4_copy_112 ?_
                refine zv_iload (pc := 115) g dX4_copy_115 6 rfl ?_
                refine zv_iload (pc := 117) g dX4_copy_117 7 rfl ?_
                obtain ⟨⟨hc1, hc2, hc3, hc4, hc5⟩, h⟩ := h
                refine zv_copyl (pc := 119) ((xW β b) (x_sh_s S (zupd (x_sh S) k10 (s_numbers_s (x_sh S k10) (va_cpy (s_numbers (x_sh S k2)) (s_numbers (x_sh S k10)) (Int32.toNatClampNeg x2) (Int32.toNatClampNeg x4) (Int32.toNatClampNeg x5)))))) g ca_X4_221 (32 + 2 * k2 + 1) (32 + 2 * k10 + 1) (xsh_a _ _ _ h_k2) (xsh_a _ _ _ h_k10) hc1 hc2 hc3 hc4 hc5 (xsh_w _ _ _ h_k10 _) (by decide) (by decide) (Nat.le_of_ble_eq_true rfl) dX4_copy_119 ?_
                refine zv_nmS (wf := (xW β b)) (fun S26 eS26 => ?_)
                replace h := h S26 eS26
                refine zv_iload (pc := 122) g dX4_copy_122 7 rfl ?_
                exact zv_iret (pc := 124) g hR dX4_copy_124 ⟨_, _, rfl, rfl, h⟩
              · replace h := h.2 c25
                refine zv_aload_n (pc := 97) g dX4_copy_97 2 rfl rfl ?_
                refine zv_ldc (pc := 98) g wd_217 dX4_copy_98 ?_
                refine zv_cVi (pc := 100) g cw_X4_52 (ctX4_finding h) (by decide) (by decide) zz_p0 (xW β b) (fun T => zz_p1 T) (q := 0) rfl rfl rfl rfl rfl (Nat.le_of_ble_eq_true rfl) dX4_copy_100 (fun v27 S28 h => ?_)
                exact zv_iret (pc := 103) g hR dX4_copy_103 ⟨_, _, rfl, rfl, h⟩
          · replace h := h.2 c19
            refine zv_aload_n (pc := 67) g dX4_copy_67 2 rfl rfl ?_
            refine zv_ldc (pc := 68) g wd_318 dX4_copy_68 ?_
            refine zv_cVi (pc := 70) g cw_X4_52 (ctX4_finding h) (by decide) (by decide) zz_p0 (xW β b) (fun T => zz_p1 T) (q := 0) rfl rfl rfl rfl rfl (Nat.le_of_ble_eq_true rfl) dX4_copy_70 (fun v29 S30 h => ?_)
            exact zv_iret (pc := 73) g hR dX4_copy_73 ⟨_, _, rfl, rfl, h⟩
        · replace h := h.2 c18
          refine zv_aload_n (pc := 47) g dX4_copy_47 2 rfl rfl ?_
          refine zv_ldc (pc := 48) g wd_610 dX4_copy_48 ?_
          refine zv_cVi (pc := 50) g cw_X4_52 (ctX4_finding h) (by decide) (by decide) zz_p0 (xW β b) (fun T => zz_p1 T) (q := 0) rfl rfl rfl rfl rfl (Nat.le_of_ble_eq_true rfl) dX4_copy_50 (fun v31 S32 h => ?_)
          exact zv_iret (pc := 53) g hR dX4_copy_53 ⟨_, _, rfl, rfl, h⟩
def wX4_lays_36 (post : Int32 → (XSt) → Prop) (k2 : Nat) : Nat → (XSt) → (Int32) → (Int32) → Prop
  | 0, _, _, _ => False
  | f0 + 1, S, x3, x4 => ((8 : Int32) ≤ x4 → post x3 S) ∧ (¬ (8 : Int32) ≤ x4 → ((s_size (x_sh S k2)) ≤ x4 → post x3 S) ∧ (¬ (s_size (x_sh S k2)) ≤ x4 → vp_in x4 40 ∧ (∀ y9 : Int64, y9 = (s_numbers (x_sh S k2) (Int32.toNatClampNeg x4)) → (((lg_cmp y9 0) < 0 → wX4_lays_36 post k2 f0 S x3 (x4 + 1)) ∧ (¬ (lg_cmp y9 0) < 0 → (0 < (lg_cmp y9 1023) → wX4_lays_36 post k2 f0 S x3 (x4 + 1)) ∧ (¬ 0 < (lg_cmp y9 1023) → vp_in x4 8 ∧ (∀ S12 : XSt, S12 = (x_live_s S (h_memories_s (x_live S) (upd (h_memories (x_live S)) (Int32.toNatClampNeg x4) (Int64.toInt32 y9)))) → (wX4_lays_36 post k2 f0 S12 (x3 + 1) (x4 + 1)))))))))
set_option maxRecDepth 100000 in
set_option maxHeartbeats 4000000 in
theorem lX4_lays_36 {β : zz_B} {Γ : zz_X} {b : Nat → Nat} {post : Int32 → (XSt) → Prop} {k2 : Nat} (g : zG β 7 Γ cX4_lays RX4 2 43) (hR : zR β Γ (some .int) (fun r w => ∃ (v : Int32) (T : XSt), r = some (.int v) ∧ w = (xW β b) T ∧ post v T)) (h_k2 : k2 < 4) : ∀ (f0 : Nat) (S : XSt) (x3 : Int32) (x4 : Int32) , wX4_lays_36 post k2 f0 S x3 x4 → zV β 7 Γ ((xW β b) S) 36 [(0, .ref (b 0)), (2, .ref (b (32 + 2 * k2))), (3, .int x3), (4, .int x4)] [] := by
  intro f0
  induction f0 with
  | zero => intro S x3 x4 h; exact h.elim
  | succ f0 ih0 =>
    intro S x3 x4 h
    rw [wX4_lays_36] at h
    refine zv_iload (pc := 36) g dX4_lays_36 3 rfl ?_
    refine zv_bipush (pc := 38) g dX4_lays_38 (v := 8) (by decide) ?_
    refine zv_icmp_ge (pc := 40) 99 g dX4_lays_40 rfl (fun c7 => ?_) (fun c7 => ?_)
    · replace h := h.1 c7
      refine zv_iload_n (pc := 99) g dX4_lays_99 2 rfl rfl ?_
      exact zv_iret (pc := 100) g hR dX4_lays_100 ⟨_, _, rfl, rfl, h⟩
    · replace h := h.2 c7
      refine zv_iload (pc := 43) g dX4_lays_43 3 rfl ?_
      refine zv_aload_n (pc := 45) g dX4_lays_45 1 rfl rfl ?_
      refine zv_get (pc := 46) g fl_X4_205 (32 + 2 * k2) (xsh_o _ _ _ h_k2) rfl dX4_lays_46 ?_
      refine zv_icmp_ge (pc := 49) 99 g dX4_lays_49 rfl (fun c8 => ?_) (fun c8 => ?_)
      · replace h := h.1 c8
        refine zv_iload_n (pc := 99) g dX4_lays_99 2 rfl rfl ?_
        exact zv_iret (pc := 100) g hR dX4_lays_100 ⟨_, _, rfl, rfl, h⟩
      · replace h := h.2 c8
        refine zv_aload_n (pc := 52) g dX4_lays_52 1 rfl rfl ?_
        refine zv_get (pc := 53) g fl_X4_208 (32 + 2 * k2) (xsh_o _ _ _ h_k2) rfl dX4_lays_53 ?_
        refine zv_iload (pc := 56) g dX4_lays_56 3 rfl ?_
        obtain ⟨hi, h⟩ := h
        refine zv_lald (pc := 58) g (32 + 2 * k2 + 1) (xsh_a _ _ _ h_k2) hi dX4_lays_58 ?_
        refine zv_topl (fun y9 ey9 => ?_)
        replace h := h y9 ey9
        refine zv_lstore (pc := 59) [(5, .long y9), (0, .ref (b 0)), (2, .ref (b (32 + 2 * k2))), (3, .int x3), (4, .int x4)] g dX4_lays_59 (by decide) rfl ?_
        refine zv_lload (pc := 61) g dX4_lays_61 0 rfl ?_
        refine zv_lconst (pc := 63) g dX4_lays_63 (v := 0) (by decide) ?_
        refine zv_lcmp (pc := 64) g dX4_lays_64 ?_
        refine zv_if_lt (pc := 65) 93 g dX4_lays_65 rfl (fun c10 => ?_) (fun c10 => ?_)
        · replace h := h.1 c10
          refine zv_iinc (pc := 93) 1 [(4, .int (x4 + 1)), (5, .long y9), (0, .ref (b 0)), (2, .ref (b (32 + 2 * k2))), (3, .int x3)] g dX4_lays_93 4 rfl (by decide) (by decide) rfl ?_
          refine zv_goto (pc := 96) 36 g dX4_lays_96 rfl ?_
          refine zv_sub [2, 3, 4, 0] rfl ?_
          exact ih0 _ _ _ h
        · replace h := h.2 c10
          refine zv_lload (pc := 68) g dX4_lays_68 0 rfl ?_
          refine zv_ldc2 (pc := 70) g wd_628 dX4_lays_70 ?_
          refine zv_lcmp (pc := 73) g dX4_lays_73 ?_
          refine zv_if_gt (pc := 74) 93 g dX4_lays_74 rfl (fun c11 => ?_) (fun c11 => ?_)
          · replace h := h.1 c11
            refine zv_iinc (pc := 93) 1 [(4, .int (x4 + 1)), (5, .long y9), (0, .ref (b 0)), (2, .ref (b (32 + 2 * k2))), (3, .int x3)] g dX4_lays_93 4 rfl (by decide) (by decide) rfl ?_
            refine zv_goto (pc := 96) 36 g dX4_lays_96 rfl ?_
            refine zv_sub [2, 3, 4, 0] rfl ?_
            exact ih0 _ _ _ h
          · replace h := h.2 c11
            refine zv_aload_n (pc := 77) g dX4_lays_77 1 rfl rfl ?_
            refine zv_get (pc := 78) g fl_X4_12 0 rfl rfl dX4_lays_78 ?_
            refine zv_get (pc := 81) g fl_X4_67 1 rfl rfl dX4_lays_81 ?_
            refine zv_iload (pc := 84) g dX4_lays_84 4 rfl ?_
            refine zv_lload (pc := 86) g dX4_lays_86 0 rfl ?_
            refine zv_l2i (pc := 88) g dX4_lays_88 ?_
            obtain ⟨hi, h⟩ := h
            refine zv_ials (pc := 89) ((xW β b) (x_live_s S (h_memories_s (x_live S) (upd (h_memories (x_live S)) (Int32.toNatClampNeg x4) (Int64.toInt32 y9))))) g 3 rfl hi rfl dX4_lays_89 ?_
            refine zv_nmS (wf := (xW β b)) (fun S12 eS12 => ?_)
            replace h := h S12 eS12
            refine zv_iinc (pc := 90) 1 [(3, .int (x3 + 1)), (5, .long y9), (0, .ref (b 0)), (2, .ref (b (32 + 2 * k2))), (4, .int x4)] g dX4_lays_90 3 rfl (by decide) (by decide) rfl ?_
            refine zv_iinc (pc := 93) 1 [(4, .int (x4 + 1)), (3, .int (x3 + 1)), (5, .long y9), (0, .ref (b 0)), (2, .ref (b (32 + 2 * k2)))] g dX4_lays_93 4 rfl (by decide) (by decide) rfl ?_
            refine zv_goto (pc := 96) 36 g dX4_lays_96 rfl ?_
            refine zv_sub [3, 4, 1, 0] rfl ?_
            exact ih0 _ _ _ h
def wX4_lays (post : Int32 → (XSt) → Prop) (S : XSt) (x1 : Int32) : Prop := wX4_sheetAt (fun r1 => (r1 = none → wX4_finding (fun v3 S4 => post v3 S4) S (-1000000001)) ∧ (∀ k2 : Nat, r1 = some k2 → k2 < 4 ∧ (wX2_isMissing (fun v5 => (v5 = 0 → ∃ f13 : Nat, wX4_lays_36 post k2 f13 S 0 0) ∧ (¬ v5 = 0 → wX4_finding (fun v14 S15 => post v14 S15) S (-1000000006))) (x_sh S k2)))) x1
set_option maxRecDepth 100000 in
set_option maxHeartbeats 4000000 in
theorem ctX4_lays {β : zz_B} {b : Nat → Nat} {post : Int32 → (XSt) → Prop} {S : XSt} {x1 : Int32} (h : wX4_lays post S x1) : zCi β yX4_lays cX4_lays 7 (some .int) 2 43 [.ref (b 0), .int x1] (xW β b) S post := by
  unfold wX4_lays at h
  unfold zCi
  refine zC.of (by decide) (Nat.le_of_ble_eq_true rfl) ?_
  intro Γ g hR
  show zV β 7 Γ ((xW β b) S) 0 [(0, .ref (b 0)), (1, .int x1)] []
  refine zv_aload_n (pc := 0) g dX4_lays_0 0 rfl rfl ?_
  refine zv_iload_n (pc := 1) g dX4_lays_1 1 rfl rfl ?_
  refine zv_cVr (pc := 2) g cw_X4_192 (ctX4_sheetAt h) (by decide) (by decide) zz_p0 (q := 0) rfl rfl rfl rfl rfl (Nat.le_of_ble_eq_true rfl) dX4_lays_2 (fun r1 h => ?_)
  obtain _ | k2 := r1
  · replace h := h.1 rfl
    refine zv_astore_nN (pc := 5) 2 [(2, .null), (0, .ref (b 0)), (1, .int x1)] g dX4_lays_5 rfl (by decide) rfl ?_
    refine zv_aload_nN (pc := 6) g dX4_lays_6 0 rfl rfl ?_
    refine zv_ifnonnullN (pc := 7) g dX4_lays_7 ?_
    refine zv_aload_n (pc := 10) g dX4_lays_10 1 rfl rfl ?_
    refine zv_ldc (pc := 11) g wd_217 dX4_lays_11 ?_
    refine zv_cVi (pc := 13) g cw_X4_52 (ctX4_finding h) (by decide) (by decide) zz_p0 (xW β b) (fun T => zz_p1 T) (q := 0) rfl rfl rfl rfl rfl (Nat.le_of_ble_eq_true rfl) dX4_lays_13 (fun v3 S4 h => ?_)
    exact zv_iret (pc := 16) g hR dX4_lays_16 ⟨_, _, rfl, rfl, h⟩
  · obtain ⟨h_k2, h⟩ := h.2 k2 rfl
    refine zv_astore_n (pc := 5) 2 [(2, .ref (b (32 + 2 * k2))), (0, .ref (b 0)), (1, .int x1)] g dX4_lays_5 rfl (by decide) rfl ?_
    refine zv_aload_n (pc := 6) g dX4_lays_6 0 rfl rfl ?_
    refine zv_ifnonnull (pc := 7) 17 g dX4_lays_7 rfl ?_
    refine zv_aload_n (pc := 17) g dX4_lays_17 0 rfl rfl ?_
    refine zv_cVp (pc := 18) g cw_X4_200 (ctX2_isMissing h) (by decide) (by decide) (pmX_sh β b S h_k2) (q := 0) rfl rfl rfl rfl rfl (Nat.le_of_ble_eq_true rfl) dX4_lays_18 (fun v5 h => ?_)
    refine zv_if_eq (pc := 21) 31 g dX4_lays_21 rfl (fun c6 => ?_) (fun c6 => ?_)
    · replace h := h.1 c6
      refine zv_iconst (pc := 31) g dX4_lays_31 (v := 0) (by decide) ?_
      refine zv_istore_n (pc := 32) 3 [(3, .int 0), (2, .ref (b (32 + 2 * k2))), (0, .ref (b 0)), (1, .int x1)] g dX4_lays_32 rfl (by decide) rfl ?_
      refine zv_iconst (pc := 33) g dX4_lays_33 (v := 0) (by decide) ?_
      refine zv_istore (pc := 34) [(4, .int 0), (3, .int 0), (2, .ref (b (32 + 2 * k2))), (0, .ref (b 0)), (1, .int x1)] g dX4_lays_34 (by decide) rfl ?_
      obtain ⟨f13, h⟩ := h
      refine zv_sub [3, 2, 1, 0] rfl ?_
      exact lX4_lays_36 g hR h_k2 f13 _ _ _ h
    · replace h := h.2 c6
      refine zv_aload_n (pc := 24) g dX4_lays_24 1 rfl rfl ?_
      refine zv_ldc (pc := 25) g wd_610 dX4_lays_25 ?_
      refine zv_cVi (pc := 27) g cw_X4_52 (ctX4_finding h) (by decide) (by decide) zz_p0 (xW β b) (fun T => zz_p1 T) (q := 0) rfl rfl rfl rfl rfl (Nat.le_of_ble_eq_true rfl) dX4_lays_27 (fun v14 S15 h => ?_)
      exact zv_iret (pc := 30) g hR dX4_lays_30 ⟨_, _, rfl, rfl, h⟩
def wX4_book_59 (post : Int32 → (XSt) → Prop) (k2 : Nat) : Nat → (XSt) → (Int32) → (Int32) → Prop
  | 0, _, _, _ => False
  | f0 + 1, S, x2, x4 => ((s_size (x_sh S k2)) ≤ x4 → post (s_size (x_sh S k2)) S) ∧ (¬ (s_size (x_sh S k2)) ≤ x4 → vp_in x2 8 ∧ (wX2_put (fun S12 => ∀ S13 : XSt, S13 = (x_sh_s S (zupd (x_sh S) k2 S12)) → (wX0_goDay (fun S14 => ∀ S15 : XSt, S15 = (x_ahead_s S13 S14) → (wX4_book_59 post k2 f0 S15 x2 (x4 + 1))) (x_ahead S13))) (x_sh S k2) x4 (Int32.toInt64 (h_memories (x_ahead S) (Int32.toNatClampNeg x2)))))
set_option maxRecDepth 100000 in
set_option maxHeartbeats 4000000 in
theorem lX4_book_59 {β : zz_B} {Γ : zz_X} {b : Nat → Nat} {post : Int32 → (XSt) → Prop} {k2 : Nat} (g : zG β 5 Γ cX4_book RX4 4 94) (hR : zR β Γ (some .int) (fun r w => ∃ (v : Int32) (T : XSt), r = some (.int v) ∧ w = (xW β b) T ∧ post v T)) (h_k2 : k2 < 4) : ∀ (f0 : Nat) (S : XSt) (x2 : Int32) (x4 : Int32) , wX4_book_59 post k2 f0 S x2 x4 → zV β 5 Γ ((xW β b) S) 59 [(0, .ref (b 0)), (2, .int x2), (3, .ref (b (32 + 2 * k2))), (4, .int x4)] [] := by
  intro f0
  induction f0 with
  | zero => intro S x2 x4 h; exact h.elim
  | succ f0 ih0 =>
    intro S x2 x4 h
    rw [wX4_book_59] at h
    refine zv_iload (pc := 59) g dX4_book_59 3 rfl ?_
    refine zv_aload_n (pc := 61) g dX4_book_61 2 rfl rfl ?_
    refine zv_get (pc := 62) g fl_X4_205 (32 + 2 * k2) (xsh_o _ _ _ h_k2) rfl dX4_book_62 ?_
    refine zv_icmp_ge (pc := 65) 97 g dX4_book_65 rfl (fun c11 => ?_) (fun c11 => ?_)
    · replace h := h.1 c11
      refine zv_aload_n (pc := 97) g dX4_book_97 2 rfl rfl ?_
      refine zv_get (pc := 98) g fl_X4_205 (32 + 2 * k2) (xsh_o _ _ _ h_k2) rfl dX4_book_98 ?_
      exact zv_iret (pc := 101) g hR dX4_book_101 ⟨_, _, rfl, rfl, h⟩
    · replace h := h.2 c11
      refine zv_aload_n (pc := 68) g dX4_book_68 2 rfl rfl ?_
      refine zv_iload (pc := 69) g dX4_book_69 3 rfl ?_
      refine zv_aload_n (pc := 71) g dX4_book_71 0 rfl rfl ?_
      refine zv_get (pc := 72) g fl_X4_19 0 rfl rfl dX4_book_72 ?_
      refine zv_get (pc := 75) g fl_X4_67 15 rfl rfl dX4_book_75 ?_
      refine zv_iload_n (pc := 78) g dX4_book_78 1 rfl rfl ?_
      obtain ⟨hi, h⟩ := h
      refine zv_iald (pc := 79) g 17 rfl hi dX4_book_79 ?_
      refine zv_i2l (pc := 80) g dX4_book_80 ?_
      refine zv_cVv (pc := 81) g cw_X4_212 (ctX2_put h) (by decide) (by decide) (pmX_sh β b S h_k2) (fun T => xW β b (x_sh_s S (zupd (x_sh S) k2 T))) (fun T => pbX_sh β b S h_k2 T) (q := 0) rfl rfl rfl rfl rfl (Nat.le_of_ble_eq_true rfl) dX4_book_81 (fun S12 h => ?_)
      refine zv_nmS (wf := (xW β b)) (fun S13 eS13 => ?_)
      replace h := h S13 eS13
      refine zv_aload_n (pc := 84) g dX4_book_84 0 rfl rfl ?_
      refine zv_get (pc := 85) g fl_X4_19 0 rfl rfl dX4_book_85 ?_
      refine zv_cVv (pc := 88) g cw_X4_158 (ctX0_goDay h) (by decide) (by decide) (pmX_ahead β b S13) (fun T => xW β b (x_ahead_s S13 T)) (fun T => pbX_ahead β b S13 T) (q := 0) rfl rfl rfl rfl rfl (Nat.le_of_ble_eq_true rfl) dX4_book_88 (fun S14 h => ?_)
      refine zv_nmS (wf := (xW β b)) (fun S15 eS15 => ?_)
      replace h := h S15 eS15
      refine zv_iinc (pc := 91) 1 [(4, .int (x4 + 1)), (0, .ref (b 0)), (2, .int x2), (3, .ref (b (32 + 2 * k2)))] g dX4_book_91 3 rfl (by decide) (by decide) rfl ?_
      refine zv_goto (pc := 94) 59 g dX4_book_94 rfl ?_
      refine zv_sub [1, 2, 3, 0] rfl ?_
      exact ih0 _ _ _ h
def wX4_book (post : Int32 → (XSt) → Prop) (S : XSt) (x1 : Int32) (x2 : Int32) : Prop := wX4_sheetAt (fun r1 => (r1 = none → wX4_finding (fun v3 S4 => post v3 S4) S (-1000000001)) ∧ (∀ k2 : Nat, r1 = some k2 → k2 < 4 ∧ (wX2_isMissing (fun v5 => (v5 = 0 → wX4_isRoom (fun v7 => (¬ v7 = 0 → wX0_becomeAs (fun S9 => ∀ S10 : XSt, S10 = (x_live_s (x_ahead_s S S9.1) S9.2) → (∃ f16 : Nat, wX4_book_59 post k2 f16 S10 x2 0)) (x_ahead S, x_live S)) ∧ (v7 = 0 → wX4_finding (fun v17 S18 => post v17 S18) S (-1000000001))) x2) ∧ (¬ v5 = 0 → wX4_finding (fun v19 S20 => post v19 S20) S (-1000000006))) (x_sh S k2)))) x1
set_option maxRecDepth 100000 in
set_option maxHeartbeats 4000000 in
theorem ctX4_book {β : zz_B} {b : Nat → Nat} {post : Int32 → (XSt) → Prop} {S : XSt} {x1 : Int32} {x2 : Int32} (h : wX4_book post S x1 x2) : zCi β yX4_book cX4_book 5 (some .int) 4 94 [.ref (b 0), .int x1, .int x2] (xW β b) S post := by
  unfold wX4_book at h
  unfold zCi
  refine zC.of (by decide) (Nat.le_of_ble_eq_true rfl) ?_
  intro Γ g hR
  show zV β 5 Γ ((xW β b) S) 0 [(0, .ref (b 0)), (1, .int x1), (2, .int x2)] []
  refine zv_aload_n (pc := 0) g dX4_book_0 0 rfl rfl ?_
  refine zv_iload_n (pc := 1) g dX4_book_1 1 rfl rfl ?_
  refine zv_cVr (pc := 2) g cw_X4_192 (ctX4_sheetAt h) (by decide) (by decide) zz_p0 (q := 0) rfl rfl rfl rfl rfl (Nat.le_of_ble_eq_true rfl) dX4_book_2 (fun r1 h => ?_)
  obtain _ | k2 := r1
  · replace h := h.1 rfl
    refine zv_astore_nN (pc := 5) 3 [(3, .null), (0, .ref (b 0)), (1, .int x1), (2, .int x2)] g dX4_book_5 rfl (by decide) rfl ?_
    refine zv_aload_nN (pc := 6) g dX4_book_6 0 rfl rfl ?_
    refine zv_ifnonnullN (pc := 7) g dX4_book_7 ?_
    refine zv_aload_n (pc := 10) g dX4_book_10 1 rfl rfl ?_
    refine zv_ldc (pc := 11) g wd_217 dX4_book_11 ?_
    refine zv_cVi (pc := 13) g cw_X4_52 (ctX4_finding h) (by decide) (by decide) zz_p0 (xW β b) (fun T => zz_p1 T) (q := 0) rfl rfl rfl rfl rfl (Nat.le_of_ble_eq_true rfl) dX4_book_13 (fun v3 S4 h => ?_)
    exact zv_iret (pc := 16) g hR dX4_book_16 ⟨_, _, rfl, rfl, h⟩
  · obtain ⟨h_k2, h⟩ := h.2 k2 rfl
    refine zv_astore_n (pc := 5) 3 [(3, .ref (b (32 + 2 * k2))), (0, .ref (b 0)), (1, .int x1), (2, .int x2)] g dX4_book_5 rfl (by decide) rfl ?_
    refine zv_aload_n (pc := 6) g dX4_book_6 0 rfl rfl ?_
    refine zv_ifnonnull (pc := 7) 17 g dX4_book_7 rfl ?_
    refine zv_aload_n (pc := 17) g dX4_book_17 0 rfl rfl ?_
    refine zv_cVp (pc := 18) g cw_X4_200 (ctX2_isMissing h) (by decide) (by decide) (pmX_sh β b S h_k2) (q := 0) rfl rfl rfl rfl rfl (Nat.le_of_ble_eq_true rfl) dX4_book_18 (fun v5 h => ?_)
    refine zv_if_eq (pc := 21) 31 g dX4_book_21 rfl (fun c6 => ?_) (fun c6 => ?_)
    · replace h := h.1 c6
      refine zv_iload_n (pc := 31) g dX4_book_31 3 rfl rfl ?_
      refine zv_cSp (pc := 32) g cw_X4_60 (ctX4_isRoom h) (by decide) (by decide) zz_pN rfl rfl (Nat.le_of_ble_eq_true rfl) dX4_book_32 (fun v7 h => ?_)
      refine zv_if_ne (pc := 35) 45 g dX4_book_35 rfl (fun c8 => ?_) (fun c8 => ?_)
      · replace h := h.1 c8
        refine zv_aload_n (pc := 45) g dX4_book_45 1 rfl rfl ?_
        refine zv_get (pc := 46) g fl_X4_19 0 rfl rfl dX4_book_46 ?_
        refine zv_aload_n (pc := 49) g dX4_book_49 1 rfl rfl ?_
        refine zv_get (pc := 50) g fl_X4_12 0 rfl rfl dX4_book_50 ?_
        refine zv_cVv (pc := 53) g cw_X4_154 (ctX0_becomeAs h) (by decide) (by decide) (pmX_ahead_live β b S) (fun T => xW β b (x_live_s (x_ahead_s S T.1) T.2)) (fun T => pbX_ahead_live β b S T) (q := 0) rfl rfl rfl rfl rfl (Nat.le_of_ble_eq_true rfl) dX4_book_53 (fun S9 h => ?_)
        refine zv_nmS (wf := (xW β b)) (fun S10 eS10 => ?_)
        replace h := h S10 eS10
        refine zv_iconst (pc := 56) g dX4_book_56 (v := 0) (by decide) ?_
        refine zv_istore (pc := 57) [(4, .int 0), (3, .ref (b (32 + 2 * k2))), (0, .ref (b 0)), (1, .int x1), (2, .int x2)] g dX4_book_57 (by decide) rfl ?_
        obtain ⟨f16, h⟩ := h
        refine zv_sub [2, 4, 1, 0] rfl ?_
        exact lX4_book_59 g hR h_k2 f16 _ _ _ h
      · replace h := h.2 c8
        refine zv_aload_n (pc := 38) g dX4_book_38 1 rfl rfl ?_
        refine zv_ldc (pc := 39) g wd_217 dX4_book_39 ?_
        refine zv_cVi (pc := 41) g cw_X4_52 (ctX4_finding h) (by decide) (by decide) zz_p0 (xW β b) (fun T => zz_p1 T) (q := 0) rfl rfl rfl rfl rfl (Nat.le_of_ble_eq_true rfl) dX4_book_41 (fun v17 S18 h => ?_)
        exact zv_iret (pc := 44) g hR dX4_book_44 ⟨_, _, rfl, rfl, h⟩
    · replace h := h.2 c6
      refine zv_aload_n (pc := 24) g dX4_book_24 1 rfl rfl ?_
      refine zv_ldc (pc := 25) g wd_610 dX4_book_25 ?_
      refine zv_cVi (pc := 27) g cw_X4_52 (ctX4_finding h) (by decide) (by decide) zz_p0 (xW β b) (fun T => zz_p1 T) (q := 0) rfl rfl rfl rfl rfl (Nat.le_of_ble_eq_true rfl) dX4_book_27 (fun v19 S20 h => ?_)
      exact zv_iret (pc := 30) g hR dX4_book_30 ⟨_, _, rfl, rfl, h⟩
def wX4_aheadGoesAs_2 (post : Int32 → (XSt) → Prop) (k0 : Nat) : Nat → (XSt) → (Int32) → (Int32) → Prop
  | 0, _, _, _ => False
  | f0 + 1, S, x2, x3 => ((s_size (x_sh S k0)) ≤ x3 → post 1 S) ∧ (¬ (s_size (x_sh S k0)) ≤ x3 → vp_in x3 40 ∧ (vp_in x2 8 ∧ (((lg_cmp (s_numbers (x_sh S k0) (Int32.toNatClampNeg x3)) (Int32.toInt64 (h_memories (x_ahead S) (Int32.toNatClampNeg x2)))) = 0 → wX0_goDay (fun S3 => ∀ S4 : XSt, S4 = (x_ahead_s S S3) → (wX4_aheadGoesAs_2 post k0 f0 S4 x2 (x3 + 1))) (x_ahead S)) ∧ (¬ (lg_cmp (s_numbers (x_sh S k0) (Int32.toNatClampNeg x3)) (Int32.toInt64 (h_memories (x_ahead S) (Int32.toNatClampNeg x2)))) = 0 → post 0 S))))
set_option maxRecDepth 100000 in
set_option maxHeartbeats 4000000 in
theorem lX4_aheadGoesAs_2 {β : zz_B} {Γ : zz_X} {b : Nat → Nat} {post : Int32 → (XSt) → Prop} {k0 : Nat} (g : zG β 4 Γ cX4_aheadGoesAs RX4 4 94) (hR : zR β Γ (some .boolean) (fun r w => ∃ (v : Int32) (T : XSt), r = some (.int v) ∧ w = (xW β b) T ∧ post v T)) (h_k0 : k0 < 4) : ∀ (f0 : Nat) (S : XSt) (x2 : Int32) (x3 : Int32) , wX4_aheadGoesAs_2 post k0 f0 S x2 x3 → zV β 4 Γ ((xW β b) S) 2 [(0, .ref (b 0)), (1, .ref (b (32 + 2 * k0))), (2, .int x2), (3, .int x3)] [] := by
  intro f0
  induction f0 with
  | zero => intro S x2 x3 h; exact h.elim
  | succ f0 ih0 =>
    intro S x2 x3 h
    rw [wX4_aheadGoesAs_2] at h
    refine zv_iload_n (pc := 2) g dX4_aheadGoesAs_2 3 rfl rfl ?_
    refine zv_aload_n (pc := 3) g dX4_aheadGoesAs_3 1 rfl rfl ?_
    refine zv_get (pc := 4) g fl_X4_205 (32 + 2 * k0) (xsh_o _ _ _ h_k0) rfl dX4_aheadGoesAs_4 ?_
    refine zv_icmp_ge (pc := 7) 45 g dX4_aheadGoesAs_7 rfl (fun c1 => ?_) (fun c1 => ?_)
    · replace h := h.1 c1
      refine zv_iconst (pc := 45) g dX4_aheadGoesAs_45 (v := 1) (by decide) ?_
      exact zv_zret (pc := 46) g hR (by decide) dX4_aheadGoesAs_46 ⟨_, _, rfl, rfl, h⟩
    · replace h := h.2 c1
      refine zv_aload_n (pc := 10) g dX4_aheadGoesAs_10 1 rfl rfl ?_
      refine zv_get (pc := 11) g fl_X4_208 (32 + 2 * k0) (xsh_o _ _ _ h_k0) rfl dX4_aheadGoesAs_11 ?_
      refine zv_iload_n (pc := 14) g dX4_aheadGoesAs_14 3 rfl rfl ?_
      obtain ⟨hi, h⟩ := h
      refine zv_lald (pc := 15) g (32 + 2 * k0 + 1) (xsh_a _ _ _ h_k0) hi dX4_aheadGoesAs_15 ?_
      refine zv_aload_n (pc := 16) g dX4_aheadGoesAs_16 0 rfl rfl ?_
      refine zv_get (pc := 17) g fl_X4_19 0 rfl rfl dX4_aheadGoesAs_17 ?_
      refine zv_get (pc := 20) g fl_X4_67 15 rfl rfl dX4_aheadGoesAs_20 ?_
      refine zv_iload_n (pc := 23) g dX4_aheadGoesAs_23 2 rfl rfl ?_
      obtain ⟨hi, h⟩ := h
      refine zv_iald (pc := 24) g 17 rfl hi dX4_aheadGoesAs_24 ?_
      refine zv_i2l (pc := 25) g dX4_aheadGoesAs_25 ?_
      refine zv_lcmp (pc := 26) g dX4_aheadGoesAs_26 ?_
      refine zv_if_eq (pc := 27) 32 g dX4_aheadGoesAs_27 rfl (fun c2 => ?_) (fun c2 => ?_)
      · replace h := h.1 c2
        refine zv_aload_n (pc := 32) g dX4_aheadGoesAs_32 0 rfl rfl ?_
        refine zv_get (pc := 33) g fl_X4_19 0 rfl rfl dX4_aheadGoesAs_33 ?_
        refine zv_cVv (pc := 36) g cw_X4_158 (ctX0_goDay h) (by decide) (by decide) (pmX_ahead β b S) (fun T => xW β b (x_ahead_s S T)) (fun T => pbX_ahead β b S T) (q := 0) rfl rfl rfl rfl rfl (Nat.le_of_ble_eq_true rfl) dX4_aheadGoesAs_36 (fun S3 h => ?_)
        refine zv_nmS (wf := (xW β b)) (fun S4 eS4 => ?_)
        replace h := h S4 eS4
        refine zv_iinc (pc := 39) 1 [(3, .int (x3 + 1)), (0, .ref (b 0)), (1, .ref (b (32 + 2 * k0))), (2, .int x2)] g dX4_aheadGoesAs_39 3 rfl (by decide) (by decide) rfl ?_
        refine zv_goto (pc := 42) 2 g dX4_aheadGoesAs_42 rfl ?_
        refine zv_sub [1, 2, 3, 0] rfl ?_
        exact ih0 _ _ _ h
      · replace h := h.2 c2
        refine zv_iconst (pc := 30) g dX4_aheadGoesAs_30 (v := 0) (by decide) ?_
        exact zv_zret (pc := 31) g hR (by decide) dX4_aheadGoesAs_31 ⟨_, _, rfl, rfl, h⟩
def wX4_aheadGoesAs (post : Int32 → (XSt) → Prop) (S : XSt) (k0 : Nat) (x2 : Int32) : Prop := ∃ f5 : Nat, wX4_aheadGoesAs_2 post k0 f5 S x2 0
set_option maxRecDepth 100000 in
set_option maxHeartbeats 4000000 in
theorem ctX4_aheadGoesAs {β : zz_B} {b : Nat → Nat} {post : Int32 → (XSt) → Prop} {S : XSt} {k0 : Nat} {x2 : Int32} (h_k0 : k0 < 4) (h : wX4_aheadGoesAs post S k0 x2) : zCi β yX4_aheadGoesAs cX4_aheadGoesAs 4 (some .boolean) 4 94 [.ref (b 0), .ref (b (32 + 2 * k0)), .int x2] (xW β b) S post := by
  unfold wX4_aheadGoesAs at h
  unfold zCi
  refine zC.of (by decide) (Nat.le_of_ble_eq_true rfl) ?_
  intro Γ g hR
  show zV β 4 Γ ((xW β b) S) 0 [(0, .ref (b 0)), (1, .ref (b (32 + 2 * k0))), (2, .int x2)] []
  refine zv_iconst (pc := 0) g dX4_aheadGoesAs_0 (v := 0) (by decide) ?_
  refine zv_istore_n (pc := 1) 3 [(3, .int 0), (0, .ref (b 0)), (1, .ref (b (32 + 2 * k0))), (2, .int x2)] g dX4_aheadGoesAs_1 rfl (by decide) rfl ?_
  obtain ⟨f5, h⟩ := h
  refine zv_sub [1, 2, 3, 0] rfl ?_
  exact lX4_aheadGoesAs_2 g hR h_k0 f5 _ _ _ h
def wX4_read_71 (post : Int32 → (XSt) → Prop) (k62 : (XSt) → (Int32) → (Int32) → (Int32) → (Int32) → Prop) (k2 : Nat) : Nat → (XSt) → (Int32) → (Int32) → (Int32) → (Int32) → (Int32) → Prop
  | 0, _, _, _, _, _, _ => False
  | f0 + 1, S, x2, x3, x5, x6, x7 => ((8 : Int32) ≤ x7 → k62 S x2 x3 x5 (x6 + 1)) ∧ (¬ (8 : Int32) ≤ x7 → wX0_becomeAs (fun S15 => ∀ S16 : XSt, S16 = (x_live_s (x_ahead_s S S15.1) S15.2) → (vp_in x3 8 ∧ (∀ S17 : XSt, S17 = (x_ahead_s S16 (h_kinds_s (x_ahead S16) (upd (h_kinds (x_ahead S16)) (Int32.toNatClampNeg x3) x6))) → (vp_in x3 8 ∧ (∀ S18 : XSt, S18 = (x_ahead_s S17 (h_rounds_s (x_ahead S17) (upd (h_rounds (x_ahead S17)) (Int32.toNatClampNeg x3) x7))) → (wX4_aheadGoesAs (fun v19 S20 => (v19 = 0 → wX4_read_71 post k62 k2 f0 S20 x2 x3 x5 x6 (x7 + 1)) ∧ (¬ v19 = 0 → wX4_read_71 post k62 k2 f0 S20 x2 x3 (x5 + 1) x6 (x7 + 1))) S18 k2 x2)))))) (x_ahead S, x_live S))
set_option maxRecDepth 100000 in
set_option maxHeartbeats 4000000 in
theorem lX4_read_71 {β : zz_B} {Γ : zz_X} {b : Nat → Nat} {post : Int32 → (XSt) → Prop} {k2 : Nat} {k62 : (XSt) → (Int32) → (Int32) → (Int32) → (Int32) → Prop} (g : zG β 8 Γ cX4_read RX4 5 117) (hR : zR β Γ (some .int) (fun r w => ∃ (v : Int32) (T : XSt), r = some (.int v) ∧ w = (xW β b) T ∧ post v T)) (h_k2 : k2 < 4) (hk62 : ∀ (S : XSt) (x2 : Int32) (x3 : Int32) (x5 : Int32) (x6 : Int32), k62 S x2 x3 x5 x6 → zV β 8 Γ ((xW β b) S) 62 [(0, .ref (b 0)), (2, .int x2), (3, .int x3), (4, .ref (b (32 + 2 * k2))), (5, .int x5), (6, .int x6)] []) : ∀ (f0 : Nat) (S : XSt) (x2 : Int32) (x3 : Int32) (x5 : Int32) (x6 : Int32) (x7 : Int32) , wX4_read_71 post k62 k2 f0 S x2 x3 x5 x6 x7 → zV β 8 Γ ((xW β b) S) 71 [(0, .ref (b 0)), (2, .int x2), (3, .int x3), (4, .ref (b (32 + 2 * k2))), (5, .int x5), (6, .int x6), (7, .int x7)] [] := by
  intro f0
  induction f0 with
  | zero => intro S x2 x3 x5 x6 x7 h; exact h.elim
  | succ f0 ih0 =>
    intro S x2 x3 x5 x6 x7 h
    rw [wX4_read_71] at h
    refine zv_iload (pc := 71) g dX4_read_71 6 rfl ?_
    refine zv_bipush (pc := 73) g dX4_read_73 (v := 8) (by decide) ?_
    refine zv_icmp_ge (pc := 75) 130 g dX4_read_75 rfl (fun c14 => ?_) (fun c14 => ?_)
    · replace h := h.1 c14
      refine zv_iinc (pc := 130) 1 [(6, .int (x6 + 1)), (0, .ref (b 0)), (2, .int x2), (3, .int x3), (4, .ref (b (32 + 2 * k2))), (5, .int x5), (7, .int x7)] g dX4_read_130 5 rfl (by decide) (by decide) rfl ?_
      refine zv_goto (pc := 133) 62 g dX4_read_133 rfl ?_
      refine zv_sub [1, 2, 3, 4, 5, 0] rfl ?_
      exact hk62 _ _ _ _ _ h
    · replace h := h.2 c14
      refine zv_aload_n (pc := 78) g dX4_read_78 0 rfl rfl ?_
      refine zv_get (pc := 79) g fl_X4_19 0 rfl rfl dX4_read_79 ?_
      refine zv_aload_n (pc := 82) g dX4_read_82 0 rfl rfl ?_
      refine zv_get (pc := 83) g fl_X4_12 0 rfl rfl dX4_read_83 ?_
      refine zv_cVv (pc := 86) g cw_X4_154 (ctX0_becomeAs h) (by decide) (by decide) (pmX_ahead_live β b S) (fun T => xW β b (x_live_s (x_ahead_s S T.1) T.2)) (fun T => pbX_ahead_live β b S T) (q := 0) rfl rfl rfl rfl rfl (Nat.le_of_ble_eq_true rfl) dX4_read_86 (fun S15 h => ?_)
      refine zv_nmS (wf := (xW β b)) (fun S16 eS16 => ?_)
      replace h := h S16 eS16
      refine zv_aload_n (pc := 89) g dX4_read_89 0 rfl rfl ?_
      refine zv_get (pc := 90) g fl_X4_19 0 rfl rfl dX4_read_90 ?_
      refine zv_get (pc := 93) g fl_X4_102 15 rfl rfl dX4_read_93 ?_
      refine zv_iload_n (pc := 96) g dX4_read_96 2 rfl rfl ?_
      refine zv_iload (pc := 97) g dX4_read_97 5 rfl ?_
      obtain ⟨hi, h⟩ := h
      refine zv_ials (pc := 99) ((xW β b) (x_ahead_s S16 (h_kinds_s (x_ahead S16) (upd (h_kinds (x_ahead S16)) (Int32.toNatClampNeg x3) x6)))) g 18 rfl hi rfl dX4_read_99 ?_
      refine zv_nmS (wf := (xW β b)) (fun S17 eS17 => ?_)
      replace h := h S17 eS17
      refine zv_aload_n (pc := 100) g dX4_read_100 0 rfl rfl ?_
      refine zv_get (pc := 101) g fl_X4_19 0 rfl rfl dX4_read_101 ?_
      refine zv_get (pc := 104) g fl_X4_111 15 rfl rfl dX4_read_104 ?_
      refine zv_iload_n (pc := 107) g dX4_read_107 2 rfl rfl ?_
      refine zv_iload (pc := 108) g dX4_read_108 6 rfl ?_
      obtain ⟨hi, h⟩ := h
      refine zv_ials (pc := 110) ((xW β b) (x_ahead_s S17 (h_rounds_s (x_ahead S17) (upd (h_rounds (x_ahead S17)) (Int32.toNatClampNeg x3) x7)))) g 21 rfl hi rfl dX4_read_110 ?_
      refine zv_nmS (wf := (xW β b)) (fun S18 eS18 => ?_)
      replace h := h S18 eS18
      refine zv_aload_n (pc := 111) g dX4_read_111 0 rfl rfl ?_
      refine zv_aload (pc := 112) g dX4_read_112 3 rfl ?_
      refine zv_iload_n (pc := 114) g dX4_read_114 1 rfl rfl ?_
      refine zv_cVi (pc := 115) g cw_X4_229 (ctX4_aheadGoesAs h_k2 h) (by decide) (by decide) zz_p0 (xW β b) (fun T => zz_p1 T) (q := 0) rfl rfl rfl rfl rfl (Nat.le_of_ble_eq_true rfl) dX4_read_115 (fun v19 S20 h => ?_)
      refine zv_if_eq (pc := 118) 124 g dX4_read_118 rfl (fun c21 => ?_) (fun c21 => ?_)
      · replace h := h.1 c21
        refine zv_iinc (pc := 124) 1 [(7, .int (x7 + 1)), (0, .ref (b 0)), (2, .int x2), (3, .int x3), (4, .ref (b (32 + 2 * k2))), (5, .int x5), (6, .int x6)] g dX4_read_124 6 rfl (by decide) (by decide) rfl ?_
        refine zv_goto (pc := 127) 71 g dX4_read_127 rfl ?_
        refine zv_sub [1, 2, 3, 4, 5, 6, 0] rfl ?_
        exact ih0 _ _ _ _ _ _ h
      · replace h := h.2 c21
        refine zv_iinc (pc := 121) 1 [(5, .int (x5 + 1)), (0, .ref (b 0)), (2, .int x2), (3, .int x3), (4, .ref (b (32 + 2 * k2))), (6, .int x6), (7, .int x7)] g dX4_read_121 4 rfl (by decide) (by decide) rfl ?_
        refine zv_iinc (pc := 124) 1 [(7, .int (x7 + 1)), (5, .int (x5 + 1)), (0, .ref (b 0)), (2, .int x2), (3, .int x3), (4, .ref (b (32 + 2 * k2))), (6, .int x6)] g dX4_read_124 6 rfl (by decide) (by decide) rfl ?_
        refine zv_goto (pc := 127) 71 g dX4_read_127 rfl ?_
        refine zv_sub [2, 3, 4, 5, 1, 6, 0] rfl ?_
        exact ih0 _ _ _ _ _ _ h
def wX4_read_62 (post : Int32 → (XSt) → Prop) (k2 : Nat) : Nat → (XSt) → (Int32) → (Int32) → (Int32) → (Int32) → Prop
  | 0, _, _, _, _, _ => False
  | f0 + 1, S, x2, x3, x5, x6 => ((5 : Int32) < x6 → post x5 S) ∧ (¬ (5 : Int32) < x6 → ∃ f22 : Nat, wX4_read_71 post (wX4_read_62 post k2 f0) k2 f22 S x2 x3 x5 x6 0)
set_option maxRecDepth 100000 in
set_option maxHeartbeats 4000000 in
theorem lX4_read_62 {β : zz_B} {Γ : zz_X} {b : Nat → Nat} {post : Int32 → (XSt) → Prop} {k2 : Nat} (g : zG β 8 Γ cX4_read RX4 5 117) (hR : zR β Γ (some .int) (fun r w => ∃ (v : Int32) (T : XSt), r = some (.int v) ∧ w = (xW β b) T ∧ post v T)) (h_k2 : k2 < 4) : ∀ (f0 : Nat) (S : XSt) (x2 : Int32) (x3 : Int32) (x5 : Int32) (x6 : Int32) , wX4_read_62 post k2 f0 S x2 x3 x5 x6 → zV β 8 Γ ((xW β b) S) 62 [(0, .ref (b 0)), (2, .int x2), (3, .int x3), (4, .ref (b (32 + 2 * k2))), (5, .int x5), (6, .int x6)] [] := by
  intro f0
  induction f0 with
  | zero => intro S x2 x3 x5 x6 h; exact h.elim
  | succ f0 ih0 =>
    intro S x2 x3 x5 x6 h
    rw [wX4_read_62] at h
    refine zv_iload (pc := 62) g dX4_read_62 5 rfl ?_
    refine zv_iconst (pc := 64) g dX4_read_64 (v := 5) (by decide) ?_
    refine zv_icmp_gt (pc := 65) 136 g dX4_read_65 rfl (fun c13 => ?_) (fun c13 => ?_)
    · replace h := h.1 c13
      refine zv_iload (pc := 136) g dX4_read_136 4 rfl ?_
      exact zv_iret (pc := 138) g hR dX4_read_138 ⟨_, _, rfl, rfl, h⟩
    · replace h := h.2 c13
      refine zv_iconst (pc := 68) g dX4_read_68 (v := 0) (by decide) ?_
      refine zv_istore (pc := 69) [(7, .int 0), (0, .ref (b 0)), (2, .int x2), (3, .int x3), (4, .ref (b (32 + 2 * k2))), (5, .int x5), (6, .int x6)] g dX4_read_69 (by decide) rfl ?_
      obtain ⟨f22, h⟩ := h
      refine zv_sub [1, 2, 3, 4, 5, 6, 0] rfl ?_
      exact lX4_read_71 g hR h_k2 ih0 f22 _ _ _ _ _ _ h
def wX4_read (post : Int32 → (XSt) → Prop) (S : XSt) (x1 : Int32) (x2 : Int32) (x3 : Int32) : Prop := wX4_sheetAt (fun r1 => (r1 = none → wX4_finding (fun v3 S4 => post v3 S4) S (-1000000001)) ∧ (∀ k2 : Nat, r1 = some k2 → k2 < 4 ∧ (wX2_isMissing (fun v5 => (v5 = 0 → wX4_isRoom (fun v7 => (v7 = 0 → wX4_finding (fun v9 S10 => post v9 S10) S (-1000000001)) ∧ (¬ v7 = 0 → wX4_isDuster (fun v11 => (¬ v11 = 0 → ∃ f23 : Nat, wX4_read_62 post k2 f23 S x2 x3 0 0) ∧ (v11 = 0 → wX4_finding (fun v24 S25 => post v24 S25) S (-1000000001))) S x3)) x2) ∧ (¬ v5 = 0 → wX4_finding (fun v26 S27 => post v26 S27) S (-1000000006))) (x_sh S k2)))) x1
set_option maxRecDepth 100000 in
set_option maxHeartbeats 4000000 in
theorem ctX4_read {β : zz_B} {b : Nat → Nat} {post : Int32 → (XSt) → Prop} {S : XSt} {x1 : Int32} {x2 : Int32} {x3 : Int32} (h : wX4_read post S x1 x2 x3) : zCi β yX4_read cX4_read 8 (some .int) 5 117 [.ref (b 0), .int x1, .int x2, .int x3] (xW β b) S post := by
  unfold wX4_read at h
  unfold zCi
  refine zC.of (by decide) (Nat.le_of_ble_eq_true rfl) ?_
  intro Γ g hR
  show zV β 8 Γ ((xW β b) S) 0 [(0, .ref (b 0)), (1, .int x1), (2, .int x2), (3, .int x3)] []
  refine zv_aload_n (pc := 0) g dX4_read_0 0 rfl rfl ?_
  refine zv_iload_n (pc := 1) g dX4_read_1 1 rfl rfl ?_
  refine zv_cVr (pc := 2) g cw_X4_192 (ctX4_sheetAt h) (by decide) (by decide) zz_p0 (q := 0) rfl rfl rfl rfl rfl (Nat.le_of_ble_eq_true rfl) dX4_read_2 (fun r1 h => ?_)
  obtain _ | k2 := r1
  · replace h := h.1 rfl
    refine zv_astoreN (pc := 5) [(4, .null), (0, .ref (b 0)), (1, .int x1), (2, .int x2), (3, .int x3)] g dX4_read_5 (by decide) rfl ?_
    refine zv_aloadN (pc := 7) g dX4_read_7 0 rfl ?_
    refine zv_ifnonnullN (pc := 9) g dX4_read_9 ?_
    refine zv_aload_n (pc := 12) g dX4_read_12 1 rfl rfl ?_
    refine zv_ldc (pc := 13) g wd_217 dX4_read_13 ?_
    refine zv_cVi (pc := 15) g cw_X4_52 (ctX4_finding h) (by decide) (by decide) zz_p0 (xW β b) (fun T => zz_p1 T) (q := 0) rfl rfl rfl rfl rfl (Nat.le_of_ble_eq_true rfl) dX4_read_15 (fun v3 S4 h => ?_)
    exact zv_iret (pc := 18) g hR dX4_read_18 ⟨_, _, rfl, rfl, h⟩
  · obtain ⟨h_k2, h⟩ := h.2 k2 rfl
    refine zv_astore (pc := 5) [(4, .ref (b (32 + 2 * k2))), (0, .ref (b 0)), (1, .int x1), (2, .int x2), (3, .int x3)] g dX4_read_5 (by decide) rfl ?_
    refine zv_aload (pc := 7) g dX4_read_7 0 rfl ?_
    refine zv_ifnonnull (pc := 9) 19 g dX4_read_9 rfl ?_
    refine zv_aload (pc := 19) g dX4_read_19 0 rfl ?_
    refine zv_cVp (pc := 21) g cw_X4_200 (ctX2_isMissing h) (by decide) (by decide) (pmX_sh β b S h_k2) (q := 0) rfl rfl rfl rfl rfl (Nat.le_of_ble_eq_true rfl) dX4_read_21 (fun v5 h => ?_)
    refine zv_if_eq (pc := 24) 34 g dX4_read_24 rfl (fun c6 => ?_) (fun c6 => ?_)
    · replace h := h.1 c6
      refine zv_iload_n (pc := 34) g dX4_read_34 3 rfl rfl ?_
      refine zv_cSp (pc := 35) g cw_X4_60 (ctX4_isRoom h) (by decide) (by decide) zz_pN rfl rfl (Nat.le_of_ble_eq_true rfl) dX4_read_35 (fun v7 h => ?_)
      refine zv_if_eq (pc := 38) 49 g dX4_read_38 rfl (fun c8 => ?_) (fun c8 => ?_)
      · replace h := h.1 c8
        refine zv_aload_n (pc := 49) g dX4_read_49 1 rfl rfl ?_
        refine zv_ldc (pc := 50) g wd_217 dX4_read_50 ?_
        refine zv_cVi (pc := 52) g cw_X4_52 (ctX4_finding h) (by decide) (by decide) zz_p0 (xW β b) (fun T => zz_p1 T) (q := 0) rfl rfl rfl rfl rfl (Nat.le_of_ble_eq_true rfl) dX4_read_52 (fun v9 S10 h => ?_)
        exact zv_iret (pc := 55) g hR dX4_read_55 ⟨_, _, rfl, rfl, h⟩
      · replace h := h.2 c8
        refine zv_aload_n (pc := 41) g dX4_read_41 1 rfl rfl ?_
        refine zv_iload_n (pc := 42) g dX4_read_42 4 rfl rfl ?_
        refine zv_cVp (pc := 43) g cw_X4_99 (ctX4_isDuster h) (by decide) (by decide) zz_p0 (q := 0) rfl rfl rfl rfl rfl (Nat.le_of_ble_eq_true rfl) dX4_read_43 (fun v11 h => ?_)
        refine zv_if_ne (pc := 46) 56 g dX4_read_46 rfl (fun c12 => ?_) (fun c12 => ?_)
        · replace h := h.1 c12
          refine zv_iconst (pc := 56) g dX4_read_56 (v := 0) (by decide) ?_
          refine zv_istore (pc := 57) [(5, .int 0), (4, .ref (b (32 + 2 * k2))), (0, .ref (b 0)), (1, .int x1), (2, .int x2), (3, .int x3)] g dX4_read_57 (by decide) rfl ?_
          refine zv_iconst (pc := 59) g dX4_read_59 (v := 0) (by decide) ?_
          refine zv_istore (pc := 60) [(6, .int 0), (5, .int 0), (4, .ref (b (32 + 2 * k2))), (0, .ref (b 0)), (1, .int x1), (2, .int x2), (3, .int x3)] g dX4_read_60 (by decide) rfl ?_
          obtain ⟨f23, h⟩ := h
          refine zv_sub [3, 5, 6, 2, 1, 0] rfl ?_
          exact lX4_read_62 g hR h_k2 f23 _ _ _ _ _ h
        · replace h := h.2 c12
          refine zv_aload_n (pc := 49) g dX4_read_49 1 rfl rfl ?_
          refine zv_ldc (pc := 50) g wd_217 dX4_read_50 ?_
          refine zv_cVi (pc := 52) g cw_X4_52 (ctX4_finding h) (by decide) (by decide) zz_p0 (xW β b) (fun T => zz_p1 T) (q := 0) rfl rfl rfl rfl rfl (Nat.le_of_ble_eq_true rfl) dX4_read_52 (fun v24 S25 h => ?_)
          exact zv_iret (pc := 55) g hR dX4_read_55 ⟨_, _, rfl, rfl, h⟩
    · replace h := h.2 c6
      refine zv_aload_n (pc := 27) g dX4_read_27 1 rfl rfl ?_
      refine zv_ldc (pc := 28) g wd_610 dX4_read_28 ?_
      refine zv_cVi (pc := 30) g cw_X4_52 (ctX4_finding h) (by decide) (by decide) zz_p0 (xW β b) (fun T => zz_p1 T) (q := 0) rfl rfl rfl rfl rfl (Nat.le_of_ble_eq_true rfl) dX4_read_30 (fun v26 S27 h => ?_)
      exact zv_iret (pc := 33) g hR dX4_read_33 ⟨_, _, rfl, rfl, h⟩
def wX4_image (post : Int32 → (XSt) → Prop) (S : XSt) : Prop := wX0_becomeAs (fun S1 => ∀ S2 : XSt, S2 = (x_live_s (x_kept_s S S1.1) S1.2) → (∀ S3 : XSt, S3 = (x_kp_s S2 1) → (post 1 S3))) (x_kept S, x_live S)
set_option maxRecDepth 100000 in
set_option maxHeartbeats 4000000 in
theorem ctX4_image {β : zz_B} {b : Nat → Nat} {post : Int32 → (XSt) → Prop} {S : XSt} (h : wX4_image post S) : zCi β yX4_image cX4_image 1 (some .int) 2 81 [.ref (b 0)] (xW β b) S post := by
  unfold wX4_image at h
  unfold zCi
  refine zC.of (by decide) (Nat.le_of_ble_eq_true rfl) ?_
  intro Γ g hR
  show zV β 1 Γ ((xW β b) S) 0 [(0, .ref (b 0))] []
  refine zv_aload_n (pc := 0) g dX4_image_0 0 rfl rfl ?_
  refine zv_get (pc := 1) g fl_X4_16 0 rfl rfl dX4_image_1 ?_
  refine zv_aload_n (pc := 4) g dX4_image_4 0 rfl rfl ?_
  refine zv_get (pc := 5) g fl_X4_12 0 rfl rfl dX4_image_5 ?_
  refine zv_cVv (pc := 8) g cw_X4_154 (ctX0_becomeAs h) (by decide) (by decide) (pmX_kept_live β b S) (fun T => xW β b (x_live_s (x_kept_s S T.1) T.2)) (fun T => pbX_kept_live β b S T) (q := 0) rfl rfl rfl rfl rfl (Nat.le_of_ble_eq_true rfl) dX4_image_8 (fun S1 h => ?_)
  refine zv_nmS (wf := (xW β b)) (fun S2 eS2 => ?_)
  replace h := h S2 eS2
  refine zv_aload_n (pc := 11) g dX4_image_11 0 rfl rfl ?_
  refine zv_iconst (pc := 12) g dX4_image_12 (v := 1) (by decide) ?_
  refine zv_put (pc := 13) ((xW β b) (x_kp_s S2 1)) g fp_X4_42 0 rfl (by decide) (by decide) (Nat.le_of_ble_eq_true rfl) rfl dX4_image_13 ?_
  refine zv_nmS (wf := (xW β b)) (fun S3 eS3 => ?_)
  replace h := h S3 eS3
  refine zv_iconst (pc := 16) g dX4_image_16 (v := 1) (by decide) ?_
  exact zv_iret (pc := 17) g hR dX4_image_17 ⟨_, _, rfl, rfl, h⟩
def wX4_undo (post : Int32 → (XSt) → Prop) (S : XSt) : Prop := (¬ (x_kp S) = 0 → wX0_becomeAs (fun S2 => ∀ S3 : XSt, S3 = (x_kept_s (x_live_s S S2.1) S2.2) → (post (h_dusters (x_live S3)) S3)) (x_live S, x_kept S)) ∧ ((x_kp S) = 0 → wX4_finding (fun v4 S5 => post v4 S5) S (-1000000004))
set_option maxRecDepth 100000 in
set_option maxHeartbeats 4000000 in
theorem ctX4_undo {β : zz_B} {b : Nat → Nat} {post : Int32 → (XSt) → Prop} {S : XSt} (h : wX4_undo post S) : zCi β yX4_undo cX4_undo 1 (some .int) 2 81 [.ref (b 0)] (xW β b) S post := by
  unfold wX4_undo at h
  unfold zCi
  refine zC.of (by decide) (Nat.le_of_ble_eq_true rfl) ?_
  intro Γ g hR
  show zV β 1 Γ ((xW β b) S) 0 [(0, .ref (b 0))] []
  refine zv_aload_n (pc := 0) g dX4_undo_0 0 rfl rfl ?_
  refine zv_get (pc := 1) g fl_X4_42 0 rfl rfl dX4_undo_1 ?_
  refine zv_if_ne (pc := 4) 14 g dX4_undo_4 rfl (fun c1 => ?_) (fun c1 => ?_)
  · replace h := h.1 c1
    refine zv_aload_n (pc := 14) g dX4_undo_14 0 rfl rfl ?_
    refine zv_get (pc := 15) g fl_X4_12 0 rfl rfl dX4_undo_15 ?_
    refine zv_aload_n (pc := 18) g dX4_undo_18 0 rfl rfl ?_
    refine zv_get (pc := 19) g fl_X4_16 0 rfl rfl dX4_undo_19 ?_
    refine zv_cVv (pc := 22) g cw_X4_154 (ctX0_becomeAs h) (by decide) (by decide) (pmX_live_kept β b S) (fun T => xW β b (x_kept_s (x_live_s S T.1) T.2)) (fun T => pbX_live_kept β b S T) (q := 0) rfl rfl rfl rfl rfl (Nat.le_of_ble_eq_true rfl) dX4_undo_22 (fun S2 h => ?_)
    refine zv_nmS (wf := (xW β b)) (fun S3 eS3 => ?_)
    replace h := h S3 eS3
    refine zv_aload_n (pc := 25) g dX4_undo_25 0 rfl rfl ?_
    refine zv_get (pc := 26) g fl_X4_12 0 rfl rfl dX4_undo_26 ?_
    refine zv_get (pc := 29) g fl_X4_92 1 rfl rfl dX4_undo_29 ?_
    exact zv_iret (pc := 32) g hR dX4_undo_32 ⟨_, _, rfl, rfl, h⟩
  · replace h := h.2 c1
    refine zv_aload_n (pc := 7) g dX4_undo_7 0 rfl rfl ?_
    refine zv_ldc (pc := 8) g wd_391 dX4_undo_8 ?_
    refine zv_cVi (pc := 10) g cw_X4_52 (ctX4_finding h) (by decide) (by decide) zz_p0 (xW β b) (fun T => zz_p1 T) (q := 0) rfl rfl rfl rfl rfl (Nat.le_of_ble_eq_true rfl) dX4_undo_10 (fun v4 S5 h => ?_)
    exact zv_iret (pc := 13) g hR dX4_undo_13 ⟨_, _, rfl, rfl, h⟩
def wX4_tear (post : Int32 → (XSt) → Prop) (S : XSt) : Prop := ((x_kp S) = 0 → ∀ S2 : XSt, S2 = (x_kp_s S 0) → (post 0 S2)) ∧ (¬ (x_kp S) = 0 → ∀ S3 : XSt, S3 = (x_kp_s S 0) → (post 1 S3))
set_option maxRecDepth 100000 in
set_option maxHeartbeats 4000000 in
theorem ctX4_tear {β : zz_B} {b : Nat → Nat} {post : Int32 → (XSt) → Prop} {S : XSt} (h : wX4_tear post S) : zCi β yX4_tear cX4_tear 2 (some .int) 0 0 [.ref (b 0)] (xW β b) S post := by
  unfold wX4_tear at h
  unfold zCi
  refine zC.of (by decide) (Nat.le_of_ble_eq_true rfl) ?_
  intro Γ g hR
  show zV β 2 Γ ((xW β b) S) 0 [(0, .ref (b 0))] []
  refine zv_aload_n (pc := 0) g dX4_tear_0 0 rfl rfl ?_
  refine zv_get (pc := 1) g fl_X4_42 0 rfl rfl dX4_tear_1 ?_
  refine zv_if_eq (pc := 4) 11 g dX4_tear_4 rfl (fun c1 => ?_) (fun c1 => ?_)
  · replace h := h.1 c1
    refine zv_iconst (pc := 11) g dX4_tear_11 (v := 0) (by decide) ?_
    refine zv_istore_n (pc := 12) 1 [(1, .int 0), (0, .ref (b 0))] g dX4_tear_12 rfl (by decide) rfl ?_
    refine zv_aload_n (pc := 13) g dX4_tear_13 1 rfl rfl ?_
    refine zv_iconst (pc := 14) g dX4_tear_14 (v := 0) (by decide) ?_
    refine zv_put (pc := 15) ((xW β b) (x_kp_s S 0)) g fp_X4_42 0 rfl (by decide) (by decide) (Nat.le_of_ble_eq_true rfl) rfl dX4_tear_15 ?_
    refine zv_nmS (wf := (xW β b)) (fun S2 eS2 => ?_)
    replace h := h S2 eS2
    refine zv_iload_n (pc := 18) g dX4_tear_18 0 rfl rfl ?_
    exact zv_iret (pc := 19) g hR dX4_tear_19 ⟨_, _, rfl, rfl, h⟩
  · replace h := h.2 c1
    refine zv_iconst (pc := 7) g dX4_tear_7 (v := 1) (by decide) ?_
    refine zv_goto (pc := 8) 12 g dX4_tear_8 rfl ?_
    refine zv_istore_n (pc := 12) 1 [(1, .int 1), (0, .ref (b 0))] g dX4_tear_12 rfl (by decide) rfl ?_
    refine zv_aload_n (pc := 13) g dX4_tear_13 1 rfl rfl ?_
    refine zv_iconst (pc := 14) g dX4_tear_14 (v := 0) (by decide) ?_
    refine zv_put (pc := 15) ((xW β b) (x_kp_s S 0)) g fp_X4_42 0 rfl (by decide) (by decide) (Nat.le_of_ble_eq_true rfl) rfl dX4_tear_15 ?_
    refine zv_nmS (wf := (xW β b)) (fun S3 eS3 => ?_)
    replace h := h S3 eS3
    refine zv_iload_n (pc := 18) g dX4_tear_18 0 rfl rfl ?_
    exact zv_iret (pc := 19) g hR dX4_tear_19 ⟨_, _, rfl, rfl, h⟩
def wX4_count (post : Int32 → (XSt) → Prop) (S : XSt) (x1 : Int32) : Prop := (x1 = 0 → post (h_dusters (x_live S)) S) ∧ (x1 = 1 → post (t_length (x_tape S)) S) ∧ (x1 = 2 → wX0_memoriesCounted (fun v2 => post v2 S) (x_live S)) ∧ (x1 = 3 → wX0_grimeOfAll (fun v3 => post v3 S) (x_live S)) ∧ (((x1).toInt < 0 ∨ 3 < (x1).toInt) → wX4_finding (fun v4 S5 => post v4 S5) S (-1000000001))
set_option maxRecDepth 100000 in
set_option maxHeartbeats 4000000 in
theorem ctX4_count {β : zz_B} {b : Nat → Nat} {post : Int32 → (XSt) → Prop} {S : XSt} {x1 : Int32} (h : wX4_count post S x1) : zCi β yX4_count cX4_count 2 (some .int) 2 42 [.ref (b 0), .int x1] (xW β b) S post := by
  unfold wX4_count at h
  unfold zCi
  refine zC.of (by decide) (Nat.le_of_ble_eq_true rfl) ?_
  intro Γ g hR
  show zV β 2 Γ ((xW β b) S) 0 [(0, .ref (b 0)), (1, .int x1)] []
  refine zv_iload_n (pc := 0) g dX4_count_0 1 rfl rfl ?_
  rcases zz_ts_0_3 x1 with c1 | c1 | c1 | c1 | c1
  · refine zv_tblIn (pc := 1) 0 32 g dX4_count_1 c1 (by decide) (by decide) rfl rfl ?_
    replace h := h.1 c1
    refine zv_aload_n (pc := 32) g dX4_count_32 0 rfl rfl ?_
    refine zv_get (pc := 33) g fl_X4_12 0 rfl rfl dX4_count_33 ?_
    refine zv_get (pc := 36) g fl_X4_92 1 rfl rfl dX4_count_36 ?_
    exact zv_iret (pc := 39) g hR dX4_count_39 ⟨_, _, rfl, rfl, h⟩
  · refine zv_tblIn (pc := 1) 1 40 g dX4_count_1 c1 (by decide) (by decide) rfl rfl ?_
    replace h := h.2.1 c1
    refine zv_aload_n (pc := 40) g dX4_count_40 0 rfl rfl ?_
    refine zv_get (pc := 41) g fl_X4_28 0 rfl rfl dX4_count_41 ?_
    refine zv_get (pc := 44) g fl_X4_182 29 rfl rfl dX4_count_44 ?_
    exact zv_iret (pc := 47) g hR dX4_count_47 ⟨_, _, rfl, rfl, h⟩
  · refine zv_tblIn (pc := 1) 2 48 g dX4_count_1 c1 (by decide) (by decide) rfl rfl ?_
    replace h := h.2.2.1 c1
    refine zv_aload_n (pc := 48) g dX4_count_48 0 rfl rfl ?_
    refine zv_get (pc := 49) g fl_X4_12 0 rfl rfl dX4_count_49 ?_
    refine zv_cVp (pc := 52) g cw_X4_233 (ctX0_memoriesCounted h) (by decide) (by decide) (pmX_live β b S) (q := 0) rfl rfl rfl rfl rfl (Nat.le_of_ble_eq_true rfl) dX4_count_52 (fun v2 h => ?_)
    exact zv_iret (pc := 55) g hR dX4_count_55 ⟨_, _, rfl, rfl, h⟩
  · refine zv_tblIn (pc := 1) 3 56 g dX4_count_1 c1 (by decide) (by decide) rfl rfl ?_
    replace h := h.2.2.2.1 c1
    refine zv_aload_n (pc := 56) g dX4_count_56 0 rfl rfl ?_
    refine zv_get (pc := 57) g fl_X4_12 0 rfl rfl dX4_count_57 ?_
    refine zv_cVp (pc := 60) g cw_X4_236 (ctX0_grimeOfAll h) (by decide) (by decide) (pmX_live β b S) (q := 0) rfl rfl rfl rfl rfl (Nat.le_of_ble_eq_true rfl) dX4_count_60 (fun v3 h => ?_)
    exact zv_iret (pc := 63) g hR dX4_count_63 ⟨_, _, rfl, rfl, h⟩
  · refine zv_tblOut (pc := 1) 64 g dX4_count_1 c1 rfl ?_
    replace h := h.2.2.2.2 c1
    refine zv_aload_n (pc := 64) g dX4_count_64 0 rfl rfl ?_
    refine zv_ldc (pc := 65) g wd_217 dX4_count_65 ?_
    refine zv_cVi (pc := 67) g cw_X4_52 (ctX4_finding h) (by decide) (by decide) zz_p0 (xW β b) (fun T => zz_p1 T) (q := 0) rfl rfl rfl rfl rfl (Nat.le_of_ble_eq_true rfl) dX4_count_67 (fun v4 S5 h => ?_)
    exact zv_iret (pc := 70) g hR dX4_count_70 ⟨_, _, rfl, rfl, h⟩
def wX4_status_32 (post : Int32 → (XSt) → Prop) : Nat → (XSt) → (Int32) → (Int32) → Prop
  | 0, _, _, _ => False
  | f0 + 1, S, x2, x3 => ((7 : Int32) ≤ x3 → post x2 S) ∧ (¬ (7 : Int32) ≤ x3 → vp_in x3 7 ∧ (∀ y5 : Int32, y5 = (x2 + (x_found S (Int32.toNatClampNeg x3))) → (wX4_status_32 post f0 S y5 (x3 + 1))))
set_option maxRecDepth 100000 in
set_option maxHeartbeats 4000000 in
theorem lX4_status_32 {β : zz_B} {Γ : zz_X} {b : Nat → Nat} {post : Int32 → (XSt) → Prop} (g : zG β 4 Γ cX4_status RX4 1 22) (hR : zR β Γ (some .int) (fun r w => ∃ (v : Int32) (T : XSt), r = some (.int v) ∧ w = (xW β b) T ∧ post v T)) : ∀ (f0 : Nat) (S : XSt) (x2 : Int32) (x3 : Int32) , wX4_status_32 post f0 S x2 x3 → zV β 4 Γ ((xW β b) S) 32 [(0, .ref (b 0)), (2, .int x2), (3, .int x3)] [] := by
  intro f0
  induction f0 with
  | zero => intro S x2 x3 h; exact h.elim
  | succ f0 ih0 =>
    intro S x2 x3 h
    rw [wX4_status_32] at h
    refine zv_iload_n (pc := 32) g dX4_status_32 2 rfl rfl ?_
    refine zv_bipush (pc := 33) g dX4_status_33 (v := 7) (by decide) ?_
    refine zv_icmp_ge (pc := 35) 53 g dX4_status_35 rfl (fun c4 => ?_) (fun c4 => ?_)
    · replace h := h.1 c4
      refine zv_iload_n (pc := 53) g dX4_status_53 1 rfl rfl ?_
      exact zv_iret (pc := 54) g hR dX4_status_54 ⟨_, _, rfl, rfl, h⟩
    · replace h := h.2 c4
      refine zv_iload_n (pc := 38) g dX4_status_38 1 rfl rfl ?_
      refine zv_aload_n (pc := 39) g dX4_status_39 0 rfl rfl ?_
      refine zv_get (pc := 40) g fl_X4_38 0 rfl rfl dX4_status_40 ?_
      refine zv_iload_n (pc := 43) g dX4_status_43 2 rfl rfl ?_
      obtain ⟨hi, h⟩ := h
      refine zv_iald (pc := 44) g 40 rfl hi dX4_status_44 ?_
      refine zv_iadd (pc := 45) g dX4_status_45 ?_
      refine zv_topi (fun y5 ey5 => ?_)
      replace h := h y5 ey5
      refine zv_istore_n (pc := 46) 2 [(2, .int y5), (0, .ref (b 0)), (3, .int x3)] g dX4_status_46 rfl (by decide) rfl ?_
      refine zv_iinc (pc := 47) 1 [(3, .int (x3 + 1)), (2, .int y5), (0, .ref (b 0))] g dX4_status_47 2 rfl (by decide) (by decide) rfl ?_
      refine zv_goto (pc := 50) 32 g dX4_status_50 rfl ?_
      refine zv_sub [2, 1, 0] rfl ?_
      exact ih0 _ _ _ h
def wX4_status (post : Int32 → (XSt) → Prop) (S : XSt) (x1 : Int32) : Prop := wX4_within (fun v1 => (¬ v1 = 0 → (x1 < 0 → ∃ f6 : Nat, wX4_status_32 post f6 S 0 0) ∧ (¬ x1 < 0 → vp_in x1 7 ∧ (post (x_found S (Int32.toNatClampNeg x1)) S))) ∧ (v1 = 0 → wX4_finding (fun v7 S8 => post v7 S8) S (-1000000001))) x1 (-1) 6
set_option maxRecDepth 100000 in
set_option maxHeartbeats 4000000 in
theorem ctX4_status {β : zz_B} {b : Nat → Nat} {post : Int32 → (XSt) → Prop} {S : XSt} {x1 : Int32} (h : wX4_status post S x1) : zCi β yX4_status cX4_status 4 (some .int) 1 22 [.ref (b 0), .int x1] (xW β b) S post := by
  unfold wX4_status at h
  unfold zCi
  refine zC.of (by decide) (Nat.le_of_ble_eq_true rfl) ?_
  intro Γ g hR
  show zV β 4 Γ ((xW β b) S) 0 [(0, .ref (b 0)), (1, .int x1)] []
  refine zv_iload_n (pc := 0) g dX4_status_0 1 rfl rfl ?_
  refine zv_iconst (pc := 1) g dX4_status_1 (v := (-1)) (by decide) ?_
  refine zv_bipush (pc := 2) g dX4_status_2 (v := 6) (by decide) ?_
  refine zv_cSp (pc := 4) g cw_X4_47 (ctX4_within h) (by decide) (by decide) zz_pN rfl rfl (Nat.le_of_ble_eq_true rfl) dX4_status_4 (fun v1 h => ?_)
  refine zv_if_ne (pc := 7) 17 g dX4_status_7 rfl (fun c2 => ?_) (fun c2 => ?_)
  · replace h := h.1 c2
    refine zv_iload_n (pc := 17) g dX4_status_17 1 rfl rfl ?_
    refine zv_if_lt (pc := 18) 28 g dX4_status_18 rfl (fun c3 => ?_) (fun c3 => ?_)
    · replace h := h.1 c3
      refine zv_iconst (pc := 28) g dX4_status_28 (v := 0) (by decide) ?_
      refine zv_istore_n (pc := 29) 2 [(2, .int 0), (0, .ref (b 0)), (1, .int x1)] g dX4_status_29 rfl (by decide) rfl ?_
      refine zv_iconst (pc := 30) g dX4_status_30 (v := 0) (by decide) ?_
      refine zv_istore_n (pc := 31) 3 [(3, .int 0), (2, .int 0), (0, .ref (b 0)), (1, .int x1)] g dX4_status_31 rfl (by decide) rfl ?_
      obtain ⟨f6, h⟩ := h
      refine zv_sub [2, 1, 0] rfl ?_
      exact lX4_status_32 g hR f6 _ _ _ h
    · replace h := h.2 c3
      refine zv_aload_n (pc := 21) g dX4_status_21 0 rfl rfl ?_
      refine zv_get (pc := 22) g fl_X4_38 0 rfl rfl dX4_status_22 ?_
      refine zv_iload_n (pc := 25) g dX4_status_25 1 rfl rfl ?_
      obtain ⟨hi, h⟩ := h
      refine zv_iald (pc := 26) g 40 rfl hi dX4_status_26 ?_
      exact zv_iret (pc := 27) g hR dX4_status_27 ⟨_, _, rfl, rfl, h⟩
  · replace h := h.2 c2
    refine zv_aload_n (pc := 10) g dX4_status_10 0 rfl rfl ?_
    refine zv_ldc (pc := 11) g wd_217 dX4_status_11 ?_
    refine zv_cVi (pc := 13) g cw_X4_52 (ctX4_finding h) (by decide) (by decide) zz_p0 (xW β b) (fun T => zz_p1 T) (q := 0) rfl rfl rfl rfl rfl (Nat.le_of_ble_eq_true rfl) dX4_status_13 (fun v7 S8 h => ?_)
    exact zv_iret (pc := 16) g hR dX4_status_16 ⟨_, _, rfl, rfl, h⟩
