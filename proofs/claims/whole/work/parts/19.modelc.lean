def wX5_delay_108 (post : Int32 → (MSt) → Prop) (k50 : (MSt) → (Int32) → (Int32) → (Int32) → (Int32) → (Int32) → (Int32) → Prop) (S : MSt) (x1 : Int32) (x2 : Int32) (x3 : Int32) (x5 : Int32) (x6 : Int32) (x7 : Int32) (s0 : Int32) : Prop := (x7 ≤ x5 → k50 S x1 x2 x3 s0 x5 (x6 + 1)) ∧ (¬ x7 ≤ x5 → k50 S x1 x2 x3 s0 x7 (x6 + 1))
set_option maxRecDepth 100000 in
set_option maxHeartbeats 4000000 in
theorem lX5_delay_108 {β : zz_B} {Γ : zz_X} {a : Nat → Nat} {post : Int32 → (MSt) → Prop} {k50 : (MSt) → (Int32) → (Int32) → (Int32) → (Int32) → (Int32) → (Int32) → Prop} (g : zG β 8 Γ cX5_delay RX5 5 117) (hR : zR β Γ (some .int) (fun r w => ∃ (v : Int32) (T : MSt), r = some (.int v) ∧ w = (mW β a) T ∧ post v T)) (hk50 : ∀ (S : MSt) (x1 : Int32) (x2 : Int32) (x3 : Int32) (x4 : Int32) (x5 : Int32) (x6 : Int32), k50 S x1 x2 x3 x4 x5 x6 → zV β 8 Γ ((mW β a) S) 50 [(0, .ref (a 0)), (1, .int x1), (2, .int x2), (3, .int x3), (4, .int x4), (5, .int x5), (6, .int x6)] []) (S : MSt) (x1 : Int32) (x2 : Int32) (x3 : Int32) (x5 : Int32) (x6 : Int32) (x7 : Int32) (s0 : Int32) (h : wX5_delay_108 post k50 S x1 x2 x3 x5 x6 x7 s0) : zV β 8 Γ ((mW β a) S) 108 [(0, .ref (a 0)), (1, .int x1), (2, .int x2), (3, .int x3), (5, .int x5), (6, .int x6), (7, .int x7)] [.int s0] := by
  unfold wX5_delay_108 at h
  refine zv_istore (pc := 108) [(4, .int s0), (0, .ref (a 0)), (1, .int x1), (2, .int x2), (3, .int x3), (5, .int x5), (6, .int x6), (7, .int x7)] g dX5_delay_108 (by decide) rfl ?_
  refine zv_iload (pc := 110) g dX5_delay_110 7 rfl ?_
  refine zv_iload (pc := 112) g dX5_delay_112 5 rfl ?_
  refine zv_icmp_le (pc := 114) 122 g dX5_delay_114 rfl (fun c21 => ?_) (fun c21 => ?_)
  · replace h := h.1 c21
    refine zv_iload (pc := 122) g dX5_delay_122 5 rfl ?_
    refine zv_istore (pc := 124) [(5, .int x5), (4, .int s0), (0, .ref (a 0)), (1, .int x1), (2, .int x2), (3, .int x3), (6, .int x6), (7, .int x7)] g dX5_delay_124 (by decide) rfl ?_
    refine zv_iinc (pc := 126) 1 [(6, .int (x6 + 1)), (5, .int x5), (4, .int s0), (0, .ref (a 0)), (1, .int x1), (2, .int x2), (3, .int x3), (7, .int x7)] g dX5_delay_126 6 rfl (by decide) (by decide) rfl ?_
    refine zv_goto (pc := 129) 50 g dX5_delay_129 rfl ?_
    refine zv_sub [3, 4, 5, 6, 2, 1, 0] rfl ?_
    exact hk50 _ _ _ _ _ _ _ h
  · replace h := h.2 c21
    refine zv_iload (pc := 117) g dX5_delay_117 7 rfl ?_
    refine zv_goto (pc := 119) 124 g dX5_delay_119 rfl ?_
    refine zv_istore (pc := 124) [(5, .int x7), (4, .int s0), (0, .ref (a 0)), (1, .int x1), (2, .int x2), (3, .int x3), (6, .int x6), (7, .int x7)] g dX5_delay_124 (by decide) rfl ?_
    refine zv_iinc (pc := 126) 1 [(6, .int (x6 + 1)), (5, .int x7), (4, .int s0), (0, .ref (a 0)), (1, .int x1), (2, .int x2), (3, .int x3), (7, .int x7)] g dX5_delay_126 6 rfl (by decide) (by decide) rfl ?_
    refine zv_goto (pc := 129) 50 g dX5_delay_129 rfl ?_
    refine zv_sub [3, 4, 5, 6, 2, 1, 0] rfl ?_
    exact hk50 _ _ _ _ _ _ _ h
def wX5_delay_50 (post : Int32 → (MSt) → Prop) : Nat → (MSt) → (Int32) → (Int32) → (Int32) → (Int32) → (Int32) → (Int32) → Prop
  | 0, _, _, _, _, _, _, _ => False
  | f0 + 1, S, x1, x2, x3, x4, x5, x6 => ((20 : Int32) < x6 → post x4 S) ∧ (¬ (20 : Int32) < x6 → wX5_passes (fun S13 => wX5_shakes (fun v14 S15 => wX5_passes (fun S16 => wX5_there (fun v17 => wX5_bits (fun v18 => wX5_moveAll_tried (fun S19 => (v18 ≤ x5 → wX5_delay_108 post (wX5_delay_50 post f0) S19 x1 x2 x3 x5 x6 v18 x4) ∧ (¬ v18 ≤ x5 → wX5_delay_108 post (wX5_delay_50 post f0) S19 x1 x2 x3 x5 x6 v18 x6)) S16 0) v17) S16 x2 1) S15 x3) S13 x1) S x6)
set_option maxRecDepth 100000 in
set_option maxHeartbeats 4000000 in
theorem lX5_delay_50 {β : zz_B} {Γ : zz_X} {a : Nat → Nat} {post : Int32 → (MSt) → Prop} (g : zG β 8 Γ cX5_delay RX5 5 117) (hR : zR β Γ (some .int) (fun r w => ∃ (v : Int32) (T : MSt), r = some (.int v) ∧ w = (mW β a) T ∧ post v T)) : ∀ (f0 : Nat) (S : MSt) (x1 : Int32) (x2 : Int32) (x3 : Int32) (x4 : Int32) (x5 : Int32) (x6 : Int32) , wX5_delay_50 post f0 S x1 x2 x3 x4 x5 x6 → zV β 8 Γ ((mW β a) S) 50 [(0, .ref (a 0)), (1, .int x1), (2, .int x2), (3, .int x3), (4, .int x4), (5, .int x5), (6, .int x6)] [] := by
  intro f0
  induction f0 with
  | zero => intro S x1 x2 x3 x4 x5 x6 h; exact h.elim
  | succ f0 ih0 =>
    intro S x1 x2 x3 x4 x5 x6 h
    rw [wX5_delay_50] at h
    refine zv_iload (pc := 50) g dX5_delay_50 6 rfl ?_
    refine zv_bipush (pc := 52) g dX5_delay_52 (v := 20) (by decide) ?_
    refine zv_icmp_gt (pc := 54) 132 g dX5_delay_54 rfl (fun c12 => ?_) (fun c12 => ?_)
    · replace h := h.1 c12
      refine zv_iload (pc := 132) g dX5_delay_132 4 rfl ?_
      exact zv_iret (pc := 134) g hR dX5_delay_134 ⟨_, _, rfl, rfl, h⟩
    · replace h := h.2 c12
      refine zv_aload_n (pc := 57) g dX5_delay_57 0 rfl rfl ?_
      refine zv_iload (pc := 58) g dX5_delay_58 6 rfl ?_
      refine zv_cVv (pc := 60) g cw_X5_143 (ctX5_passes h) (by decide) (by decide) zz_p0 (mW β a) (fun T => zz_p1 T) (q := 0) rfl rfl rfl rfl rfl (Nat.le_of_ble_eq_true rfl) dX5_delay_60 (fun S13 h => ?_)
      refine zv_aload_n (pc := 63) g dX5_delay_63 0 rfl rfl ?_
      refine zv_iload_n (pc := 64) g dX5_delay_64 1 rfl rfl ?_
      refine zv_cVi (pc := 65) g cw_X5_136 (ctX5_shakes h) (by decide) (by decide) zz_p0 (mW β a) (fun T => zz_p1 T) (q := 0) rfl rfl rfl rfl rfl (Nat.le_of_ble_eq_true rfl) dX5_delay_65 (fun v14 S15 h => ?_)
      refine zv_pop (pc := 68) g dX5_delay_68 rfl ?_
      refine zv_aload_n (pc := 69) g dX5_delay_69 0 rfl rfl ?_
      refine zv_iload_n (pc := 70) g dX5_delay_70 3 rfl rfl ?_
      refine zv_cVv (pc := 71) g cw_X5_143 (ctX5_passes h) (by decide) (by decide) zz_p0 (mW β a) (fun T => zz_p1 T) (q := 0) rfl rfl rfl rfl rfl (Nat.le_of_ble_eq_true rfl) dX5_delay_71 (fun S16 h => ?_)
      refine zv_aload_n (pc := 74) g dX5_delay_74 0 rfl rfl ?_
      refine zv_iload_n (pc := 75) g dX5_delay_75 2 rfl rfl ?_
      refine zv_iconst (pc := 76) g dX5_delay_76 (v := 1) (by decide) ?_
      refine zv_cVp (pc := 77) g cw_X5_71 (ctX5_there h) (by decide) (by decide) zz_p0 (q := 0) rfl rfl rfl rfl rfl (Nat.le_of_ble_eq_true rfl) dX5_delay_77 (fun v17 h => ?_)
      refine zv_cSp (pc := 80) g cw_X5_77 (ctX5_bits h) (by decide) (by decide) zz_pN rfl rfl (Nat.le_of_ble_eq_true rfl) dX5_delay_80 (fun v18 h => ?_)
      refine zv_istore (pc := 83) [(7, .int v18), (0, .ref (a 0)), (1, .int x1), (2, .int x2), (3, .int x3), (4, .int x4), (5, .int x5), (6, .int x6)] g dX5_delay_83 (by decide) rfl ?_
      refine zv_aload_n (pc := 85) g dX5_delay_85 1 rfl rfl ?_
      refine zv_iconst (pc := 86) g dX5_delay_86 (v := 0) (by decide) ?_
      refine zv_aload_n (pc := 87) g dX5_delay_87 1 rfl rfl ?_
      refine zv_get (pc := 88) g fl_X5_16 0 rfl rfl dX5_delay_88 ?_
      refine zv_cVv (pc := 91) g cw_X5_147 (ctX5_moveAll_tried h) (by decide) (by decide) zz_p0 (mW β a) (fun T => zz_p1 T) (q := 0) rfl rfl rfl rfl rfl (Nat.le_of_ble_eq_true rfl) dX5_delay_91 (fun S19 h => ?_)
      refine zv_iload (pc := 94) g dX5_delay_94 0 rfl ?_
      refine zv_iload (pc := 96) g dX5_delay_96 6 rfl ?_
      refine zv_icmp_le (pc := 98) 106 g dX5_delay_98 rfl (fun c20 => ?_) (fun c20 => ?_)
      · replace h := h.1 c20
        refine zv_iload (pc := 106) g dX5_delay_106 5 rfl ?_
        refine zv_sub [1, 2, 3, 4, 6, 7, 0] rfl ?_
        exact lX5_delay_108 g hR ih0 _ _ _ _ _ _ _ _ h
      · replace h := h.2 c20
        refine zv_iload (pc := 101) g dX5_delay_101 7 rfl ?_
        refine zv_goto (pc := 103) 108 g dX5_delay_103 rfl ?_
        refine zv_sub [1, 2, 3, 4, 6, 7, 0] rfl ?_
        exact lX5_delay_108 g hR ih0 _ _ _ _ _ _ _ _ h
def wX5_delay (post : Int32 → (MSt) → Prop) (S : MSt) (x1 : Int32) (x2 : Int32) (x3 : Int32) : Prop := wX5_isOne (fun v1 => (v1 = 0 → wX5_finds (fun v3 S4 => post v3 S4) S (-1000000001)) ∧ (¬ v1 = 0 → wX5_isRoom (fun v5 => (v5 = 0 → wX5_finds (fun v7 S8 => post v7 S8) S (-1000000001)) ∧ (¬ v5 = 0 → wX5_in (fun v9 => (¬ v9 = 0 → wX5_moveAll_tried (fun S11 => ∃ f22 : Nat, wX5_delay_50 post f22 S11 x1 x2 x3 0 (-1) 0) S 1) ∧ (v9 = 0 → wX5_finds (fun v23 S24 => post v23 S24) S (-1000000001))) x3 1 20)) x2)) S x1
set_option maxRecDepth 100000 in
set_option maxHeartbeats 4000000 in
theorem ctX5_delay {β : zz_B} {a : Nat → Nat} {post : Int32 → (MSt) → Prop} {S : MSt} {x1 : Int32} {x2 : Int32} {x3 : Int32} (h : wX5_delay post S x1 x2 x3) : zCi β yX5_delay cX5_delay 8 (some .int) 5 117 [.ref (a 0), .int x1, .int x2, .int x3] (mW β a) S post := by
  unfold wX5_delay at h
  unfold zCi
  refine zC.of (by decide) (Nat.le_of_ble_eq_true rfl) ?_
  intro Γ g hR
  show zV β 8 Γ ((mW β a) S) 0 [(0, .ref (a 0)), (1, .int x1), (2, .int x2), (3, .int x3)] []
  refine zv_aload_n (pc := 0) g dX5_delay_0 0 rfl rfl ?_
  refine zv_iload_n (pc := 1) g dX5_delay_1 1 rfl rfl ?_
  refine zv_cVp (pc := 2) g cw_X5_103 (ctX5_isOne h) (by decide) (by decide) zz_p0 (q := 0) rfl rfl rfl rfl rfl (Nat.le_of_ble_eq_true rfl) dX5_delay_2 (fun v1 h => ?_)
  refine zv_if_eq (pc := 5) 25 g dX5_delay_5 rfl (fun c2 => ?_) (fun c2 => ?_)
  · replace h := h.1 c2
    refine zv_aload_n (pc := 25) g dX5_delay_25 0 rfl rfl ?_
    refine zv_ldc (pc := 26) g wd_744 dX5_delay_26 ?_
    refine zv_cVi (pc := 28) g cw_X5_57 (ctX5_finds h) (by decide) (by decide) zz_p0 (mW β a) (fun T => zz_p1 T) (q := 0) rfl rfl rfl rfl rfl (Nat.le_of_ble_eq_true rfl) dX5_delay_28 (fun v3 S4 h => ?_)
    exact zv_iret (pc := 31) g hR dX5_delay_31 ⟨_, _, rfl, rfl, h⟩
  · replace h := h.2 c2
    refine zv_iload_n (pc := 8) g dX5_delay_8 2 rfl rfl ?_
    refine zv_cSp (pc := 9) g cw_X5_61 (ctX5_isRoom h) (by decide) (by decide) zz_pN rfl rfl (Nat.le_of_ble_eq_true rfl) dX5_delay_9 (fun v5 h => ?_)
    refine zv_if_eq (pc := 12) 25 g dX5_delay_12 rfl (fun c6 => ?_) (fun c6 => ?_)
    · replace h := h.1 c6
      refine zv_aload_n (pc := 25) g dX5_delay_25 0 rfl rfl ?_
      refine zv_ldc (pc := 26) g wd_744 dX5_delay_26 ?_
      refine zv_cVi (pc := 28) g cw_X5_57 (ctX5_finds h) (by decide) (by decide) zz_p0 (mW β a) (fun T => zz_p1 T) (q := 0) rfl rfl rfl rfl rfl (Nat.le_of_ble_eq_true rfl) dX5_delay_28 (fun v7 S8 h => ?_)
      exact zv_iret (pc := 31) g hR dX5_delay_31 ⟨_, _, rfl, rfl, h⟩
    · replace h := h.2 c6
      refine zv_iload_n (pc := 15) g dX5_delay_15 3 rfl rfl ?_
      refine zv_iconst (pc := 16) g dX5_delay_16 (v := 1) (by decide) ?_
      refine zv_bipush (pc := 17) g dX5_delay_17 (v := 20) (by decide) ?_
      refine zv_cSp (pc := 19) g cw_X5_49 (ctX5_in h) (by decide) (by decide) zz_pN rfl rfl (Nat.le_of_ble_eq_true rfl) dX5_delay_19 (fun v9 h => ?_)
      refine zv_if_ne (pc := 22) 32 g dX5_delay_22 rfl (fun c10 => ?_) (fun c10 => ?_)
      · replace h := h.1 c10
        refine zv_iconst (pc := 32) g dX5_delay_32 (v := 0) (by decide) ?_
        refine zv_istore (pc := 33) [(4, .int 0), (0, .ref (a 0)), (1, .int x1), (2, .int x2), (3, .int x3)] g dX5_delay_33 (by decide) rfl ?_
        refine zv_iconst (pc := 35) g dX5_delay_35 (v := (-1)) (by decide) ?_
        refine zv_istore (pc := 36) [(5, .int (-1)), (4, .int 0), (0, .ref (a 0)), (1, .int x1), (2, .int x2), (3, .int x3)] g dX5_delay_36 (by decide) rfl ?_
        refine zv_aload_n (pc := 38) g dX5_delay_38 2 rfl rfl ?_
        refine zv_iconst (pc := 39) g dX5_delay_39 (v := 1) (by decide) ?_
        refine zv_aload_n (pc := 40) g dX5_delay_40 2 rfl rfl ?_
        refine zv_get (pc := 41) g fl_X5_16 0 rfl rfl dX5_delay_41 ?_
        refine zv_cVv (pc := 44) g cw_X5_147 (ctX5_moveAll_tried h) (by decide) (by decide) zz_p0 (mW β a) (fun T => zz_p1 T) (q := 0) rfl rfl rfl rfl rfl (Nat.le_of_ble_eq_true rfl) dX5_delay_44 (fun S11 h => ?_)
        refine zv_iconst (pc := 47) g dX5_delay_47 (v := 0) (by decide) ?_
        refine zv_istore (pc := 48) [(6, .int 0), (5, .int (-1)), (4, .int 0), (0, .ref (a 0)), (1, .int x1), (2, .int x2), (3, .int x3)] g dX5_delay_48 (by decide) rfl ?_
        obtain ⟨f22, h⟩ := h
        refine zv_sub [3, 4, 5, 6, 2, 1, 0] rfl ?_
        exact lX5_delay_50 g hR f22 _ _ _ _ _ _ _ h
      · replace h := h.2 c10
        refine zv_aload_n (pc := 25) g dX5_delay_25 0 rfl rfl ?_
        refine zv_ldc (pc := 26) g wd_744 dX5_delay_26 ?_
        refine zv_cVi (pc := 28) g cw_X5_57 (ctX5_finds h) (by decide) (by decide) zz_p0 (mW β a) (fun T => zz_p1 T) (q := 0) rfl rfl rfl rfl rfl (Nat.le_of_ble_eq_true rfl) dX5_delay_28 (fun v23 S24 h => ?_)
        exact zv_iret (pc := 31) g hR dX5_delay_31 ⟨_, _, rfl, rfl, h⟩
def wX5_bears_37 (post : Int32 → (MSt) → Prop) : Nat → (MSt) → (Int32) → (Int32) → (Int32) → (Int32) → Prop
  | 0, _, _, _, _, _ => False
  | f0 + 1, S, x1, x2, x3, x4 => (x2 ≤ 0 → (x4 = 0 → wX5_finds (fun v7 S8 => post v7 S8) S (-1000000004)) ∧ (¬ x4 = 0 → post x2 S)) ∧ (¬ x2 ≤ 0 → (¬ x4 = 0 → (x4 = 0 → wX5_finds (fun v11 S12 => post v11 S12) S (-1000000004)) ∧ (¬ x4 = 0 → post x2 S)) ∧ (x4 = 0 → vp_in 1 51 ∧ (∀ S13 : MSt, S13 = (m_row_s S (upd (m_row S) (Int32.toNatClampNeg 1) (x2 + (-1)))) → (wX5_dustBehind (fun v14 S15 => (x3 < v14 → wX5_bears_37 post f0 S15 x1 (x2 + (-1)) x3 0) ∧ (¬ x3 < v14 → wX5_bears_37 post f0 S15 x1 (x2 + (-1)) x3 1)) S13 x1))))
set_option maxRecDepth 100000 in
set_option maxHeartbeats 4000000 in
theorem lX5_bears_37 {β : zz_B} {Γ : zz_X} {a : Nat → Nat} {post : Int32 → (MSt) → Prop} (g : zG β 5 Γ cX5_bears RX5 6 139) (hR : zR β Γ (some .int) (fun r w => ∃ (v : Int32) (T : MSt), r = some (.int v) ∧ w = (mW β a) T ∧ post v T)) : ∀ (f0 : Nat) (S : MSt) (x1 : Int32) (x2 : Int32) (x3 : Int32) (x4 : Int32) , wX5_bears_37 post f0 S x1 x2 x3 x4 → zV β 5 Γ ((mW β a) S) 37 [(0, .ref (a 0)), (1, .int x1), (2, .int x2), (3, .int x3), (4, .int x4)] [] := by
  intro f0
  induction f0 with
  | zero => intro S x1 x2 x3 x4 h; exact h.elim
  | succ f0 ih0 =>
    intro S x1 x2 x3 x4 h
    rw [wX5_bears_37] at h
    refine zv_iload_n (pc := 37) g dX5_bears_37 2 rfl rfl ?_
    refine zv_if_le (pc := 38) 75 g dX5_bears_38 rfl (fun c5 => ?_) (fun c5 => ?_)
    · replace h := h.1 c5
      refine zv_iload (pc := 75) g dX5_bears_75 4 rfl ?_
      refine zv_if_eq (pc := 77) 84 g dX5_bears_77 rfl (fun c6 => ?_) (fun c6 => ?_)
      · replace h := h.1 c6
        refine zv_aload_n (pc := 84) g dX5_bears_84 0 rfl rfl ?_
        refine zv_ldc (pc := 85) g wd_918 dX5_bears_85 ?_
        refine zv_cVi (pc := 87) g cw_X5_57 (ctX5_finds h) (by decide) (by decide) zz_p0 (mW β a) (fun T => zz_p1 T) (q := 0) rfl rfl rfl rfl rfl (Nat.le_of_ble_eq_true rfl) dX5_bears_87 (fun v7 S8 h => ?_)
        exact zv_iret (pc := 90) g hR dX5_bears_90 ⟨_, _, rfl, rfl, h⟩
      · replace h := h.2 c6
        refine zv_iload_n (pc := 80) g dX5_bears_80 2 rfl rfl ?_
        refine zv_goto (pc := 81) 90 g dX5_bears_81 rfl ?_
        exact zv_iret (pc := 90) g hR dX5_bears_90 ⟨_, _, rfl, rfl, h⟩
    · replace h := h.2 c5
      refine zv_iload (pc := 41) g dX5_bears_41 4 rfl ?_
      refine zv_if_ne (pc := 43) 75 g dX5_bears_43 rfl (fun c9 => ?_) (fun c9 => ?_)
      · replace h := h.1 c9
        refine zv_iload (pc := 75) g dX5_bears_75 4 rfl ?_
        refine zv_if_eq (pc := 77) 84 g dX5_bears_77 rfl (fun c10 => ?_) (fun c10 => ?_)
        · replace h := h.1 c10
          refine zv_aload_n (pc := 84) g dX5_bears_84 0 rfl rfl ?_
          refine zv_ldc (pc := 85) g wd_918 dX5_bears_85 ?_
          refine zv_cVi (pc := 87) g cw_X5_57 (ctX5_finds h) (by decide) (by decide) zz_p0 (mW β a) (fun T => zz_p1 T) (q := 0) rfl rfl rfl rfl rfl (Nat.le_of_ble_eq_true rfl) dX5_bears_87 (fun v11 S12 h => ?_)
          exact zv_iret (pc := 90) g hR dX5_bears_90 ⟨_, _, rfl, rfl, h⟩
        · replace h := h.2 c10
          refine zv_iload_n (pc := 80) g dX5_bears_80 2 rfl rfl ?_
          refine zv_goto (pc := 81) 90 g dX5_bears_81 rfl ?_
          exact zv_iret (pc := 90) g hR dX5_bears_90 ⟨_, _, rfl, rfl, h⟩
      · replace h := h.2 c9
        refine zv_iinc (pc := 46) (-1) [(2, .int (x2 + (-1))), (0, .ref (a 0)), (1, .int x1), (3, .int x3), (4, .int x4)] g dX5_bears_46 2 rfl (by decide) (by decide) rfl ?_
        refine zv_aload_n (pc := 49) g dX5_bears_49 1 rfl rfl ?_
        refine zv_get (pc := 50) g fl_X5_7 0 rfl rfl dX5_bears_50 ?_
        refine zv_iconst (pc := 53) g dX5_bears_53 (v := 1) (by decide) ?_
        refine zv_iload_n (pc := 54) g dX5_bears_54 0 rfl rfl ?_
        obtain ⟨hi, h⟩ := h
        refine zv_ials (pc := 55) ((mW β a) (m_row_s S (upd (m_row S) (Int32.toNatClampNeg 1) (x2 + (-1))))) g 1 rfl hi rfl dX5_bears_55 ?_
        refine zv_nmS (wf := (mW β a)) (fun S13 eS13 => ?_)
        replace h := h S13 eS13
        refine zv_aload_n (pc := 56) g dX5_bears_56 1 rfl rfl ?_
        refine zv_iload_n (pc := 57) g dX5_bears_57 2 rfl rfl ?_
        refine zv_cVi (pc := 58) g cw_X5_164 (ctX5_dustBehind h) (by decide) (by decide) zz_p0 (mW β a) (fun T => zz_p1 T) (q := 0) rfl rfl rfl rfl rfl (Nat.le_of_ble_eq_true rfl) dX5_bears_58 (fun v14 S15 h => ?_)
        refine zv_iload_n (pc := 61) g dX5_bears_61 3 rfl rfl ?_
        refine zv_icmp_gt (pc := 62) 69 g dX5_bears_62 rfl (fun c16 => ?_) (fun c16 => ?_)
        · replace h := h.1 c16
          refine zv_iconst (pc := 69) g dX5_bears_69 (v := 0) (by decide) ?_
          refine zv_istore (pc := 70) [(4, .int 0), (2, .int (x2 + (-1))), (0, .ref (a 0)), (1, .int x1), (3, .int x3)] g dX5_bears_70 (by decide) rfl ?_
          refine zv_goto (pc := 72) 37 g dX5_bears_72 rfl ?_
          refine zv_sub [2, 3, 1, 4, 0] rfl ?_
          exact ih0 _ _ _ _ _ h
        · replace h := h.2 c16
          refine zv_iconst (pc := 65) g dX5_bears_65 (v := 1) (by decide) ?_
          refine zv_goto (pc := 66) 70 g dX5_bears_66 rfl ?_
          refine zv_istore (pc := 70) [(4, .int 1), (2, .int (x2 + (-1))), (0, .ref (a 0)), (1, .int x1), (3, .int x3)] g dX5_bears_70 (by decide) rfl ?_
          refine zv_goto (pc := 72) 37 g dX5_bears_72 rfl ?_
          refine zv_sub [2, 3, 1, 4, 0] rfl ?_
          exact ih0 _ _ _ _ _ h
def wX5_bears (post : Int32 → (MSt) → Prop) (S : MSt) (x1 : Int32) : Prop := wX5_in (fun v1 => (¬ v1 = 0 → wX5_dustOfAll (fun v3 => wX5_moveAll_tried (fun S4 => ∃ f17 : Nat, wX5_bears_37 post f17 S4 x1 21 v3 0) S 1) S) ∧ (v1 = 0 → wX5_finds (fun v18 S19 => post v18 S19) S (-1000000001))) x1 1 40
set_option maxRecDepth 100000 in
set_option maxHeartbeats 4000000 in
theorem ctX5_bears {β : zz_B} {a : Nat → Nat} {post : Int32 → (MSt) → Prop} {S : MSt} {x1 : Int32} (h : wX5_bears post S x1) : zCi β yX5_bears cX5_bears 5 (some .int) 6 139 [.ref (a 0), .int x1] (mW β a) S post := by
  unfold wX5_bears at h
  unfold zCi
  refine zC.of (by decide) (Nat.le_of_ble_eq_true rfl) ?_
  intro Γ g hR
  show zV β 5 Γ ((mW β a) S) 0 [(0, .ref (a 0)), (1, .int x1)] []
  refine zv_iload_n (pc := 0) g dX5_bears_0 1 rfl rfl ?_
  refine zv_iconst (pc := 1) g dX5_bears_1 (v := 1) (by decide) ?_
  refine zv_bipush (pc := 2) g dX5_bears_2 (v := 40) (by decide) ?_
  refine zv_cSp (pc := 4) g cw_X5_49 (ctX5_in h) (by decide) (by decide) zz_pN rfl rfl (Nat.le_of_ble_eq_true rfl) dX5_bears_4 (fun v1 h => ?_)
  refine zv_if_ne (pc := 7) 17 g dX5_bears_7 rfl (fun c2 => ?_) (fun c2 => ?_)
  · replace h := h.1 c2
    refine zv_bipush (pc := 17) g dX5_bears_17 (v := 21) (by decide) ?_
    refine zv_istore_n (pc := 19) 2 [(2, .int 21), (0, .ref (a 0)), (1, .int x1)] g dX5_bears_19 rfl (by decide) rfl ?_
    refine zv_aload_n (pc := 20) g dX5_bears_20 1 rfl rfl ?_
    refine zv_cVp (pc := 21) g cw_X5_80 (ctX5_dustOfAll h) (by decide) (by decide) zz_p0 (q := 0) rfl rfl rfl rfl rfl (Nat.le_of_ble_eq_true rfl) dX5_bears_21 (fun v3 h => ?_)
    refine zv_istore_n (pc := 24) 3 [(3, .int v3), (2, .int 21), (0, .ref (a 0)), (1, .int x1)] g dX5_bears_24 rfl (by decide) rfl ?_
    refine zv_iconst (pc := 25) g dX5_bears_25 (v := 0) (by decide) ?_
    refine zv_istore (pc := 26) [(4, .int 0), (3, .int v3), (2, .int 21), (0, .ref (a 0)), (1, .int x1)] g dX5_bears_26 (by decide) rfl ?_
    refine zv_aload_n (pc := 28) g dX5_bears_28 3 rfl rfl ?_
    refine zv_iconst (pc := 29) g dX5_bears_29 (v := 1) (by decide) ?_
    refine zv_aload_n (pc := 30) g dX5_bears_30 3 rfl rfl ?_
    refine zv_get (pc := 31) g fl_X5_16 0 rfl rfl dX5_bears_31 ?_
    refine zv_cVv (pc := 34) g cw_X5_147 (ctX5_moveAll_tried h) (by decide) (by decide) zz_p0 (mW β a) (fun T => zz_p1 T) (q := 0) rfl rfl rfl rfl rfl (Nat.le_of_ble_eq_true rfl) dX5_bears_34 (fun S4 h => ?_)
    obtain ⟨f17, h⟩ := h
    refine zv_sub [3, 4, 2, 1, 0] rfl ?_
    exact lX5_bears_37 g hR f17 _ _ _ _ _ h
  · replace h := h.2 c2
    refine zv_aload_n (pc := 10) g dX5_bears_10 0 rfl rfl ?_
    refine zv_ldc (pc := 11) g wd_744 dX5_bears_11 ?_
    refine zv_cVi (pc := 13) g cw_X5_57 (ctX5_finds h) (by decide) (by decide) zz_p0 (mW β a) (fun T => zz_p1 T) (q := 0) rfl rfl rfl rfl rfl (Nat.le_of_ble_eq_true rfl) dX5_bears_13 (fun v18 S19 h => ?_)
    exact zv_iret (pc := 16) g hR dX5_bears_16 ⟨_, _, rfl, rfl, h⟩
def wX5_fullest_35 (post : Int32 → (MSt) → Prop) : Nat → (MSt) → (Int32) → (Int32) → Prop
  | 0, _, _, _ => False
  | f0 + 1, S, x2, x3 => ((8 : Int32) ≤ x3 → wX5_moveAll_tried (fun S6 => post x2 S6) S 0) ∧ (¬ (8 : Int32) ≤ x3 → wX5_there (fun v7 => wX5_bits (fun v8 => wX5_there (fun v9 => wX5_bits (fun v10 => (v8 ≤ v10 → wX5_fullest_35 post f0 S x2 (x3 + 1)) ∧ (¬ v8 ≤ v10 → wX5_fullest_35 post f0 S x3 (x3 + 1))) v9) S x2 1) v7) S x3 1)
set_option maxRecDepth 100000 in
set_option maxHeartbeats 4000000 in
theorem lX5_fullest_35 {β : zz_B} {Γ : zz_X} {a : Nat → Nat} {post : Int32 → (MSt) → Prop} (g : zG β 4 Γ cX5_fullest RX5 5 117) (hR : zR β Γ (some .int) (fun r w => ∃ (v : Int32) (T : MSt), r = some (.int v) ∧ w = (mW β a) T ∧ post v T)) : ∀ (f0 : Nat) (S : MSt) (x2 : Int32) (x3 : Int32) , wX5_fullest_35 post f0 S x2 x3 → zV β 4 Γ ((mW β a) S) 35 [(0, .ref (a 0)), (2, .int x2), (3, .int x3)] [] := by
  intro f0
  induction f0 with
  | zero => intro S x2 x3 h; exact h.elim
  | succ f0 ih0 =>
    intro S x2 x3 h
    rw [wX5_fullest_35] at h
    refine zv_iload_n (pc := 35) g dX5_fullest_35 2 rfl rfl ?_
    refine zv_bipush (pc := 36) g dX5_fullest_36 (v := 8) (by decide) ?_
    refine zv_icmp_ge (pc := 38) 74 g dX5_fullest_38 rfl (fun c5 => ?_) (fun c5 => ?_)
    · replace h := h.1 c5
      refine zv_aload_n (pc := 74) g dX5_fullest_74 0 rfl rfl ?_
      refine zv_iconst (pc := 75) g dX5_fullest_75 (v := 0) (by decide) ?_
      refine zv_aload_n (pc := 76) g dX5_fullest_76 0 rfl rfl ?_
      refine zv_get (pc := 77) g fl_X5_16 0 rfl rfl dX5_fullest_77 ?_
      refine zv_cVv (pc := 80) g cw_X5_147 (ctX5_moveAll_tried h) (by decide) (by decide) zz_p0 (mW β a) (fun T => zz_p1 T) (q := 0) rfl rfl rfl rfl rfl (Nat.le_of_ble_eq_true rfl) dX5_fullest_80 (fun S6 h => ?_)
      refine zv_iload_n (pc := 83) g dX5_fullest_83 1 rfl rfl ?_
      exact zv_iret (pc := 84) g hR dX5_fullest_84 ⟨_, _, rfl, rfl, h⟩
    · replace h := h.2 c5
      refine zv_aload_n (pc := 41) g dX5_fullest_41 0 rfl rfl ?_
      refine zv_iload_n (pc := 42) g dX5_fullest_42 2 rfl rfl ?_
      refine zv_iconst (pc := 43) g dX5_fullest_43 (v := 1) (by decide) ?_
      refine zv_cVp (pc := 44) g cw_X5_71 (ctX5_there h) (by decide) (by decide) zz_p0 (q := 0) rfl rfl rfl rfl rfl (Nat.le_of_ble_eq_true rfl) dX5_fullest_44 (fun v7 h => ?_)
      refine zv_cSp (pc := 47) g cw_X5_77 (ctX5_bits h) (by decide) (by decide) zz_pN rfl rfl (Nat.le_of_ble_eq_true rfl) dX5_fullest_47 (fun v8 h => ?_)
      refine zv_aload_n (pc := 50) g dX5_fullest_50 0 rfl rfl ?_
      refine zv_iload_n (pc := 51) g dX5_fullest_51 1 rfl rfl ?_
      refine zv_iconst (pc := 52) g dX5_fullest_52 (v := 1) (by decide) ?_
      refine zv_cVp (pc := 53) g cw_X5_71 (ctX5_there h) (by decide) (by decide) zz_p0 (q := 0) rfl rfl rfl rfl rfl (Nat.le_of_ble_eq_true rfl) dX5_fullest_53 (fun v9 h => ?_)
      refine zv_cSp (pc := 56) g cw_X5_77 (ctX5_bits h) (by decide) (by decide) zz_pN rfl rfl (Nat.le_of_ble_eq_true rfl) dX5_fullest_56 (fun v10 h => ?_)
      refine zv_icmp_le (pc := 59) 66 g dX5_fullest_59 rfl (fun c11 => ?_) (fun c11 => ?_)
      · replace h := h.1 c11
        refine zv_iload_n (pc := 66) g dX5_fullest_66 1 rfl rfl ?_
        refine zv_istore_n (pc := 67) 2 [(2, .int x2), (0, .ref (a 0)), (3, .int x3)] g dX5_fullest_67 rfl (by decide) rfl ?_
        refine zv_iinc (pc := 68) 1 [(3, .int (x3 + 1)), (2, .int x2), (0, .ref (a 0))] g dX5_fullest_68 2 rfl (by decide) (by decide) rfl ?_
        refine zv_goto (pc := 71) 35 g dX5_fullest_71 rfl ?_
        refine zv_sub [2, 1, 0] rfl ?_
        exact ih0 _ _ _ h
      · replace h := h.2 c11
        refine zv_iload_n (pc := 62) g dX5_fullest_62 2 rfl rfl ?_
        refine zv_goto (pc := 63) 67 g dX5_fullest_63 rfl ?_
        refine zv_istore_n (pc := 67) 2 [(2, .int x3), (0, .ref (a 0)), (3, .int x3)] g dX5_fullest_67 rfl (by decide) rfl ?_
        refine zv_iinc (pc := 68) 1 [(3, .int (x3 + 1)), (2, .int x3), (0, .ref (a 0))] g dX5_fullest_68 2 rfl (by decide) (by decide) rfl ?_
        refine zv_goto (pc := 71) 35 g dX5_fullest_71 rfl ?_
        refine zv_sub [2, 1, 0] rfl ?_
        exact ih0 _ _ _ h
def wX5_fullest (post : Int32 → (MSt) → Prop) (S : MSt) (x1 : Int32) : Prop := wX5_in (fun v1 => (¬ v1 = 0 → wX5_moveAll_tried (fun S3 => wX5_passes (fun S4 => ∃ f12 : Nat, wX5_fullest_35 post f12 S4 0 1) S3 x1) S 1) ∧ (v1 = 0 → wX5_finds (fun v13 S14 => post v13 S14) S (-1000000001))) x1 0 100
set_option maxRecDepth 100000 in
set_option maxHeartbeats 4000000 in
theorem ctX5_fullest {β : zz_B} {a : Nat → Nat} {post : Int32 → (MSt) → Prop} {S : MSt} {x1 : Int32} (h : wX5_fullest post S x1) : zCi β yX5_fullest cX5_fullest 4 (some .int) 5 117 [.ref (a 0), .int x1] (mW β a) S post := by
  unfold wX5_fullest at h
  unfold zCi
  refine zC.of (by decide) (Nat.le_of_ble_eq_true rfl) ?_
  intro Γ g hR
  show zV β 4 Γ ((mW β a) S) 0 [(0, .ref (a 0)), (1, .int x1)] []
  refine zv_iload_n (pc := 0) g dX5_fullest_0 1 rfl rfl ?_
  refine zv_iconst (pc := 1) g dX5_fullest_1 (v := 0) (by decide) ?_
  refine zv_bipush (pc := 2) g dX5_fullest_2 (v := 100) (by decide) ?_
  refine zv_cSp (pc := 4) g cw_X5_49 (ctX5_in h) (by decide) (by decide) zz_pN rfl rfl (Nat.le_of_ble_eq_true rfl) dX5_fullest_4 (fun v1 h => ?_)
  refine zv_if_ne (pc := 7) 17 g dX5_fullest_7 rfl (fun c2 => ?_) (fun c2 => ?_)
  · replace h := h.1 c2
    refine zv_iconst (pc := 17) g dX5_fullest_17 (v := 0) (by decide) ?_
    refine zv_istore_n (pc := 18) 2 [(2, .int 0), (0, .ref (a 0)), (1, .int x1)] g dX5_fullest_18 rfl (by decide) rfl ?_
    refine zv_aload_n (pc := 19) g dX5_fullest_19 1 rfl rfl ?_
    refine zv_iconst (pc := 20) g dX5_fullest_20 (v := 1) (by decide) ?_
    refine zv_aload_n (pc := 21) g dX5_fullest_21 1 rfl rfl ?_
    refine zv_get (pc := 22) g fl_X5_16 0 rfl rfl dX5_fullest_22 ?_
    refine zv_cVv (pc := 25) g cw_X5_147 (ctX5_moveAll_tried h) (by decide) (by decide) zz_p0 (mW β a) (fun T => zz_p1 T) (q := 0) rfl rfl rfl rfl rfl (Nat.le_of_ble_eq_true rfl) dX5_fullest_25 (fun S3 h => ?_)
    refine zv_aload_n (pc := 28) g dX5_fullest_28 1 rfl rfl ?_
    refine zv_iload_n (pc := 29) g dX5_fullest_29 2 rfl rfl ?_
    refine zv_cVv (pc := 30) g cw_X5_143 (ctX5_passes h) (by decide) (by decide) zz_p0 (mW β a) (fun T => zz_p1 T) (q := 0) rfl rfl rfl rfl rfl (Nat.le_of_ble_eq_true rfl) dX5_fullest_30 (fun S4 h => ?_)
    refine zv_iconst (pc := 33) g dX5_fullest_33 (v := 1) (by decide) ?_
    refine zv_istore_n (pc := 34) 3 [(3, .int 1), (2, .int 0), (0, .ref (a 0)), (1, .int x1)] g dX5_fullest_34 rfl (by decide) rfl ?_
    obtain ⟨f12, h⟩ := h
    refine zv_sub [2, 1, 0] rfl ?_
    exact lX5_fullest_35 g hR f12 _ _ _ h
  · replace h := h.2 c2
    refine zv_aload_n (pc := 10) g dX5_fullest_10 0 rfl rfl ?_
    refine zv_ldc (pc := 11) g wd_744 dX5_fullest_11 ?_
    refine zv_cVi (pc := 13) g cw_X5_57 (ctX5_finds h) (by decide) (by decide) zz_p0 (mW β a) (fun T => zz_p1 T) (q := 0) rfl rfl rfl rfl rfl (Nat.le_of_ble_eq_true rfl) dX5_fullest_13 (fun v13 S14 h => ?_)
    exact zv_iret (pc := 16) g hR dX5_fullest_16 ⟨_, _, rfl, rfl, h⟩
def wX5_feed_38 (post : Int32 → (MSt) → Prop) : Nat → (MSt) → (Int32) → (Int32) → Prop
  | 0, _, _, _ => False
  | f0 + 1, S, x1, x3 => (x3 < 0 → post (m_tapeMany S) S) ∧ (¬ x3 < 0 → vp_in (m_tapeMany S) 120 ∧ (∀ S6 : MSt, S6 = (m_tape_s S (upd (m_tape S) (Int32.toNatClampNeg (m_tapeMany S)) ((x1 >>> ((8 * x3) &&& 31)) &&& 255))) → (∀ S7 : MSt, S7 = (m_tapeMany_s S6 ((m_tapeMany S6) + 1)) → (wX5_feed_38 post f0 S7 x1 (x3 + (-1))))))
set_option maxRecDepth 100000 in
set_option maxHeartbeats 4000000 in
theorem lX5_feed_38 {β : zz_B} {Γ : zz_X} {a : Nat → Nat} {post : Int32 → (MSt) → Prop} (g : zG β 4 Γ cX5_feed RX5 1 22) (hR : zR β Γ (some .int) (fun r w => ∃ (v : Int32) (T : MSt), r = some (.int v) ∧ w = (mW β a) T ∧ post v T)) : ∀ (f0 : Nat) (S : MSt) (x1 : Int32) (x3 : Int32) , wX5_feed_38 post f0 S x1 x3 → zV β 4 Γ ((mW β a) S) 38 [(0, .ref (a 0)), (1, .int x1), (3, .int x3)] [] := by
  intro f0
  induction f0 with
  | zero => intro S x1 x3 h; exact h.elim
  | succ f0 ih0 =>
    intro S x1 x3 h
    rw [wX5_feed_38] at h
    refine zv_iload_n (pc := 38) g dX5_feed_38 2 rfl rfl ?_
    refine zv_if_lt (pc := 39) 77 g dX5_feed_39 rfl (fun c5 => ?_) (fun c5 => ?_)
    · replace h := h.1 c5
      refine zv_aload_n (pc := 77) g dX5_feed_77 0 rfl rfl ?_
      refine zv_get (pc := 78) g fl_X5_174 0 rfl rfl dX5_feed_78 ?_
      exact zv_iret (pc := 81) g hR dX5_feed_81 ⟨_, _, rfl, rfl, h⟩
    · replace h := h.2 c5
      refine zv_aload_n (pc := 42) g dX5_feed_42 0 rfl rfl ?_
      refine zv_get (pc := 43) g fl_X5_22 0 rfl rfl dX5_feed_43 ?_
      refine zv_aload_n (pc := 46) g dX5_feed_46 0 rfl rfl ?_
      refine zv_get (pc := 47) g fl_X5_174 0 rfl rfl dX5_feed_47 ?_
      refine zv_iload_n (pc := 50) g dX5_feed_50 1 rfl rfl ?_
      refine zv_bipush (pc := 51) g dX5_feed_51 (v := 8) (by decide) ?_
      refine zv_iload_n (pc := 53) g dX5_feed_53 2 rfl rfl ?_
      refine zv_imul (pc := 54) g dX5_feed_54 ?_
      refine zv_ishr (pc := 55) g dX5_feed_55 ?_
      refine zv_sipush (pc := 56) g dX5_feed_56 (v := 255) (by decide) ?_
      refine zv_iand (pc := 59) g dX5_feed_59 ?_
      obtain ⟨hi, h⟩ := h
      refine zv_ials (pc := 60) ((mW β a) (m_tape_s S (upd (m_tape S) (Int32.toNatClampNeg (m_tapeMany S)) ((x1 >>> ((8 * x3) &&& 31)) &&& 255)))) g 5 rfl hi rfl dX5_feed_60 ?_
      refine zv_nmS (wf := (mW β a)) (fun S6 eS6 => ?_)
      replace h := h S6 eS6
      refine zv_aload_n (pc := 61) g dX5_feed_61 0 rfl rfl ?_
      refine zv_dup (pc := 62) g dX5_feed_62 rfl ?_
      refine zv_get (pc := 63) g fl_X5_174 0 rfl rfl dX5_feed_63 ?_
      refine zv_iconst (pc := 66) g dX5_feed_66 (v := 1) (by decide) ?_
      refine zv_iadd (pc := 67) g dX5_feed_67 ?_
      refine zv_put (pc := 68) ((mW β a) (m_tapeMany_s S6 ((m_tapeMany S6) + 1))) g fp_X5_174 0 rfl rfl rfl (Nat.le_of_ble_eq_true rfl) rfl dX5_feed_68 ?_
      refine zv_nmS (wf := (mW β a)) (fun S7 eS7 => ?_)
      replace h := h S7 eS7
      refine zv_iinc (pc := 71) (-1) [(3, .int (x3 + (-1))), (0, .ref (a 0)), (1, .int x1)] g dX5_feed_71 2 rfl (by decide) (by decide) rfl ?_
      refine zv_goto (pc := 74) 38 g dX5_feed_74 rfl ?_
      refine zv_sub [1, 2, 0] rfl ?_
      exact ih0 _ _ _ h
def wX5_feed (post : Int32 → (MSt) → Prop) (S : MSt) (x1 : Int32) (x2 : Int32) : Prop := wX5_in (fun v1 => (¬ v1 = 0 → (((m_tapeMany S) + x2) ≤ (120 : Int32) → ∀ y4 : Int32, y4 = (x2 - 1) → (∃ f8 : Nat, wX5_feed_38 post f8 S x1 y4)) ∧ (¬ ((m_tapeMany S) + x2) ≤ (120 : Int32) → wX5_finds (fun v9 S10 => post v9 S10) S (-1000000002))) ∧ (v1 = 0 → wX5_finds (fun v11 S12 => post v11 S12) S (-1000000001))) x2 1 4
set_option maxRecDepth 100000 in
set_option maxHeartbeats 4000000 in
theorem ctX5_feed {β : zz_B} {a : Nat → Nat} {post : Int32 → (MSt) → Prop} {S : MSt} {x1 : Int32} {x2 : Int32} (h : wX5_feed post S x1 x2) : zCi β yX5_feed cX5_feed 4 (some .int) 1 22 [.ref (a 0), .int x1, .int x2] (mW β a) S post := by
  unfold wX5_feed at h
  unfold zCi
  refine zC.of (by decide) (Nat.le_of_ble_eq_true rfl) ?_
  intro Γ g hR
  show zV β 4 Γ ((mW β a) S) 0 [(0, .ref (a 0)), (1, .int x1), (2, .int x2)] []
  refine zv_iload_n (pc := 0) g dX5_feed_0 2 rfl rfl ?_
  refine zv_iconst (pc := 1) g dX5_feed_1 (v := 1) (by decide) ?_
  refine zv_iconst (pc := 2) g dX5_feed_2 (v := 4) (by decide) ?_
  refine zv_cSp (pc := 3) g cw_X5_49 (ctX5_in h) (by decide) (by decide) zz_pN rfl rfl (Nat.le_of_ble_eq_true rfl) dX5_feed_3 (fun v1 h => ?_)
  refine zv_if_ne (pc := 6) 16 g dX5_feed_6 rfl (fun c2 => ?_) (fun c2 => ?_)
  · replace h := h.1 c2
    refine zv_aload_n (pc := 16) g dX5_feed_16 0 rfl rfl ?_
    refine zv_get (pc := 17) g fl_X5_174 0 rfl rfl dX5_feed_17 ?_
    refine zv_iload_n (pc := 20) g dX5_feed_20 2 rfl rfl ?_
    refine zv_iadd (pc := 21) g dX5_feed_21 ?_
    refine zv_bipush (pc := 22) g dX5_feed_22 (v := 120) (by decide) ?_
    refine zv_icmp_le (pc := 24) 34 g dX5_feed_24 rfl (fun c3 => ?_) (fun c3 => ?_)
    · replace h := h.1 c3
      refine zv_iload_n (pc := 34) g dX5_feed_34 2 rfl rfl ?_
      refine zv_iconst (pc := 35) g dX5_feed_35 (v := 1) (by decide) ?_
      refine zv_isub (pc := 36) g dX5_feed_36 ?_
      refine zv_topi (fun y4 ey4 => ?_)
      replace h := h y4 ey4
      refine zv_istore_n (pc := 37) 3 [(3, .int y4), (0, .ref (a 0)), (1, .int x1), (2, .int x2)] g dX5_feed_37 rfl (by decide) rfl ?_
      obtain ⟨f8, h⟩ := h
      refine zv_sub [1, 2, 0] rfl ?_
      exact lX5_feed_38 g hR f8 _ _ _ h
    · replace h := h.2 c3
      refine zv_aload_n (pc := 27) g dX5_feed_27 0 rfl rfl ?_
      refine zv_ldc (pc := 28) g wd_803 dX5_feed_28 ?_
      refine zv_cVi (pc := 30) g cw_X5_57 (ctX5_finds h) (by decide) (by decide) zz_p0 (mW β a) (fun T => zz_p1 T) (q := 0) rfl rfl rfl rfl rfl (Nat.le_of_ble_eq_true rfl) dX5_feed_30 (fun v9 S10 h => ?_)
      exact zv_iret (pc := 33) g hR dX5_feed_33 ⟨_, _, rfl, rfl, h⟩
  · replace h := h.2 c2
    refine zv_aload_n (pc := 9) g dX5_feed_9 0 rfl rfl ?_
    refine zv_ldc (pc := 10) g wd_744 dX5_feed_10 ?_
    refine zv_cVi (pc := 12) g cw_X5_57 (ctX5_finds h) (by decide) (by decide) zz_p0 (mW β a) (fun T => zz_p1 T) (q := 0) rfl rfl rfl rfl rfl (Nat.le_of_ble_eq_true rfl) dX5_feed_12 (fun v11 S12 h => ?_)
    exact zv_iret (pc := 15) g hR dX5_feed_15 ⟨_, _, rfl, rfl, h⟩
def wX5_wipe (post : Int32 → (MSt) → Prop) (S : MSt) : Prop := ∀ y1 : Int32, y1 = (m_tapeMany S) → (∀ S2 : MSt, S2 = (m_tapeMany_s S 0) → (post y1 S2))
set_option maxRecDepth 100000 in
set_option maxHeartbeats 4000000 in
theorem ctX5_wipe {β : zz_B} {a : Nat → Nat} {post : Int32 → (MSt) → Prop} {S : MSt} (h : wX5_wipe post S) : zCi β yX5_wipe cX5_wipe 2 (some .int) 0 0 [.ref (a 0)] (mW β a) S post := by
  unfold wX5_wipe at h
  unfold zCi
  refine zC.of (by decide) (Nat.le_of_ble_eq_true rfl) ?_
  intro Γ g hR
  show zV β 2 Γ ((mW β a) S) 0 [(0, .ref (a 0))] []
  refine zv_aload_n (pc := 0) g dX5_wipe_0 0 rfl rfl ?_
  refine zv_get (pc := 1) g fl_X5_174 0 rfl rfl dX5_wipe_1 ?_
  refine zv_topi (fun y1 ey1 => ?_)
  replace h := h y1 ey1
  refine zv_istore_n (pc := 4) 1 [(1, .int y1), (0, .ref (a 0))] g dX5_wipe_4 rfl (by decide) rfl ?_
  refine zv_aload_n (pc := 5) g dX5_wipe_5 1 rfl rfl ?_
  refine zv_iconst (pc := 6) g dX5_wipe_6 (v := 0) (by decide) ?_
  refine zv_put (pc := 7) ((mW β a) (m_tapeMany_s S 0)) g fp_X5_174 0 rfl rfl rfl (Nat.le_of_ble_eq_true rfl) rfl dX5_wipe_7 ?_
  refine zv_nmS (wf := (mW β a)) (fun S2 eS2 => ?_)
  replace h := h S2 eS2
  refine zv_iload_n (pc := 10) g dX5_wipe_10 0 rfl rfl ?_
  exact zv_iret (pc := 11) g hR dX5_wipe_11 ⟨_, _, rfl, rfl, h⟩
def wX5_byteAt (post : Int32 → Prop) (S : MSt) (x1 : Int32) : Prop := ((m_tapeMany S) ≤ x1 → post (-1)) ∧ (¬ (m_tapeMany S) ≤ x1 → vp_in x1 120 ∧ (post (m_tape S (Int32.toNatClampNeg x1))))
set_option maxRecDepth 100000 in
set_option maxHeartbeats 4000000 in
theorem ctX5_byteAt {β : zz_B} {a : Nat → Nat} {post : Int32 → Prop} {S : MSt} {x1 : Int32} (h : wX5_byteAt post S x1) : zCp β yX5_byteAt cX5_byteAt 2 (some .int) 0 0 [.ref (a 0), .int x1] ((mW β a) S) post := by
  unfold wX5_byteAt at h
  unfold zCp
  refine zC.of (by decide) (Nat.le_of_ble_eq_true rfl) ?_
  intro Γ g hR
  show zV β 2 Γ ((mW β a) S) 0 [(0, .ref (a 0)), (1, .int x1)] []
  refine zv_iload_n (pc := 0) g dX5_byteAt_0 1 rfl rfl ?_
  refine zv_aload_n (pc := 1) g dX5_byteAt_1 0 rfl rfl ?_
  refine zv_get (pc := 2) g fl_X5_174 0 rfl rfl dX5_byteAt_2 ?_
  refine zv_icmp_ge (pc := 5) 17 g dX5_byteAt_5 rfl (fun c1 => ?_) (fun c1 => ?_)
  · replace h := h.1 c1
    refine zv_iconst (pc := 17) g dX5_byteAt_17 (v := (-1)) (by decide) ?_
    exact zv_iret (pc := 18) g hR dX5_byteAt_18 ⟨_, rfl, rfl, h⟩
  · replace h := h.2 c1
    refine zv_aload_n (pc := 8) g dX5_byteAt_8 0 rfl rfl ?_
    refine zv_get (pc := 9) g fl_X5_22 0 rfl rfl dX5_byteAt_9 ?_
    refine zv_iload_n (pc := 12) g dX5_byteAt_12 1 rfl rfl ?_
    obtain ⟨hi, h⟩ := h
    refine zv_iald (pc := 13) g 5 rfl hi dX5_byteAt_13 ?_
    refine zv_goto (pc := 14) 18 g dX5_byteAt_14 rfl ?_
    exact zv_iret (pc := 18) g hR dX5_byteAt_18 ⟨_, rfl, rfl, h⟩
def wX5_isLetter (post : Int32 → Prop) (x0 : Int32) : Prop := wX5_in (fun v1 => (v1 = 0 ∨ v1 = 1) ∧ post v1) x0 97 122
set_option maxRecDepth 100000 in
set_option maxHeartbeats 4000000 in
theorem ctX5_isLetter {β : zz_B} {post : Int32 → Prop} {x0 : Int32} (h : wX5_isLetter post x0) : zCp β yX5_isLetter cX5_isLetter 1 (some .boolean) 1 22 [.int x0] [] post := by
  unfold wX5_isLetter at h
  unfold zCp
  refine zC.of (by decide) (Nat.le_of_ble_eq_true rfl) ?_
  intro Γ g hR
  show zV β 1 Γ [] 0 [(0, .int x0)] []
  refine zv_iload_n (pc := 0) g dX5_isLetter_0 0 rfl rfl ?_
  refine zv_bipush (pc := 1) g dX5_isLetter_1 (v := 97) (by decide) ?_
  refine zv_bipush (pc := 3) g dX5_isLetter_3 (v := 122) (by decide) ?_
  refine zv_cSp (pc := 5) g cw_X5_49 (ctX5_in h) (by decide) (by decide) zz_pN rfl rfl (Nat.le_of_ble_eq_true rfl) dX5_isLetter_5 (fun v1 h => ?_)
  exact zv_zret (pc := 8) g hR (zz_nb h.1).1 dX5_isLetter_8 ⟨_, rfl, rfl, h.2⟩
def wX5_isDigit (post : Int32 → Prop) (x0 : Int32) : Prop := wX5_in (fun v1 => (v1 = 0 ∨ v1 = 1) ∧ post v1) x0 48 57
set_option maxRecDepth 100000 in
set_option maxHeartbeats 4000000 in
theorem ctX5_isDigit {β : zz_B} {post : Int32 → Prop} {x0 : Int32} (h : wX5_isDigit post x0) : zCp β yX5_isDigit cX5_isDigit 1 (some .boolean) 1 22 [.int x0] [] post := by
  unfold wX5_isDigit at h
  unfold zCp
  refine zC.of (by decide) (Nat.le_of_ble_eq_true rfl) ?_
  intro Γ g hR
  show zV β 1 Γ [] 0 [(0, .int x0)] []
  refine zv_iload_n (pc := 0) g dX5_isDigit_0 0 rfl rfl ?_
  refine zv_bipush (pc := 1) g dX5_isDigit_1 (v := 48) (by decide) ?_
  refine zv_bipush (pc := 3) g dX5_isDigit_3 (v := 57) (by decide) ?_
  refine zv_cSp (pc := 5) g cw_X5_49 (ctX5_in h) (by decide) (by decide) zz_pN rfl rfl (Nat.le_of_ble_eq_true rfl) dX5_isDigit_5 (fun v1 h => ?_)
  exact zv_zret (pc := 8) g hR (zz_nb h.1).1 dX5_isDigit_8 ⟨_, rfl, rfl, h.2⟩
def wX5_advance_207 (post : (MSt) → Prop) : Nat → (MSt) → Prop
  | 0, _ => False
  | f0 + 1, S => (¬ (m_sort S) = (2 : Int32) → post S) ∧ ((m_sort S) = (2 : Int32) → wX5_byteAt (fun v18 => wX5_isDigit (fun v19 => (v19 = 0 → post S) ∧ (¬ v19 = 0 → ((m_value S) ≤ (999 : Int32) → wX5_byteAt (fun v22 => ∀ S23 : MSt, S23 = (m_value_s S (((10 * (m_value S)) + v22) - 48)) → (∀ S24 : MSt, S24 = (m_tokenEnds_s S23 ((m_tokenEnds S23) + 1)) → (wX5_advance_207 post f0 S24))) S (m_tokenEnds S)) ∧ (¬ (m_value S) ≤ (999 : Int32) → ∀ S25 : MSt, S25 = (m_value_s S 10000) → (∀ S26 : MSt, S26 = (m_tokenEnds_s S25 ((m_tokenEnds S25) + 1)) → (wX5_advance_207 post f0 S26))))) v18) S (m_tokenEnds S))
set_option maxRecDepth 100000 in
set_option maxHeartbeats 4000000 in
theorem lX5_advance_207 {β : zz_B} {Γ : zz_X} {a : Nat → Nat} {post : (MSt) → Prop} (g : zG β 2 Γ cX5_advance RX5 2 42) (hR : zR β Γ none (fun r w => ∃ T : MSt, r = none ∧ w = (mW β a) T ∧ post T)) : ∀ (f0 : Nat) (S : MSt) , wX5_advance_207 post f0 S → zV β 2 Γ ((mW β a) S) 207 [(0, .ref (a 0))] [] := by
  intro f0
  induction f0 with
  | zero => intro S h; exact h.elim
  | succ f0 ih0 =>
    intro S h
    rw [wX5_advance_207] at h
    refine zv_aload_n (pc := 207) g dX5_advance_207 0 rfl rfl ?_
    refine zv_get (pc := 208) g fl_X5_193 0 rfl rfl dX5_advance_208 ?_
    refine zv_iconst (pc := 211) g dX5_advance_211 (v := 2) (by decide) ?_
    refine zv_icmp_ne (pc := 212) 281 g dX5_advance_212 rfl (fun c17 => ?_) (fun c17 => ?_)
    · replace h := h.1 c17
      exact zv_vret (pc := 281) g hR dX5_advance_281 ⟨_, rfl, rfl, h⟩
    · replace h := h.2 c17
      refine zv_aload_n (pc := 215) g dX5_advance_215 0 rfl rfl ?_
      refine zv_aload_n (pc := 216) g dX5_advance_216 0 rfl rfl ?_
      refine zv_get (pc := 217) g fl_X5_178 0 rfl rfl dX5_advance_217 ?_
      refine zv_cVp (pc := 220) g cw_X5_184 (ctX5_byteAt h) (by decide) (by decide) zz_p0 (q := 0) rfl rfl rfl rfl rfl (Nat.le_of_ble_eq_true rfl) dX5_advance_220 (fun v18 h => ?_)
      refine zv_cSp (pc := 223) g cw_X5_190 (ctX5_isDigit h) (by decide) (by decide) zz_pN rfl rfl (Nat.le_of_ble_eq_true rfl) dX5_advance_223 (fun v19 h => ?_)
      refine zv_if_eq (pc := 226) 281 g dX5_advance_226 rfl (fun c20 => ?_) (fun c20 => ?_)
      · replace h := h.1 c20
        exact zv_vret (pc := 281) g hR dX5_advance_281 ⟨_, rfl, rfl, h⟩
      · replace h := h.2 c20
        refine zv_aload_n (pc := 229) g dX5_advance_229 0 rfl rfl ?_
        refine zv_aload_n (pc := 230) g dX5_advance_230 0 rfl rfl ?_
        refine zv_get (pc := 231) g fl_X5_200 0 rfl rfl dX5_advance_231 ?_
        refine zv_sipush (pc := 234) g dX5_advance_234 (v := 999) (by decide) ?_
        refine zv_icmp_le (pc := 237) 246 g dX5_advance_237 rfl (fun c21 => ?_) (fun c21 => ?_)
        · replace h := h.1 c21
          refine zv_bipush (pc := 246) g dX5_advance_246 (v := 10) (by decide) ?_
          refine zv_aload_n (pc := 248) g dX5_advance_248 0 rfl rfl ?_
          refine zv_get (pc := 249) g fl_X5_200 0 rfl rfl dX5_advance_249 ?_
          refine zv_imul (pc := 252) g dX5_advance_252 ?_
          refine zv_aload_n (pc := 253) g dX5_advance_253 0 rfl rfl ?_
          refine zv_aload_n (pc := 254) g dX5_advance_254 0 rfl rfl ?_
          refine zv_get (pc := 255) g fl_X5_178 0 rfl rfl dX5_advance_255 ?_
          refine zv_cVp (pc := 258) g cw_X5_184 (ctX5_byteAt h) (by decide) (by decide) zz_p0 (q := 0) rfl rfl rfl rfl rfl (Nat.le_of_ble_eq_true rfl) dX5_advance_258 (fun v22 h => ?_)
          refine zv_iadd (pc := 261) g dX5_advance_261 ?_
          refine zv_bipush (pc := 262) g dX5_advance_262 (v := 48) (by decide) ?_
          refine zv_isub (pc := 264) g dX5_advance_264 ?_
          refine zv_put (pc := 265) ((mW β a) (m_value_s S (((10 * (m_value S)) + v22) - 48))) g fp_X5_200 0 rfl rfl rfl (Nat.le_of_ble_eq_true rfl) rfl dX5_advance_265 ?_
          refine zv_nmS (wf := (mW β a)) (fun S23 eS23 => ?_)
          replace h := h S23 eS23
          refine zv_aload_n (pc := 268) g dX5_advance_268 0 rfl rfl ?_
          refine zv_dup (pc := 269) g dX5_advance_269 rfl ?_
          refine zv_get (pc := 270) g fl_X5_178 0 rfl rfl dX5_advance_270 ?_
          refine zv_iconst (pc := 273) g dX5_advance_273 (v := 1) (by decide) ?_
          refine zv_iadd (pc := 274) g dX5_advance_274 ?_
          refine zv_put (pc := 275) ((mW β a) (m_tokenEnds_s S23 ((m_tokenEnds S23) + 1))) g fp_X5_178 0 rfl rfl rfl (Nat.le_of_ble_eq_true rfl) rfl dX5_advance_275 ?_
          refine zv_nmS (wf := (mW β a)) (fun S24 eS24 => ?_)
          replace h := h S24 eS24
          refine zv_goto (pc := 278) 207 g dX5_advance_278 rfl ?_
          refine zv_sub [0] rfl ?_
          exact ih0 _ h
        · replace h := h.2 c21
          refine zv_sipush (pc := 240) g dX5_advance_240 (v := 10000) (by decide) ?_
          refine zv_goto (pc := 243) 265 g dX5_advance_243 rfl ?_
          refine zv_put (pc := 265) ((mW β a) (m_value_s S 10000)) g fp_X5_200 0 rfl rfl rfl (Nat.le_of_ble_eq_true rfl) rfl dX5_advance_265 ?_
          refine zv_nmS (wf := (mW β a)) (fun S25 eS25 => ?_)
          replace h := h S25 eS25
          refine zv_aload_n (pc := 268) g dX5_advance_268 0 rfl rfl ?_
          refine zv_dup (pc := 269) g dX5_advance_269 rfl ?_
          refine zv_get (pc := 270) g fl_X5_178 0 rfl rfl dX5_advance_270 ?_
          refine zv_iconst (pc := 273) g dX5_advance_273 (v := 1) (by decide) ?_
          refine zv_iadd (pc := 274) g dX5_advance_274 ?_
          refine zv_put (pc := 275) ((mW β a) (m_tokenEnds_s S25 ((m_tokenEnds S25) + 1))) g fp_X5_178 0 rfl rfl rfl (Nat.le_of_ble_eq_true rfl) rfl dX5_advance_275 ?_
          refine zv_nmS (wf := (mW β a)) (fun S26 eS26 => ?_)
          replace h := h S26 eS26
          refine zv_goto (pc := 278) 207 g dX5_advance_278 rfl ?_
          refine zv_sub [0] rfl ?_
          exact ih0 _ h
def wX5_advance_126 (post : (MSt) → Prop) : Nat → (MSt) → Prop
  | 0, _ => False
  | f0 + 1, S => (¬ (m_sort S) = (1 : Int32) → ∃ f27 : Nat, wX5_advance_207 post f27 S) ∧ ((m_sort S) = (1 : Int32) → wX5_byteAt (fun v28 => wX5_isLetter (fun v29 => (v29 = 0 → ∃ f31 : Nat, wX5_advance_207 post f31 S) ∧ (¬ v29 = 0 → ((12 : Int32) ≤ ((m_tokenEnds S) - (m_begins S)) → ∀ S33 : MSt, S33 = (m_word_s S (-1)) → (∀ S34 : MSt, S34 = (m_tokenEnds_s S33 ((m_tokenEnds S33) + 1)) → (wX5_advance_126 post f0 S34))) ∧ (¬ (12 : Int32) ≤ ((m_tokenEnds S) - (m_begins S)) → wX5_byteAt (fun v35 => ∀ S36 : MSt, S36 = (m_word_s S (((27 * (m_word S)) + (Int32.toInt64 v35)) - 96)) → (∀ S37 : MSt, S37 = (m_tokenEnds_s S36 ((m_tokenEnds S36) + 1)) → (wX5_advance_126 post f0 S37))) S (m_tokenEnds S)))) v28) S (m_tokenEnds S))
set_option maxRecDepth 100000 in
set_option maxHeartbeats 4000000 in
theorem lX5_advance_126 {β : zz_B} {Γ : zz_X} {a : Nat → Nat} {post : (MSt) → Prop} (g : zG β 2 Γ cX5_advance RX5 2 42) (hR : zR β Γ none (fun r w => ∃ T : MSt, r = none ∧ w = (mW β a) T ∧ post T)) : ∀ (f0 : Nat) (S : MSt) , wX5_advance_126 post f0 S → zV β 2 Γ ((mW β a) S) 126 [(0, .ref (a 0))] [] := by
  intro f0
  induction f0 with
  | zero => intro S h; exact h.elim
  | succ f0 ih0 =>
    intro S h
    rw [wX5_advance_126] at h
    refine zv_aload_n (pc := 126) g dX5_advance_126 0 rfl rfl ?_
    refine zv_get (pc := 127) g fl_X5_193 0 rfl rfl dX5_advance_127 ?_
    refine zv_iconst (pc := 130) g dX5_advance_130 (v := 1) (by decide) ?_
    refine zv_icmp_ne (pc := 131) 207 g dX5_advance_131 rfl (fun c16 => ?_) (fun c16 => ?_)
    · replace h := h.1 c16
      obtain ⟨f27, h⟩ := h
      refine zv_sub [0] rfl ?_
      exact lX5_advance_207 g hR f27 _ h
    · replace h := h.2 c16
      refine zv_aload_n (pc := 134) g dX5_advance_134 0 rfl rfl ?_
      refine zv_aload_n (pc := 135) g dX5_advance_135 0 rfl rfl ?_
      refine zv_get (pc := 136) g fl_X5_178 0 rfl rfl dX5_advance_136 ?_
      refine zv_cVp (pc := 139) g cw_X5_184 (ctX5_byteAt h) (by decide) (by decide) zz_p0 (q := 0) rfl rfl rfl rfl rfl (Nat.le_of_ble_eq_true rfl) dX5_advance_139 (fun v28 h => ?_)
      refine zv_cSp (pc := 142) g cw_X5_187 (ctX5_isLetter h) (by decide) (by decide) zz_pN rfl rfl (Nat.le_of_ble_eq_true rfl) dX5_advance_142 (fun v29 h => ?_)
      refine zv_if_eq (pc := 145) 207 g dX5_advance_145 rfl (fun c30 => ?_) (fun c30 => ?_)
      · replace h := h.1 c30
        obtain ⟨f31, h⟩ := h
        refine zv_sub [0] rfl ?_
        exact lX5_advance_207 g hR f31 _ h
      · replace h := h.2 c30
        refine zv_aload_n (pc := 148) g dX5_advance_148 0 rfl rfl ?_
        refine zv_aload_n (pc := 149) g dX5_advance_149 0 rfl rfl ?_
        refine zv_get (pc := 150) g fl_X5_178 0 rfl rfl dX5_advance_150 ?_
        refine zv_aload_n (pc := 153) g dX5_advance_153 0 rfl rfl ?_
        refine zv_get (pc := 154) g fl_X5_181 0 rfl rfl dX5_advance_154 ?_
        refine zv_isub (pc := 157) g dX5_advance_157 ?_
        refine zv_bipush (pc := 158) g dX5_advance_158 (v := 12) (by decide) ?_
        refine zv_icmp_ge (pc := 160) 188 g dX5_advance_160 rfl (fun c32 => ?_) (fun c32 => ?_)
        · replace h := h.1 c32
          refine zv_ldc2 (pc := 188) g wd_1006 dX5_advance_188 ?_
          refine zv_put (pc := 191) ((mW β a) (m_word_s S (-1))) g fp_X5_196 0 rfl rfl rfl (Nat.le_of_ble_eq_true rfl) rfl dX5_advance_191 ?_
          refine zv_nmS (wf := (mW β a)) (fun S33 eS33 => ?_)
          replace h := h S33 eS33
          refine zv_aload_n (pc := 194) g dX5_advance_194 0 rfl rfl ?_
          refine zv_dup (pc := 195) g dX5_advance_195 rfl ?_
          refine zv_get (pc := 196) g fl_X5_178 0 rfl rfl dX5_advance_196 ?_
          refine zv_iconst (pc := 199) g dX5_advance_199 (v := 1) (by decide) ?_
          refine zv_iadd (pc := 200) g dX5_advance_200 ?_
          refine zv_put (pc := 201) ((mW β a) (m_tokenEnds_s S33 ((m_tokenEnds S33) + 1))) g fp_X5_178 0 rfl rfl rfl (Nat.le_of_ble_eq_true rfl) rfl dX5_advance_201 ?_
          refine zv_nmS (wf := (mW β a)) (fun S34 eS34 => ?_)
          replace h := h S34 eS34
          refine zv_goto (pc := 204) 126 g dX5_advance_204 rfl ?_
          refine zv_sub [0] rfl ?_
          exact ih0 _ h
        · replace h := h.2 c32
          refine zv_ldc2 (pc := 163) g wd_1004 dX5_advance_163 ?_
          refine zv_aload_n (pc := 166) g dX5_advance_166 0 rfl rfl ?_
          refine zv_get (pc := 167) g fl_X5_196 0 rfl rfl dX5_advance_167 ?_
          refine zv_lmul (pc := 170) g dX5_advance_170 ?_
          refine zv_aload_n (pc := 171) g dX5_advance_171 0 rfl rfl ?_
          refine zv_aload_n (pc := 172) g dX5_advance_172 0 rfl rfl ?_
          refine zv_get (pc := 173) g fl_X5_178 0 rfl rfl dX5_advance_173 ?_
          refine zv_cVp (pc := 176) g cw_X5_184 (ctX5_byteAt h) (by decide) (by decide) zz_p0 (q := 0) rfl rfl rfl rfl rfl (Nat.le_of_ble_eq_true rfl) dX5_advance_176 (fun v35 h => ?_)
          refine zv_i2l (pc := 179) g dX5_advance_179 ?_
          refine zv_ladd (pc := 180) g dX5_advance_180 ?_
          refine zv_ldc2 (pc := 181) g wd_1005 dX5_advance_181 ?_
          refine zv_lsub (pc := 184) g dX5_advance_184 ?_
          refine zv_goto (pc := 185) 191 g dX5_advance_185 rfl ?_
          refine zv_put (pc := 191) ((mW β a) (m_word_s S (((27 * (m_word S)) + (Int32.toInt64 v35)) - 96))) g fp_X5_196 0 rfl rfl rfl (Nat.le_of_ble_eq_true rfl) rfl dX5_advance_191 ?_
          refine zv_nmS (wf := (mW β a)) (fun S36 eS36 => ?_)
          replace h := h S36 eS36
          refine zv_aload_n (pc := 194) g dX5_advance_194 0 rfl rfl ?_
          refine zv_dup (pc := 195) g dX5_advance_195 rfl ?_
          refine zv_get (pc := 196) g fl_X5_178 0 rfl rfl dX5_advance_196 ?_
          refine zv_iconst (pc := 199) g dX5_advance_199 (v := 1) (by decide) ?_
          refine zv_iadd (pc := 200) g dX5_advance_200 ?_
          refine zv_put (pc := 201) ((mW β a) (m_tokenEnds_s S36 ((m_tokenEnds S36) + 1))) g fp_X5_178 0 rfl rfl rfl (Nat.le_of_ble_eq_true rfl) rfl dX5_advance_201 ?_
          refine zv_nmS (wf := (mW β a)) (fun S37 eS37 => ?_)
          replace h := h S37 eS37
          refine zv_goto (pc := 204) 126 g dX5_advance_204 rfl ?_
          refine zv_sub [0] rfl ?_
          exact ih0 _ h
def wX5_advance_83 (post : (MSt) → Prop) (S : MSt) (x1 : Int32) (s0 : Int32) : Prop := ∀ S11 : MSt, S11 = (m_sort_s S s0) → (∀ S12 : MSt, S12 = (m_word_s S11 0) → ((¬ (m_sort S12) = (2 : Int32) → ∀ S14 : MSt, S14 = (m_value_s S12 x1) → ((¬ (m_sort S14) = (3 : Int32) → ∃ f38 : Nat, wX5_advance_126 post f38 S14) ∧ ((m_sort S14) = (3 : Int32) → ∀ S39 : MSt, S39 = (m_tokenEnds_s S14 ((m_tokenEnds S14) + 1)) → (∃ f40 : Nat, wX5_advance_126 post f40 S39)))) ∧ ((m_sort S12) = (2 : Int32) → ∀ S41 : MSt, S41 = (m_value_s S12 0) → ((¬ (m_sort S41) = (3 : Int32) → ∃ f43 : Nat, wX5_advance_126 post f43 S41) ∧ ((m_sort S41) = (3 : Int32) → ∀ S44 : MSt, S44 = (m_tokenEnds_s S41 ((m_tokenEnds S41) + 1)) → (∃ f45 : Nat, wX5_advance_126 post f45 S44))))))
set_option maxRecDepth 100000 in
set_option maxHeartbeats 4000000 in
theorem lX5_advance_83 {β : zz_B} {Γ : zz_X} {a : Nat → Nat} {post : (MSt) → Prop} (g : zG β 2 Γ cX5_advance RX5 2 42) (hR : zR β Γ none (fun r w => ∃ T : MSt, r = none ∧ w = (mW β a) T ∧ post T)) (S : MSt) (x1 : Int32) (s0 : Int32) (h : wX5_advance_83 post S x1 s0) : zV β 2 Γ ((mW β a) S) 83 [(0, .ref (a 0)), (1, .int x1)] [.int s0, .ref (a 0)] := by
  unfold wX5_advance_83 at h
  refine zv_put (pc := 83) ((mW β a) (m_sort_s S s0)) g fp_X5_193 0 rfl rfl rfl (Nat.le_of_ble_eq_true rfl) rfl dX5_advance_83 ?_
  refine zv_nmS (wf := (mW β a)) (fun S11 eS11 => ?_)
  replace h := h S11 eS11
  refine zv_aload_n (pc := 86) g dX5_advance_86 0 rfl rfl ?_
  refine zv_lconst (pc := 87) g dX5_advance_87 (v := 0) (by decide) ?_
  refine zv_put (pc := 88) ((mW β a) (m_word_s S11 0)) g fp_X5_196 0 rfl rfl rfl (Nat.le_of_ble_eq_true rfl) rfl dX5_advance_88 ?_
  refine zv_nmS (wf := (mW β a)) (fun S12 eS12 => ?_)
  replace h := h S12 eS12
  refine zv_aload_n (pc := 91) g dX5_advance_91 0 rfl rfl ?_
  refine zv_aload_n (pc := 92) g dX5_advance_92 0 rfl rfl ?_
  refine zv_get (pc := 93) g fl_X5_193 0 rfl rfl dX5_advance_93 ?_
  refine zv_iconst (pc := 96) g dX5_advance_96 (v := 2) (by decide) ?_
  refine zv_icmp_ne (pc := 97) 104 g dX5_advance_97 rfl (fun c13 => ?_) (fun c13 => ?_)
  · replace h := h.1 c13
    refine zv_iload_n (pc := 104) g dX5_advance_104 1 rfl rfl ?_
    refine zv_put (pc := 105) ((mW β a) (m_value_s S12 x1)) g fp_X5_200 0 rfl rfl rfl (Nat.le_of_ble_eq_true rfl) rfl dX5_advance_105 ?_
    refine zv_nmS (wf := (mW β a)) (fun S14 eS14 => ?_)
    replace h := h S14 eS14
    refine zv_aload_n (pc := 108) g dX5_advance_108 0 rfl rfl ?_
    refine zv_get (pc := 109) g fl_X5_193 0 rfl rfl dX5_advance_109 ?_
    refine zv_iconst (pc := 112) g dX5_advance_112 (v := 3) (by decide) ?_
    refine zv_icmp_ne (pc := 113) 126 g dX5_advance_113 rfl (fun c15 => ?_) (fun c15 => ?_)
    · replace h := h.1 c15
      obtain ⟨f38, h⟩ := h
      refine zv_sub [0] rfl ?_
      exact lX5_advance_126 g hR f38 _ h
    · replace h := h.2 c15
      refine zv_aload_n (pc := 116) g dX5_advance_116 0 rfl rfl ?_
      refine zv_dup (pc := 117) g dX5_advance_117 rfl ?_
      refine zv_get (pc := 118) g fl_X5_178 0 rfl rfl dX5_advance_118 ?_
      refine zv_iconst (pc := 121) g dX5_advance_121 (v := 1) (by decide) ?_
      refine zv_iadd (pc := 122) g dX5_advance_122 ?_
      refine zv_put (pc := 123) ((mW β a) (m_tokenEnds_s S14 ((m_tokenEnds S14) + 1))) g fp_X5_178 0 rfl rfl rfl (Nat.le_of_ble_eq_true rfl) rfl dX5_advance_123 ?_
      refine zv_nmS (wf := (mW β a)) (fun S39 eS39 => ?_)
      replace h := h S39 eS39
      obtain ⟨f40, h⟩ := h
      refine zv_sub [0] rfl ?_
      exact lX5_advance_126 g hR f40 _ h
  · replace h := h.2 c13
    refine zv_iconst (pc := 100) g dX5_advance_100 (v := 0) (by decide) ?_
    refine zv_goto (pc := 101) 105 g dX5_advance_101 rfl ?_
    refine zv_put (pc := 105) ((mW β a) (m_value_s S12 0)) g fp_X5_200 0 rfl rfl rfl (Nat.le_of_ble_eq_true rfl) rfl dX5_advance_105 ?_
    refine zv_nmS (wf := (mW β a)) (fun S41 eS41 => ?_)
    replace h := h S41 eS41
    refine zv_aload_n (pc := 108) g dX5_advance_108 0 rfl rfl ?_
    refine zv_get (pc := 109) g fl_X5_193 0 rfl rfl dX5_advance_109 ?_
    refine zv_iconst (pc := 112) g dX5_advance_112 (v := 3) (by decide) ?_
    refine zv_icmp_ne (pc := 113) 126 g dX5_advance_113 rfl (fun c42 => ?_) (fun c42 => ?_)
    · replace h := h.1 c42
      obtain ⟨f43, h⟩ := h
      refine zv_sub [0] rfl ?_
      exact lX5_advance_126 g hR f43 _ h
    · replace h := h.2 c42
      refine zv_aload_n (pc := 116) g dX5_advance_116 0 rfl rfl ?_
      refine zv_dup (pc := 117) g dX5_advance_117 rfl ?_
      refine zv_get (pc := 118) g fl_X5_178 0 rfl rfl dX5_advance_118 ?_
      refine zv_iconst (pc := 121) g dX5_advance_121 (v := 1) (by decide) ?_
      refine zv_iadd (pc := 122) g dX5_advance_122 ?_
      refine zv_put (pc := 123) ((mW β a) (m_tokenEnds_s S41 ((m_tokenEnds S41) + 1))) g fp_X5_178 0 rfl rfl rfl (Nat.le_of_ble_eq_true rfl) rfl dX5_advance_123 ?_
      refine zv_nmS (wf := (mW β a)) (fun S44 eS44 => ?_)
      replace h := h S44 eS44
      obtain ⟨f45, h⟩ := h
      refine zv_sub [0] rfl ?_
      exact lX5_advance_126 g hR f45 _ h
def wX5_advance_8 (post : (MSt) → Prop) : Nat → (MSt) → Prop
  | 0, _ => False
  | f0 + 1, S => wX5_byteAt (fun v2 => (¬ v2 = (32 : Int32) → ∀ S4 : MSt, S4 = (m_tokenEnds_s S (m_begins S)) → (wX5_byteAt (fun v5 => (0 ≤ v5 → wX5_isLetter (fun v7 => (v7 = 0 → wX5_isDigit (fun v9 => (v9 = 0 → wX5_advance_83 post S4 v5 3) ∧ (¬ v9 = 0 → wX5_advance_83 post S4 v5 2)) v5) ∧ (¬ v7 = 0 → wX5_advance_83 post S4 v5 1)) v5) ∧ (¬ 0 ≤ v5 → wX5_advance_83 post S4 v5 0)) S4 (m_begins S4))) ∧ (v2 = (32 : Int32) → ∀ S46 : MSt, S46 = (m_begins_s S ((m_begins S) + 1)) → (wX5_advance_8 post f0 S46))) S (m_begins S)
set_option maxRecDepth 100000 in
set_option maxHeartbeats 4000000 in
theorem lX5_advance_8 {β : zz_B} {Γ : zz_X} {a : Nat → Nat} {post : (MSt) → Prop} (g : zG β 2 Γ cX5_advance RX5 2 42) (hR : zR β Γ none (fun r w => ∃ T : MSt, r = none ∧ w = (mW β a) T ∧ post T)) : ∀ (f0 : Nat) (S : MSt) , wX5_advance_8 post f0 S → zV β 2 Γ ((mW β a) S) 8 [(0, .ref (a 0))] [] := by
  intro f0
  induction f0 with
  | zero => intro S h; exact h.elim
  | succ f0 ih0 =>
    intro S h
    rw [wX5_advance_8] at h
    refine zv_aload_n (pc := 8) g dX5_advance_8 0 rfl rfl ?_
    refine zv_aload_n (pc := 9) g dX5_advance_9 0 rfl rfl ?_
    refine zv_get (pc := 10) g fl_X5_181 0 rfl rfl dX5_advance_10 ?_
    refine zv_cVp (pc := 13) g cw_X5_184 (ctX5_byteAt h) (by decide) (by decide) zz_p0 (q := 0) rfl rfl rfl rfl rfl (Nat.le_of_ble_eq_true rfl) dX5_advance_13 (fun v2 h => ?_)
    refine zv_bipush (pc := 16) g dX5_advance_16 (v := 32) (by decide) ?_
    refine zv_icmp_ne (pc := 18) 34 g dX5_advance_18 rfl (fun c3 => ?_) (fun c3 => ?_)
    · replace h := h.1 c3
      refine zv_aload_n (pc := 34) g dX5_advance_34 0 rfl rfl ?_
      refine zv_aload_n (pc := 35) g dX5_advance_35 0 rfl rfl ?_
      refine zv_get (pc := 36) g fl_X5_181 0 rfl rfl dX5_advance_36 ?_
      refine zv_put (pc := 39) ((mW β a) (m_tokenEnds_s S (m_begins S))) g fp_X5_178 0 rfl rfl rfl (Nat.le_of_ble_eq_true rfl) rfl dX5_advance_39 ?_
      refine zv_nmS (wf := (mW β a)) (fun S4 eS4 => ?_)
      replace h := h S4 eS4
      refine zv_aload_n (pc := 42) g dX5_advance_42 0 rfl rfl ?_
      refine zv_aload_n (pc := 43) g dX5_advance_43 0 rfl rfl ?_
      refine zv_get (pc := 44) g fl_X5_181 0 rfl rfl dX5_advance_44 ?_
      refine zv_cVp (pc := 47) g cw_X5_184 (ctX5_byteAt h) (by decide) (by decide) zz_p0 (q := 0) rfl rfl rfl rfl rfl (Nat.le_of_ble_eq_true rfl) dX5_advance_47 (fun v5 h => ?_)
      refine zv_istore_n (pc := 50) 1 [(1, .int v5), (0, .ref (a 0))] g dX5_advance_50 rfl (by decide) rfl ?_
      refine zv_aload_n (pc := 51) g dX5_advance_51 1 rfl rfl ?_
      refine zv_iload_n (pc := 52) g dX5_advance_52 0 rfl rfl ?_
      refine zv_if_ge (pc := 53) 60 g dX5_advance_53 rfl (fun c6 => ?_) (fun c6 => ?_)
      · replace h := h.1 c6
        refine zv_iload_n (pc := 60) g dX5_advance_60 0 rfl rfl ?_
        refine zv_cSp (pc := 61) g cw_X5_187 (ctX5_isLetter h) (by decide) (by decide) zz_pN rfl rfl (Nat.le_of_ble_eq_true rfl) dX5_advance_61 (fun v7 h => ?_)
        refine zv_if_eq (pc := 64) 71 g dX5_advance_64 rfl (fun c8 => ?_) (fun c8 => ?_)
        · replace h := h.1 c8
          refine zv_iload_n (pc := 71) g dX5_advance_71 0 rfl rfl ?_
          refine zv_cSp (pc := 72) g cw_X5_190 (ctX5_isDigit h) (by decide) (by decide) zz_pN rfl rfl (Nat.le_of_ble_eq_true rfl) dX5_advance_72 (fun v9 h => ?_)
          refine zv_if_eq (pc := 75) 82 g dX5_advance_75 rfl (fun c10 => ?_) (fun c10 => ?_)
          · replace h := h.1 c10
            refine zv_iconst (pc := 82) g dX5_advance_82 (v := 3) (by decide) ?_
            refine zv_sub [1, 0] rfl ?_
            exact lX5_advance_83 g hR _ _ _ h
          · replace h := h.2 c10
            refine zv_iconst (pc := 78) g dX5_advance_78 (v := 2) (by decide) ?_
            refine zv_goto (pc := 79) 83 g dX5_advance_79 rfl ?_
            refine zv_sub [1, 0] rfl ?_
            exact lX5_advance_83 g hR _ _ _ h
        · replace h := h.2 c8
          refine zv_iconst (pc := 67) g dX5_advance_67 (v := 1) (by decide) ?_
          refine zv_goto (pc := 68) 83 g dX5_advance_68 rfl ?_
          refine zv_sub [1, 0] rfl ?_
          exact lX5_advance_83 g hR _ _ _ h
      · replace h := h.2 c6
        refine zv_iconst (pc := 56) g dX5_advance_56 (v := 0) (by decide) ?_
        refine zv_goto (pc := 57) 83 g dX5_advance_57 rfl ?_
        refine zv_sub [1, 0] rfl ?_
        exact lX5_advance_83 g hR _ _ _ h
    · replace h := h.2 c3
      refine zv_aload_n (pc := 21) g dX5_advance_21 0 rfl rfl ?_
      refine zv_dup (pc := 22) g dX5_advance_22 rfl ?_
      refine zv_get (pc := 23) g fl_X5_181 0 rfl rfl dX5_advance_23 ?_
      refine zv_iconst (pc := 26) g dX5_advance_26 (v := 1) (by decide) ?_
      refine zv_iadd (pc := 27) g dX5_advance_27 ?_
      refine zv_put (pc := 28) ((mW β a) (m_begins_s S ((m_begins S) + 1))) g fp_X5_181 0 rfl rfl rfl (Nat.le_of_ble_eq_true rfl) rfl dX5_advance_28 ?_
      refine zv_nmS (wf := (mW β a)) (fun S46 eS46 => ?_)
      replace h := h S46 eS46
      refine zv_goto (pc := 31) 8 g dX5_advance_31 rfl ?_
      refine zv_sub [0] rfl ?_
      exact ih0 _ h
def wX5_advance (post : (MSt) → Prop) (S : MSt) : Prop := ∀ S1 : MSt, S1 = (m_begins_s S (m_tokenEnds S)) → (∃ f47 : Nat, wX5_advance_8 post f47 S1)
set_option maxRecDepth 100000 in
set_option maxHeartbeats 4000000 in
theorem ctX5_advance {β : zz_B} {a : Nat → Nat} {post : (MSt) → Prop} {S : MSt} (h : wX5_advance post S) : zCv β yX5_advance cX5_advance 2 none 2 42 [.ref (a 0)] (mW β a) S post := by
  unfold wX5_advance at h
  unfold zCv
  refine zC.of (by decide) (Nat.le_of_ble_eq_true rfl) ?_
  intro Γ g hR
  show zV β 2 Γ ((mW β a) S) 0 [(0, .ref (a 0))] []
  refine zv_aload_n (pc := 0) g dX5_advance_0 0 rfl rfl ?_
  refine zv_aload_n (pc := 1) g dX5_advance_1 0 rfl rfl ?_
  refine zv_get (pc := 2) g fl_X5_178 0 rfl rfl dX5_advance_2 ?_
  refine zv_put (pc := 5) ((mW β a) (m_begins_s S (m_tokenEnds S))) g fp_X5_181 0 rfl rfl rfl (Nat.le_of_ble_eq_true rfl) rfl dX5_advance_5 ?_
  refine zv_nmS (wf := (mW β a)) (fun S1 eS1 => ?_)
  replace h := h S1 eS1
  obtain ⟨f47, h⟩ := h
  refine zv_sub [0] rfl ?_
  exact lX5_advance_8 g hR f47 _ h
def wX5_isWord (post : Int32 → Prop) (S : MSt) (x1 : Int64) : Prop := (¬ (m_sort S) = (1 : Int32) → post 0) ∧ ((m_sort S) = (1 : Int32) → (¬ (lg_cmp (m_word S) x1) = 0 → post 0) ∧ ((lg_cmp (m_word S) x1) = 0 → post 1))
set_option maxRecDepth 100000 in
set_option maxHeartbeats 4000000 in
theorem ctX5_isWord {β : zz_B} {a : Nat → Nat} {post : Int32 → Prop} {S : MSt} {x1 : Int64} (h : wX5_isWord post S x1) : zCp β yX5_isWord cX5_isWord 3 (some .boolean) 0 0 [.ref (a 0), .long x1] ((mW β a) S) post := by
  unfold wX5_isWord at h
  unfold zCp
  refine zC.of (by decide) (Nat.le_of_ble_eq_true rfl) ?_
  intro Γ g hR
  show zV β 3 Γ ((mW β a) S) 0 [(0, .ref (a 0)), (1, .long x1)] []
  refine zv_aload_n (pc := 0) g dX5_isWord_0 0 rfl rfl ?_
  refine zv_get (pc := 1) g fl_X5_193 0 rfl rfl dX5_isWord_1 ?_
  refine zv_iconst (pc := 4) g dX5_isWord_4 (v := 1) (by decide) ?_
  refine zv_icmp_ne (pc := 5) 21 g dX5_isWord_5 rfl (fun c1 => ?_) (fun c1 => ?_)
  · replace h := h.1 c1
    refine zv_iconst (pc := 21) g dX5_isWord_21 (v := 0) (by decide) ?_
    exact zv_zret (pc := 22) g hR (by decide) dX5_isWord_22 ⟨_, rfl, rfl, h⟩
  · replace h := h.2 c1
    refine zv_aload_n (pc := 8) g dX5_isWord_8 0 rfl rfl ?_
    refine zv_get (pc := 9) g fl_X5_196 0 rfl rfl dX5_isWord_9 ?_
    refine zv_lload_n (pc := 12) g dX5_isWord_12 1 rfl rfl ?_
    refine zv_lcmp (pc := 13) g dX5_isWord_13 ?_
    refine zv_if_ne (pc := 14) 21 g dX5_isWord_14 rfl (fun c2 => ?_) (fun c2 => ?_)
    · replace h := h.1 c2
      refine zv_iconst (pc := 21) g dX5_isWord_21 (v := 0) (by decide) ?_
      exact zv_zret (pc := 22) g hR (by decide) dX5_isWord_22 ⟨_, rfl, rfl, h⟩
    · replace h := h.2 c2
      refine zv_iconst (pc := 17) g dX5_isWord_17 (v := 1) (by decide) ?_
      refine zv_goto (pc := 18) 22 g dX5_isWord_18 rfl ?_
      exact zv_zret (pc := 22) g hR (by decide) dX5_isWord_22 ⟨_, rfl, rfl, h⟩
def wX5_kindHere (post : Int32 → Prop) (S : MSt) : Prop := wX5_isWord (fun v1 => (v1 = 0 → wX5_isWord (fun v3 => (v3 = 0 → wX5_isWord (fun v5 => (v5 = 0 → wX5_isWord (fun v7 => (v7 = 0 → wX5_isWord (fun v9 => (v9 = 0 → wX5_isWord (fun v11 => (v11 = 0 → post (-1)) ∧ (¬ v11 = 0 → post 5)) S 380873) ∧ (¬ v9 = 0 → post 4)) S 8984627224) ∧ (¬ v7 = 0 → post 3)) S 464061) ∧ (¬ v5 = 0 → post 2)) S 3957544) ∧ (¬ v3 = 0 → post 1)) S 117713956) ∧ (¬ v1 = 0 → post 0)) S 68944599
set_option maxRecDepth 100000 in
set_option maxHeartbeats 4000000 in
theorem ctX5_kindHere {β : zz_B} {a : Nat → Nat} {post : Int32 → Prop} {S : MSt} (h : wX5_kindHere post S) : zCp β yX5_kindHere cX5_kindHere 1 (some .int) 1 22 [.ref (a 0)] ((mW β a) S) post := by
  unfold wX5_kindHere at h
  unfold zCp
  refine zC.of (by decide) (Nat.le_of_ble_eq_true rfl) ?_
  intro Γ g hR
  show zV β 1 Γ ((mW β a) S) 0 [(0, .ref (a 0))] []
  refine zv_aload_n (pc := 0) g dX5_kindHere_0 0 rfl rfl ?_
  refine zv_ldc2 (pc := 1) g wd_1015 dX5_kindHere_1 ?_
  refine zv_cVp (pc := 4) g cw_X5_211 (ctX5_isWord h) (by decide) (by decide) zz_p0 (q := 0) rfl rfl rfl rfl rfl (Nat.le_of_ble_eq_true rfl) dX5_kindHere_4 (fun v1 h => ?_)
  refine zv_if_eq (pc := 7) 14 g dX5_kindHere_7 rfl (fun c2 => ?_) (fun c2 => ?_)
  · replace h := h.1 c2
    refine zv_aload_n (pc := 14) g dX5_kindHere_14 0 rfl rfl ?_
    refine zv_ldc2 (pc := 15) g wd_1020 dX5_kindHere_15 ?_
    refine zv_cVp (pc := 18) g cw_X5_211 (ctX5_isWord h) (by decide) (by decide) zz_p0 (q := 0) rfl rfl rfl rfl rfl (Nat.le_of_ble_eq_true rfl) dX5_kindHere_18 (fun v3 h => ?_)
    refine zv_if_eq (pc := 21) 28 g dX5_kindHere_21 rfl (fun c4 => ?_) (fun c4 => ?_)
    · replace h := h.1 c4
      refine zv_aload_n (pc := 28) g dX5_kindHere_28 0 rfl rfl ?_
      refine zv_ldc2 (pc := 29) g wd_1021 dX5_kindHere_29 ?_
      refine zv_cVp (pc := 32) g cw_X5_211 (ctX5_isWord h) (by decide) (by decide) zz_p0 (q := 0) rfl rfl rfl rfl rfl (Nat.le_of_ble_eq_true rfl) dX5_kindHere_32 (fun v5 h => ?_)
      refine zv_if_eq (pc := 35) 42 g dX5_kindHere_35 rfl (fun c6 => ?_) (fun c6 => ?_)
      · replace h := h.1 c6
        refine zv_aload_n (pc := 42) g dX5_kindHere_42 0 rfl rfl ?_
        refine zv_ldc2 (pc := 43) g wd_1022 dX5_kindHere_43 ?_
        refine zv_cVp (pc := 46) g cw_X5_211 (ctX5_isWord h) (by decide) (by decide) zz_p0 (q := 0) rfl rfl rfl rfl rfl (Nat.le_of_ble_eq_true rfl) dX5_kindHere_46 (fun v7 h => ?_)
        refine zv_if_eq (pc := 49) 56 g dX5_kindHere_49 rfl (fun c8 => ?_) (fun c8 => ?_)
        · replace h := h.1 c8
          refine zv_aload_n (pc := 56) g dX5_kindHere_56 0 rfl rfl ?_
          refine zv_ldc2 (pc := 57) g wd_1023 dX5_kindHere_57 ?_
          refine zv_cVp (pc := 60) g cw_X5_211 (ctX5_isWord h) (by decide) (by decide) zz_p0 (q := 0) rfl rfl rfl rfl rfl (Nat.le_of_ble_eq_true rfl) dX5_kindHere_60 (fun v9 h => ?_)
          refine zv_if_eq (pc := 63) 70 g dX5_kindHere_63 rfl (fun c10 => ?_) (fun c10 => ?_)
          · replace h := h.1 c10
            refine zv_aload_n (pc := 70) g dX5_kindHere_70 0 rfl rfl ?_
            refine zv_ldc2 (pc := 71) g wd_1024 dX5_kindHere_71 ?_
            refine zv_cVp (pc := 74) g cw_X5_211 (ctX5_isWord h) (by decide) (by decide) zz_p0 (q := 0) rfl rfl rfl rfl rfl (Nat.le_of_ble_eq_true rfl) dX5_kindHere_74 (fun v11 h => ?_)
            refine zv_if_eq (pc := 77) 84 g dX5_kindHere_77 rfl (fun c12 => ?_) (fun c12 => ?_)
            · replace h := h.1 c12
              refine zv_iconst (pc := 84) g dX5_kindHere_84 (v := (-1)) (by decide) ?_
              exact zv_iret (pc := 85) g hR dX5_kindHere_85 ⟨_, rfl, rfl, h⟩
            · replace h := h.2 c12
              refine zv_iconst (pc := 80) g dX5_kindHere_80 (v := 5) (by decide) ?_
              refine zv_goto (pc := 81) 85 g dX5_kindHere_81 rfl ?_
              exact zv_iret (pc := 85) g hR dX5_kindHere_85 ⟨_, rfl, rfl, h⟩
          · replace h := h.2 c10
            refine zv_iconst (pc := 66) g dX5_kindHere_66 (v := 4) (by decide) ?_
            refine zv_goto (pc := 67) 85 g dX5_kindHere_67 rfl ?_
            exact zv_iret (pc := 85) g hR dX5_kindHere_85 ⟨_, rfl, rfl, h⟩
        · replace h := h.2 c8
          refine zv_iconst (pc := 52) g dX5_kindHere_52 (v := 3) (by decide) ?_
          refine zv_goto (pc := 53) 85 g dX5_kindHere_53 rfl ?_
          exact zv_iret (pc := 85) g hR dX5_kindHere_85 ⟨_, rfl, rfl, h⟩
      · replace h := h.2 c6
        refine zv_iconst (pc := 38) g dX5_kindHere_38 (v := 2) (by decide) ?_
        refine zv_goto (pc := 39) 85 g dX5_kindHere_39 rfl ?_
        exact zv_iret (pc := 85) g hR dX5_kindHere_85 ⟨_, rfl, rfl, h⟩
    · replace h := h.2 c4
      refine zv_iconst (pc := 24) g dX5_kindHere_24 (v := 1) (by decide) ?_
      refine zv_goto (pc := 25) 85 g dX5_kindHere_25 rfl ?_
      exact zv_iret (pc := 85) g hR dX5_kindHere_85 ⟨_, rfl, rfl, h⟩
  · replace h := h.2 c2
    refine zv_iconst (pc := 10) g dX5_kindHere_10 (v := 0) (by decide) ?_
    refine zv_goto (pc := 11) 85 g dX5_kindHere_11 rfl ?_
    exact zv_iret (pc := 85) g hR dX5_kindHere_85 ⟨_, rfl, rfl, h⟩
def wX5_wantNumber_34 (post : Int32 → (MSt) → Prop) (S : MSt) (x3 : Int32) : Prop := ∀ S3 : MSt, S3 = (m_good_s S 0) → (((m_good S3) = 0 → post x3 S3) ∧ (¬ (m_good S3) = 0 → wX5_advance (fun S5 => post x3 S5) S3))
set_option maxRecDepth 100000 in
set_option maxHeartbeats 4000000 in
theorem lX5_wantNumber_34 {β : zz_B} {Γ : zz_X} {a : Nat → Nat} {post : Int32 → (MSt) → Prop} (g : zG β 4 Γ cX5_wantNumber RX5 3 63) (hR : zR β Γ (some .int) (fun r w => ∃ (v : Int32) (T : MSt), r = some (.int v) ∧ w = (mW β a) T ∧ post v T)) (S : MSt) (x3 : Int32) (h : wX5_wantNumber_34 post S x3) : zV β 4 Γ ((mW β a) S) 34 [(0, .ref (a 0)), (3, .int x3)] [.ref (a 0)] := by
  unfold wX5_wantNumber_34 at h
  refine zv_iconst (pc := 34) g dX5_wantNumber_34 (v := 0) (by decide) ?_
  refine zv_put (pc := 35) ((mW β a) (m_good_s S 0)) g fp_X5_225 0 rfl (by decide) (by decide) (Nat.le_of_ble_eq_true rfl) rfl dX5_wantNumber_35 ?_
  refine zv_nmS (wf := (mW β a)) (fun S3 eS3 => ?_)
  replace h := h S3 eS3
  refine zv_aload_n (pc := 38) g dX5_wantNumber_38 0 rfl rfl ?_
  refine zv_get (pc := 39) g fl_X5_225 0 rfl rfl dX5_wantNumber_39 ?_
  refine zv_if_eq (pc := 42) 49 g dX5_wantNumber_42 rfl (fun c4 => ?_) (fun c4 => ?_)
  · replace h := h.1 c4
    refine zv_iload_n (pc := 49) g dX5_wantNumber_49 1 rfl rfl ?_
    exact zv_iret (pc := 50) g hR dX5_wantNumber_50 ⟨_, _, rfl, rfl, h⟩
  · replace h := h.2 c4
    refine zv_aload_n (pc := 45) g dX5_wantNumber_45 0 rfl rfl ?_
    refine zv_cVv (pc := 46) g cw_X5_229 (ctX5_advance h) (by decide) (by decide) zz_p0 (mW β a) (fun T => zz_p1 T) (q := 0) rfl rfl rfl rfl rfl (Nat.le_of_ble_eq_true rfl) dX5_wantNumber_46 (fun S5 h => ?_)
    refine zv_iload_n (pc := 49) g dX5_wantNumber_49 1 rfl rfl ?_
    exact zv_iret (pc := 50) g hR dX5_wantNumber_50 ⟨_, _, rfl, rfl, h⟩
def wX5_wantNumber (post : Int32 → (MSt) → Prop) (S : MSt) (x1 : Int32) (x2 : Int32) : Prop := ∀ y1 : Int32, y1 = (m_value S) → (((m_good S) = 0 → wX5_wantNumber_34 post S y1) ∧ (¬ (m_good S) = 0 → (¬ (m_sort S) = (2 : Int32) → wX5_wantNumber_34 post S y1) ∧ ((m_sort S) = (2 : Int32) → wX5_in (fun v7 => (v7 = 0 → wX5_wantNumber_34 post S y1) ∧ (¬ v7 = 0 → ∀ S9 : MSt, S9 = (m_good_s S 1) → (((m_good S9) = 0 → post y1 S9) ∧ (¬ (m_good S9) = 0 → wX5_advance (fun S11 => post y1 S11) S9)))) y1 x1 x2)))
set_option maxRecDepth 100000 in
set_option maxHeartbeats 4000000 in
theorem ctX5_wantNumber {β : zz_B} {a : Nat → Nat} {post : Int32 → (MSt) → Prop} {S : MSt} {x1 : Int32} {x2 : Int32} (h : wX5_wantNumber post S x1 x2) : zCi β yX5_wantNumber cX5_wantNumber 4 (some .int) 3 63 [.ref (a 0), .int x1, .int x2] (mW β a) S post := by
  unfold wX5_wantNumber at h
  unfold zCi
  refine zC.of (by decide) (Nat.le_of_ble_eq_true rfl) ?_
  intro Γ g hR
  show zV β 4 Γ ((mW β a) S) 0 [(0, .ref (a 0)), (1, .int x1), (2, .int x2)] []
  refine zv_aload_n (pc := 0) g dX5_wantNumber_0 0 rfl rfl ?_
  refine zv_get (pc := 1) g fl_X5_200 0 rfl rfl dX5_wantNumber_1 ?_
  refine zv_topi (fun y1 ey1 => ?_)
  replace h := h y1 ey1
  refine zv_istore_n (pc := 4) 3 [(3, .int y1), (0, .ref (a 0)), (1, .int x1), (2, .int x2)] g dX5_wantNumber_4 rfl (by decide) rfl ?_
  refine zv_aload_n (pc := 5) g dX5_wantNumber_5 1 rfl rfl ?_
  refine zv_aload_n (pc := 6) g dX5_wantNumber_6 1 rfl rfl ?_
  refine zv_get (pc := 7) g fl_X5_225 0 rfl rfl dX5_wantNumber_7 ?_
  refine zv_if_eq (pc := 10) 34 g dX5_wantNumber_10 rfl (fun c2 => ?_) (fun c2 => ?_)
  · replace h := h.1 c2
    refine zv_sub [1, 0] rfl ?_
    exact lX5_wantNumber_34 g hR _ _ h
  · replace h := h.2 c2
    refine zv_aload_n (pc := 13) g dX5_wantNumber_13 1 rfl rfl ?_
    refine zv_get (pc := 14) g fl_X5_193 0 rfl rfl dX5_wantNumber_14 ?_
    refine zv_iconst (pc := 17) g dX5_wantNumber_17 (v := 2) (by decide) ?_
    refine zv_icmp_ne (pc := 18) 34 g dX5_wantNumber_18 rfl (fun c6 => ?_) (fun c6 => ?_)
    · replace h := h.1 c6
      refine zv_sub [1, 0] rfl ?_
      exact lX5_wantNumber_34 g hR _ _ h
    · replace h := h.2 c6
      refine zv_iload_n (pc := 21) g dX5_wantNumber_21 0 rfl rfl ?_
      refine zv_iload_n (pc := 22) g dX5_wantNumber_22 2 rfl rfl ?_
      refine zv_iload_n (pc := 23) g dX5_wantNumber_23 3 rfl rfl ?_
      refine zv_cSp (pc := 24) g cw_X5_49 (ctX5_in h) (by decide) (by decide) zz_pN rfl rfl (Nat.le_of_ble_eq_true rfl) dX5_wantNumber_24 (fun v7 h => ?_)
      refine zv_if_eq (pc := 27) 34 g dX5_wantNumber_27 rfl (fun c8 => ?_) (fun c8 => ?_)
      · replace h := h.1 c8
        refine zv_sub [1, 0] rfl ?_
        exact lX5_wantNumber_34 g hR _ _ h
      · replace h := h.2 c8
        refine zv_iconst (pc := 30) g dX5_wantNumber_30 (v := 1) (by decide) ?_
        refine zv_goto (pc := 31) 35 g dX5_wantNumber_31 rfl ?_
        refine zv_put (pc := 35) ((mW β a) (m_good_s S 1)) g fp_X5_225 0 rfl (by decide) (by decide) (Nat.le_of_ble_eq_true rfl) rfl dX5_wantNumber_35 ?_
        refine zv_nmS (wf := (mW β a)) (fun S9 eS9 => ?_)
        replace h := h S9 eS9
        refine zv_aload_n (pc := 38) g dX5_wantNumber_38 1 rfl rfl ?_
        refine zv_get (pc := 39) g fl_X5_225 0 rfl rfl dX5_wantNumber_39 ?_
        refine zv_if_eq (pc := 42) 49 g dX5_wantNumber_42 rfl (fun c10 => ?_) (fun c10 => ?_)
        · replace h := h.1 c10
          refine zv_iload_n (pc := 49) g dX5_wantNumber_49 0 rfl rfl ?_
          exact zv_iret (pc := 50) g hR dX5_wantNumber_50 ⟨_, _, rfl, rfl, h⟩
        · replace h := h.2 c10
          refine zv_aload_n (pc := 45) g dX5_wantNumber_45 1 rfl rfl ?_
          refine zv_cVv (pc := 46) g cw_X5_229 (ctX5_advance h) (by decide) (by decide) zz_p0 (mW β a) (fun T => zz_p1 T) (q := 0) rfl rfl rfl rfl rfl (Nat.le_of_ble_eq_true rfl) dX5_wantNumber_46 (fun S11 h => ?_)
          refine zv_iload_n (pc := 49) g dX5_wantNumber_49 0 rfl rfl ?_
          exact zv_iret (pc := 50) g hR dX5_wantNumber_50 ⟨_, _, rfl, rfl, h⟩
def wX5_mayWant (post : Int32 → (MSt) → Prop) (S : MSt) (x1 : Int64) (x3 : Int32) (x4 : Int32) (x5 : Int32) : Prop := ((m_good S) = 0 → post x5 S) ∧ (¬ (m_good S) = 0 → wX5_isWord (fun v2 => (¬ v2 = 0 → wX5_advance (fun S4 => wX5_wantNumber (fun v5 S6 => post v5 S6) S4 x3 x4) S) ∧ (v2 = 0 → post x5 S)) S x1)
set_option maxRecDepth 100000 in
set_option maxHeartbeats 4000000 in
theorem ctX5_mayWant {β : zz_B} {a : Nat → Nat} {post : Int32 → (MSt) → Prop} {S : MSt} {x1 : Int64} {x3 : Int32} {x4 : Int32} {x5 : Int32} (h : wX5_mayWant post S x1 x3 x4 x5) : zCi β yX5_mayWant cX5_mayWant 6 (some .int) 4 86 [.ref (a 0), .long x1, .int x3, .int x4, .int x5] (mW β a) S post := by
  unfold wX5_mayWant at h
  unfold zCi
  refine zC.of (by decide) (Nat.le_of_ble_eq_true rfl) ?_
  intro Γ g hR
  show zV β 6 Γ ((mW β a) S) 0 [(0, .ref (a 0)), (1, .long x1), (3, .int x3), (4, .int x4), (5, .int x5)] []
  refine zv_aload_n (pc := 0) g dX5_mayWant_0 0 rfl rfl ?_
  refine zv_get (pc := 1) g fl_X5_225 0 rfl rfl dX5_mayWant_1 ?_
  refine zv_if_eq (pc := 4) 15 g dX5_mayWant_4 rfl (fun c1 => ?_) (fun c1 => ?_)
  · replace h := h.1 c1
    refine zv_iload (pc := 15) g dX5_mayWant_15 4 rfl ?_
    exact zv_iret (pc := 17) g hR dX5_mayWant_17 ⟨_, _, rfl, rfl, h⟩
  · replace h := h.2 c1
    refine zv_aload_n (pc := 7) g dX5_mayWant_7 0 rfl rfl ?_
    refine zv_lload_n (pc := 8) g dX5_mayWant_8 1 rfl rfl ?_
    refine zv_cVp (pc := 9) g cw_X5_211 (ctX5_isWord h) (by decide) (by decide) zz_p0 (q := 0) rfl rfl rfl rfl rfl (Nat.le_of_ble_eq_true rfl) dX5_mayWant_9 (fun v2 h => ?_)
    refine zv_if_ne (pc := 12) 18 g dX5_mayWant_12 rfl (fun c3 => ?_) (fun c3 => ?_)
    · replace h := h.1 c3
      refine zv_aload_n (pc := 18) g dX5_mayWant_18 0 rfl rfl ?_
      refine zv_cVv (pc := 19) g cw_X5_229 (ctX5_advance h) (by decide) (by decide) zz_p0 (mW β a) (fun T => zz_p1 T) (q := 0) rfl rfl rfl rfl rfl (Nat.le_of_ble_eq_true rfl) dX5_mayWant_19 (fun S4 h => ?_)
      refine zv_aload_n (pc := 22) g dX5_mayWant_22 0 rfl rfl ?_
      refine zv_iload_n (pc := 23) g dX5_mayWant_23 2 rfl rfl ?_
      refine zv_iload (pc := 24) g dX5_mayWant_24 3 rfl ?_
      refine zv_cVi (pc := 26) g cw_X5_232 (ctX5_wantNumber h) (by decide) (by decide) zz_p0 (mW β a) (fun T => zz_p1 T) (q := 0) rfl rfl rfl rfl rfl (Nat.le_of_ble_eq_true rfl) dX5_mayWant_26 (fun v5 S6 h => ?_)
      exact zv_iret (pc := 29) g hR dX5_mayWant_29 ⟨_, _, rfl, rfl, h⟩
    · replace h := h.2 c3
      refine zv_iload (pc := 15) g dX5_mayWant_15 4 rfl ?_
      exact zv_iret (pc := 17) g hR dX5_mayWant_17 ⟨_, _, rfl, rfl, h⟩
def wX5_mayMemories_52 (post : Int32 → (MSt) → Prop) (k26 : (MSt) → (Int32) → (Int32) → Prop) (S : MSt) (x3 : Int32) (x4 : Int32) : Prop := wX5_wantNumber (fun v8 S9 => ((m_good S9) = 0 → ∀ y11 : Int32, y11 = (x3 ||| 0) → (k26 S9 y11 (x4 + 1))) ∧ (¬ (m_good S9) = 0 → ∀ y12 : Int32, y12 = (x3 ||| (1 <<< (v8 &&& 31))) → (k26 S9 y12 (x4 + 1)))) S 0 9
set_option maxRecDepth 100000 in
set_option maxHeartbeats 4000000 in
theorem lX5_mayMemories_52 {β : zz_B} {Γ : zz_X} {a : Nat → Nat} {post : Int32 → (MSt) → Prop} {k26 : (MSt) → (Int32) → (Int32) → Prop} (g : zG β 6 Γ cX5_mayMemories RX5 4 86) (hR : zR β Γ (some .int) (fun r w => ∃ (v : Int32) (T : MSt), r = some (.int v) ∧ w = (mW β a) T ∧ post v T)) (hk26 : ∀ (S : MSt) (x3 : Int32) (x4 : Int32), k26 S x3 x4 → zV β 6 Γ ((mW β a) S) 26 [(0, .ref (a 0)), (3, .int x3), (4, .int x4)] []) (S : MSt) (x3 : Int32) (x4 : Int32) (h : wX5_mayMemories_52 post k26 S x3 x4) : zV β 6 Γ ((mW β a) S) 52 [(0, .ref (a 0)), (3, .int x3), (4, .int x4)] [] := by
  unfold wX5_mayMemories_52 at h
  refine zv_aload_n (pc := 52) g dX5_mayMemories_52 0 rfl rfl ?_
  refine zv_iconst (pc := 53) g dX5_mayMemories_53 (v := 0) (by decide) ?_
  refine zv_bipush (pc := 54) g dX5_mayMemories_54 (v := 9) (by decide) ?_
  refine zv_cVi (pc := 56) g cw_X5_232 (ctX5_wantNumber h) (by decide) (by decide) zz_p0 (mW β a) (fun T => zz_p1 T) (q := 0) rfl rfl rfl rfl rfl (Nat.le_of_ble_eq_true rfl) dX5_mayMemories_56 (fun v8 S9 h => ?_)
  refine zv_istore (pc := 59) [(5, .int v8), (0, .ref (a 0)), (3, .int x3), (4, .int x4)] g dX5_mayMemories_59 (by decide) rfl ?_
  refine zv_iload_n (pc := 61) g dX5_mayMemories_61 2 rfl rfl ?_
  refine zv_aload_n (pc := 62) g dX5_mayMemories_62 1 rfl rfl ?_
  refine zv_get (pc := 63) g fl_X5_225 0 rfl rfl dX5_mayMemories_63 ?_
  refine zv_if_eq (pc := 66) 76 g dX5_mayMemories_66 rfl (fun c10 => ?_) (fun c10 => ?_)
  · replace h := h.1 c10
    refine zv_iconst (pc := 76) g dX5_mayMemories_76 (v := 0) (by decide) ?_
    refine zv_ior (pc := 77) g dX5_mayMemories_77 ?_
    refine zv_topi (fun y11 ey11 => ?_)
    replace h := h y11 ey11
    refine zv_istore_n (pc := 78) 3 [(3, .int y11), (5, .int v8), (0, .ref (a 0)), (4, .int x4)] g dX5_mayMemories_78 rfl (by decide) rfl ?_
    refine zv_iinc (pc := 79) 1 [(4, .int (x4 + 1)), (3, .int y11), (5, .int v8), (0, .ref (a 0))] g dX5_mayMemories_79 3 rfl (by decide) (by decide) rfl ?_
    refine zv_goto (pc := 82) 26 g dX5_mayMemories_82 rfl ?_
    refine zv_sub [3, 1, 0] rfl ?_
    exact hk26 _ _ _ h
  · replace h := h.2 c10
    refine zv_iconst (pc := 69) g dX5_mayMemories_69 (v := 1) (by decide) ?_
    refine zv_iload (pc := 70) g dX5_mayMemories_70 0 rfl ?_
    refine zv_ishl (pc := 72) g dX5_mayMemories_72 ?_
    refine zv_goto (pc := 73) 77 g dX5_mayMemories_73 rfl ?_
    refine zv_ior (pc := 77) g dX5_mayMemories_77 ?_
    refine zv_topi (fun y12 ey12 => ?_)
    replace h := h y12 ey12
    refine zv_istore_n (pc := 78) 3 [(3, .int y12), (5, .int v8), (0, .ref (a 0)), (4, .int x4)] g dX5_mayMemories_78 rfl (by decide) rfl ?_
    refine zv_iinc (pc := 79) 1 [(4, .int (x4 + 1)), (3, .int y12), (5, .int v8), (0, .ref (a 0))] g dX5_mayMemories_79 3 rfl (by decide) (by decide) rfl ?_
    refine zv_goto (pc := 82) 26 g dX5_mayMemories_82 rfl ?_
    refine zv_sub [3, 1, 0] rfl ?_
    exact hk26 _ _ _ h
def wX5_mayMemories_26 (post : Int32 → (MSt) → Prop) : Nat → (MSt) → (Int32) → (Int32) → Prop
  | 0, _, _, _ => False
  | f0 + 1, S, x3, x4 => ((4 : Int32) ≤ x4 → post x3 S) ∧ (¬ (4 : Int32) ≤ x4 → ((m_good S) = 0 → post x3 S) ∧ (¬ (m_good S) = 0 → (x4 = 0 → wX5_mayMemories_52 post (wX5_mayMemories_26 post f0) S x3 x4) ∧ (¬ x4 = 0 → (¬ (m_sort S) = (2 : Int32) → post x3 S) ∧ ((m_sort S) = (2 : Int32) → wX5_mayMemories_52 post (wX5_mayMemories_26 post f0) S x3 x4))))
set_option maxRecDepth 100000 in
set_option maxHeartbeats 4000000 in
theorem lX5_mayMemories_26 {β : zz_B} {Γ : zz_X} {a : Nat → Nat} {post : Int32 → (MSt) → Prop} (g : zG β 6 Γ cX5_mayMemories RX5 4 86) (hR : zR β Γ (some .int) (fun r w => ∃ (v : Int32) (T : MSt), r = some (.int v) ∧ w = (mW β a) T ∧ post v T)) : ∀ (f0 : Nat) (S : MSt) (x3 : Int32) (x4 : Int32) , wX5_mayMemories_26 post f0 S x3 x4 → zV β 6 Γ ((mW β a) S) 26 [(0, .ref (a 0)), (3, .int x3), (4, .int x4)] [] := by
  intro f0
  induction f0 with
  | zero => intro S x3 x4 h; exact h.elim
  | succ f0 ih0 =>
    intro S x3 x4 h
    rw [wX5_mayMemories_26] at h
    refine zv_iload (pc := 26) g dX5_mayMemories_26 2 rfl ?_
    refine zv_iconst (pc := 28) g dX5_mayMemories_28 (v := 4) (by decide) ?_
    refine zv_icmp_ge (pc := 29) 85 g dX5_mayMemories_29 rfl (fun c5 => ?_) (fun c5 => ?_)
    · replace h := h.1 c5
      refine zv_iload_n (pc := 85) g dX5_mayMemories_85 1 rfl rfl ?_
      exact zv_iret (pc := 86) g hR dX5_mayMemories_86 ⟨_, _, rfl, rfl, h⟩
    · replace h := h.2 c5
      refine zv_aload_n (pc := 32) g dX5_mayMemories_32 0 rfl rfl ?_
      refine zv_get (pc := 33) g fl_X5_225 0 rfl rfl dX5_mayMemories_33 ?_
      refine zv_if_eq (pc := 36) 85 g dX5_mayMemories_36 rfl (fun c6 => ?_) (fun c6 => ?_)
      · replace h := h.1 c6
        refine zv_iload_n (pc := 85) g dX5_mayMemories_85 1 rfl rfl ?_
        exact zv_iret (pc := 86) g hR dX5_mayMemories_86 ⟨_, _, rfl, rfl, h⟩
      · replace h := h.2 c6
        refine zv_iload (pc := 39) g dX5_mayMemories_39 2 rfl ?_
        refine zv_if_eq (pc := 41) 52 g dX5_mayMemories_41 rfl (fun c7 => ?_) (fun c7 => ?_)
        · replace h := h.1 c7
          refine zv_sub [0, 1, 2] rfl ?_
          exact lX5_mayMemories_52 g hR ih0 _ _ _ h
        · replace h := h.2 c7
          refine zv_aload_n (pc := 44) g dX5_mayMemories_44 0 rfl rfl ?_
          refine zv_get (pc := 45) g fl_X5_193 0 rfl rfl dX5_mayMemories_45 ?_
          refine zv_iconst (pc := 48) g dX5_mayMemories_48 (v := 2) (by decide) ?_
          refine zv_icmp_ne (pc := 49) 85 g dX5_mayMemories_49 rfl (fun c13 => ?_) (fun c13 => ?_)
          · replace h := h.1 c13
            refine zv_iload_n (pc := 85) g dX5_mayMemories_85 1 rfl rfl ?_
            exact zv_iret (pc := 86) g hR dX5_mayMemories_86 ⟨_, _, rfl, rfl, h⟩
          · replace h := h.2 c13
            refine zv_sub [0, 1, 2] rfl ?_
            exact lX5_mayMemories_52 g hR ih0 _ _ _ h
def wX5_mayMemories (post : Int32 → (MSt) → Prop) (S : MSt) (x1 : Int64) : Prop := ((m_good S) = 0 → post (-1) S) ∧ (¬ (m_good S) = 0 → wX5_isWord (fun v2 => (¬ v2 = 0 → wX5_advance (fun S4 => ∃ f14 : Nat, wX5_mayMemories_26 post f14 S4 0 0) S) ∧ (v2 = 0 → post (-1) S)) S x1)
set_option maxRecDepth 100000 in
set_option maxHeartbeats 4000000 in
theorem ctX5_mayMemories {β : zz_B} {a : Nat → Nat} {post : Int32 → (MSt) → Prop} {S : MSt} {x1 : Int64} (h : wX5_mayMemories post S x1) : zCi β yX5_mayMemories cX5_mayMemories 6 (some .int) 4 86 [.ref (a 0), .long x1] (mW β a) S post := by
  unfold wX5_mayMemories at h
  unfold zCi
  refine zC.of (by decide) (Nat.le_of_ble_eq_true rfl) ?_
  intro Γ g hR
  show zV β 6 Γ ((mW β a) S) 0 [(0, .ref (a 0)), (1, .long x1)] []
  refine zv_aload_n (pc := 0) g dX5_mayMemories_0 0 rfl rfl ?_
  refine zv_get (pc := 1) g fl_X5_225 0 rfl rfl dX5_mayMemories_1 ?_
  refine zv_if_eq (pc := 4) 15 g dX5_mayMemories_4 rfl (fun c1 => ?_) (fun c1 => ?_)
  · replace h := h.1 c1
    refine zv_iconst (pc := 15) g dX5_mayMemories_15 (v := (-1)) (by decide) ?_
    exact zv_iret (pc := 16) g hR dX5_mayMemories_16 ⟨_, _, rfl, rfl, h⟩
  · replace h := h.2 c1
    refine zv_aload_n (pc := 7) g dX5_mayMemories_7 0 rfl rfl ?_
    refine zv_lload_n (pc := 8) g dX5_mayMemories_8 1 rfl rfl ?_
    refine zv_cVp (pc := 9) g cw_X5_211 (ctX5_isWord h) (by decide) (by decide) zz_p0 (q := 0) rfl rfl rfl rfl rfl (Nat.le_of_ble_eq_true rfl) dX5_mayMemories_9 (fun v2 h => ?_)
    refine zv_if_ne (pc := 12) 17 g dX5_mayMemories_12 rfl (fun c3 => ?_) (fun c3 => ?_)
    · replace h := h.1 c3
      refine zv_aload_n (pc := 17) g dX5_mayMemories_17 0 rfl rfl ?_
      refine zv_cVv (pc := 18) g cw_X5_229 (ctX5_advance h) (by decide) (by decide) zz_p0 (mW β a) (fun T => zz_p1 T) (q := 0) rfl rfl rfl rfl rfl (Nat.le_of_ble_eq_true rfl) dX5_mayMemories_18 (fun S4 h => ?_)
      refine zv_iconst (pc := 21) g dX5_mayMemories_21 (v := 0) (by decide) ?_
      refine zv_istore_n (pc := 22) 3 [(3, .int 0), (0, .ref (a 0)), (1, .long x1)] g dX5_mayMemories_22 rfl (by decide) rfl ?_
      refine zv_iconst (pc := 23) g dX5_mayMemories_23 (v := 0) (by decide) ?_
      refine zv_istore (pc := 24) [(4, .int 0), (3, .int 0), (0, .ref (a 0)), (1, .long x1)] g dX5_mayMemories_24 (by decide) rfl ?_
      obtain ⟨f14, h⟩ := h
      refine zv_sub [2, 1, 0] rfl ?_
      exact lX5_mayMemories_26 g hR f14 _ _ _ h
    · replace h := h.2 c3
      refine zv_iconst (pc := 15) g dX5_mayMemories_15 (v := (-1)) (by decide) ?_
      exact zv_iret (pc := 16) g hR dX5_mayMemories_16 ⟨_, _, rfl, rfl, h⟩
def wX5_wantOne_17 (post : (MSt) → Prop) (S : MSt) (x1 : Int32) (s0 : Int32) : Prop := (s0 = 0 ∨ s0 = 1) ∧ (∀ S2 : MSt, S2 = (m_good_s S s0) → ((¬ (m_good S2) = 0 → wX5_advance (fun S4 => wX5_mayMemories (fun v5 S6 => wX5_mayWant (fun v7 S8 => ((m_good S8) = 0 → post S8) ∧ (¬ (m_good S8) = 0 → (0 ≤ v5 → wX5_adds (fun S11 => post S11) S8 x1 v5 v7) ∧ (¬ 0 ≤ v5 → wX5_adds (fun S12 => post S12) S8 x1 0 v7))) S6 4081298 0 99 0) S4 4555648) S2) ∧ ((m_good S2) = 0 → post S2)))
set_option maxRecDepth 100000 in
set_option maxHeartbeats 4000000 in
theorem lX5_wantOne_17 {β : zz_B} {Γ : zz_X} {a : Nat → Nat} {post : (MSt) → Prop} (g : zG β 4 Γ cX5_wantOne RX5 5 111) (hR : zR β Γ none (fun r w => ∃ T : MSt, r = none ∧ w = (mW β a) T ∧ post T)) (S : MSt) (x1 : Int32) (s0 : Int32) (h : wX5_wantOne_17 post S x1 s0) : zV β 4 Γ ((mW β a) S) 17 [(0, .ref (a 0)), (1, .int x1)] [.int s0, .ref (a 0)] := by
  unfold wX5_wantOne_17 at h
  obtain ⟨hz, h⟩ := h
  refine zv_put (pc := 17) ((mW β a) (m_good_s S s0)) g fp_X5_225 0 rfl (zz_nb hz).1 (zz_nb hz).2 (Nat.le_of_ble_eq_true rfl) rfl dX5_wantOne_17 ?_
  refine zv_nmS (wf := (mW β a)) (fun S2 eS2 => ?_)
  replace h := h S2 eS2
  refine zv_aload_n (pc := 20) g dX5_wantOne_20 0 rfl rfl ?_
  refine zv_get (pc := 21) g fl_X5_225 0 rfl rfl dX5_wantOne_21 ?_
  refine zv_if_ne (pc := 24) 28 g dX5_wantOne_24 rfl (fun c3 => ?_) (fun c3 => ?_)
  · replace h := h.1 c3
    refine zv_aload_n (pc := 28) g dX5_wantOne_28 0 rfl rfl ?_
    refine zv_cVv (pc := 29) g cw_X5_229 (ctX5_advance h) (by decide) (by decide) zz_p0 (mW β a) (fun T => zz_p1 T) (q := 0) rfl rfl rfl rfl rfl (Nat.le_of_ble_eq_true rfl) dX5_wantOne_29 (fun S4 h => ?_)
    refine zv_aload_n (pc := 32) g dX5_wantOne_32 0 rfl rfl ?_
    refine zv_ldc2 (pc := 33) g wd_1029 dX5_wantOne_33 ?_
    refine zv_cVi (pc := 36) g cw_X5_237 (ctX5_mayMemories h) (by decide) (by decide) zz_p0 (mW β a) (fun T => zz_p1 T) (q := 0) rfl rfl rfl rfl rfl (Nat.le_of_ble_eq_true rfl) dX5_wantOne_36 (fun v5 S6 h => ?_)
    refine zv_istore_n (pc := 39) 2 [(2, .int v5), (0, .ref (a 0)), (1, .int x1)] g dX5_wantOne_39 rfl (by decide) rfl ?_
    refine zv_aload_n (pc := 40) g dX5_wantOne_40 1 rfl rfl ?_
    refine zv_ldc2 (pc := 41) g wd_1038 dX5_wantOne_41 ?_
    refine zv_iconst (pc := 44) g dX5_wantOne_44 (v := 0) (by decide) ?_
    refine zv_bipush (pc := 45) g dX5_wantOne_45 (v := 99) (by decide) ?_
    refine zv_iconst (pc := 47) g dX5_wantOne_47 (v := 0) (by decide) ?_
    refine zv_cVi (pc := 48) g cw_X5_243 (ctX5_mayWant h) (by decide) (by decide) zz_p0 (mW β a) (fun T => zz_p1 T) (q := 0) rfl rfl rfl rfl rfl (Nat.le_of_ble_eq_true rfl) dX5_wantOne_48 (fun v7 S8 h => ?_)
    refine zv_istore_n (pc := 51) 3 [(3, .int v7), (2, .int v5), (0, .ref (a 0)), (1, .int x1)] g dX5_wantOne_51 rfl (by decide) rfl ?_
    refine zv_aload_n (pc := 52) g dX5_wantOne_52 2 rfl rfl ?_
    refine zv_get (pc := 53) g fl_X5_225 0 rfl rfl dX5_wantOne_53 ?_
    refine zv_if_eq (pc := 56) 74 g dX5_wantOne_56 rfl (fun c9 => ?_) (fun c9 => ?_)
    · replace h := h.1 c9
      exact zv_vret (pc := 74) g hR dX5_wantOne_74 ⟨_, rfl, rfl, h⟩
    · replace h := h.2 c9
      refine zv_aload_n (pc := 59) g dX5_wantOne_59 2 rfl rfl ?_
      refine zv_iload_n (pc := 60) g dX5_wantOne_60 3 rfl rfl ?_
      refine zv_iload_n (pc := 61) g dX5_wantOne_61 1 rfl rfl ?_
      refine zv_if_ge (pc := 62) 69 g dX5_wantOne_62 rfl (fun c10 => ?_) (fun c10 => ?_)
      · replace h := h.1 c10
        refine zv_iload_n (pc := 69) g dX5_wantOne_69 1 rfl rfl ?_
        refine zv_iload_n (pc := 70) g dX5_wantOne_70 0 rfl rfl ?_
        refine zv_cVv (pc := 71) g cw_X5_100 (ctX5_adds h) (by decide) (by decide) zz_p0 (mW β a) (fun T => zz_p1 T) (q := 0) rfl rfl rfl rfl rfl (Nat.le_of_ble_eq_true rfl) dX5_wantOne_71 (fun S11 h => ?_)
        exact zv_vret (pc := 74) g hR dX5_wantOne_74 ⟨_, rfl, rfl, h⟩
      · replace h := h.2 c10
        refine zv_iconst (pc := 65) g dX5_wantOne_65 (v := 0) (by decide) ?_
        refine zv_goto (pc := 66) 70 g dX5_wantOne_66 rfl ?_
        refine zv_iload_n (pc := 70) g dX5_wantOne_70 0 rfl rfl ?_
        refine zv_cVv (pc := 71) g cw_X5_100 (ctX5_adds h) (by decide) (by decide) zz_p0 (mW β a) (fun T => zz_p1 T) (q := 0) rfl rfl rfl rfl rfl (Nat.le_of_ble_eq_true rfl) dX5_wantOne_71 (fun S12 h => ?_)
        exact zv_vret (pc := 74) g hR dX5_wantOne_74 ⟨_, rfl, rfl, h⟩
  · replace h := h.2 c3
    exact zv_vret (pc := 27) g hR dX5_wantOne_27 ⟨_, rfl, rfl, h⟩
def wX5_wantOne (post : (MSt) → Prop) (S : MSt) (x1 : Int32) : Prop := vp_in 2 51 ∧ (((8 : Int32) ≤ (m_row S (Int32.toNatClampNeg 2)) → wX5_wantOne_17 post S x1 0) ∧ (¬ (8 : Int32) ≤ (m_row S (Int32.toNatClampNeg 2)) → wX5_wantOne_17 post S x1 1))
set_option maxRecDepth 100000 in
set_option maxHeartbeats 4000000 in
theorem ctX5_wantOne {β : zz_B} {a : Nat → Nat} {post : (MSt) → Prop} {S : MSt} {x1 : Int32} (h : wX5_wantOne post S x1) : zCv β yX5_wantOne cX5_wantOne 4 none 5 111 [.ref (a 0), .int x1] (mW β a) S post := by
  unfold wX5_wantOne at h
  unfold zCv
  refine zC.of (by decide) (Nat.le_of_ble_eq_true rfl) ?_
  intro Γ g hR
  show zV β 4 Γ ((mW β a) S) 0 [(0, .ref (a 0)), (1, .int x1)] []
  refine zv_aload_n (pc := 0) g dX5_wantOne_0 0 rfl rfl ?_
  refine zv_aload_n (pc := 1) g dX5_wantOne_1 0 rfl rfl ?_
  refine zv_get (pc := 2) g fl_X5_7 0 rfl rfl dX5_wantOne_2 ?_
  refine zv_iconst (pc := 5) g dX5_wantOne_5 (v := 2) (by decide) ?_
  obtain ⟨hi, h⟩ := h
  refine zv_iald (pc := 6) g 1 rfl hi dX5_wantOne_6 ?_
  refine zv_bipush (pc := 7) g dX5_wantOne_7 (v := 8) (by decide) ?_
  refine zv_icmp_ge (pc := 9) 16 g dX5_wantOne_9 rfl (fun c1 => ?_) (fun c1 => ?_)
  · replace h := h.1 c1
    refine zv_iconst (pc := 16) g dX5_wantOne_16 (v := 0) (by decide) ?_
    refine zv_sub [0, 1] rfl ?_
    exact lX5_wantOne_17 g hR _ _ _ h
  · replace h := h.2 c1
    refine zv_iconst (pc := 12) g dX5_wantOne_12 (v := 1) (by decide) ?_
    refine zv_goto (pc := 13) 17 g dX5_wantOne_13 rfl ?_
    refine zv_sub [0, 1] rfl ?_
    exact lX5_wantOne_17 g hR _ _ _ h
def wX5_wantRoom (post : (MSt) → Prop) (S : MSt) : Prop := wX5_advance (fun S1 => wX5_wantNumber (fun v2 S3 => (¬ (m_good S3) = 0 → wX5_there (fun v5 => wX5_mayWant (fun v6 S7 => wX5_mayMemories (fun v8 S9 => ((m_good S9) = 0 → post S9) ∧ (¬ (m_good S9) = 0 → wX5_places (fun S11 => (0 ≤ v8 → wX5_places (fun S13 => post S13) S11 v2 1 v8) ∧ (¬ 0 ≤ v8 → wX5_there (fun v14 => wX5_places (fun S15 => post S15) S11 v2 1 v14) S11 v2 1)) S9 v2 0 v6)) S7 5878) S3 94574 0 99 v5) S3 v2 0) ∧ ((m_good S3) = 0 → post S3)) S1 0 7) S
set_option maxRecDepth 100000 in
set_option maxHeartbeats 4000000 in
theorem ctX5_wantRoom {β : zz_B} {a : Nat → Nat} {post : (MSt) → Prop} {S : MSt} (h : wX5_wantRoom post S) : zCv β yX5_wantRoom cX5_wantRoom 4 none 5 111 [.ref (a 0)] (mW β a) S post := by
  unfold wX5_wantRoom at h
  unfold zCv
  refine zC.of (by decide) (Nat.le_of_ble_eq_true rfl) ?_
  intro Γ g hR
  show zV β 4 Γ ((mW β a) S) 0 [(0, .ref (a 0))] []
  refine zv_aload_n (pc := 0) g dX5_wantRoom_0 0 rfl rfl ?_
  refine zv_cVv (pc := 1) g cw_X5_229 (ctX5_advance h) (by decide) (by decide) zz_p0 (mW β a) (fun T => zz_p1 T) (q := 0) rfl rfl rfl rfl rfl (Nat.le_of_ble_eq_true rfl) dX5_wantRoom_1 (fun S1 h => ?_)
  refine zv_aload_n (pc := 4) g dX5_wantRoom_4 0 rfl rfl ?_
  refine zv_iconst (pc := 5) g dX5_wantRoom_5 (v := 0) (by decide) ?_
  refine zv_bipush (pc := 6) g dX5_wantRoom_6 (v := 7) (by decide) ?_
  refine zv_cVi (pc := 8) g cw_X5_232 (ctX5_wantNumber h) (by decide) (by decide) zz_p0 (mW β a) (fun T => zz_p1 T) (q := 0) rfl rfl rfl rfl rfl (Nat.le_of_ble_eq_true rfl) dX5_wantRoom_8 (fun v2 S3 h => ?_)
  refine zv_istore_n (pc := 11) 1 [(1, .int v2), (0, .ref (a 0))] g dX5_wantRoom_11 rfl (by decide) rfl ?_
  refine zv_aload_n (pc := 12) g dX5_wantRoom_12 1 rfl rfl ?_
  refine zv_get (pc := 13) g fl_X5_225 0 rfl rfl dX5_wantRoom_13 ?_
  refine zv_if_ne (pc := 16) 20 g dX5_wantRoom_16 rfl (fun c4 => ?_) (fun c4 => ?_)
  · replace h := h.1 c4
    refine zv_aload_n (pc := 20) g dX5_wantRoom_20 1 rfl rfl ?_
    refine zv_ldc2 (pc := 21) g wd_1048 dX5_wantRoom_21 ?_
    refine zv_iconst (pc := 24) g dX5_wantRoom_24 (v := 0) (by decide) ?_
    refine zv_bipush (pc := 25) g dX5_wantRoom_25 (v := 99) (by decide) ?_
    refine zv_aload_n (pc := 27) g dX5_wantRoom_27 1 rfl rfl ?_
    refine zv_iload_n (pc := 28) g dX5_wantRoom_28 0 rfl rfl ?_
    refine zv_iconst (pc := 29) g dX5_wantRoom_29 (v := 0) (by decide) ?_
    refine zv_cVp (pc := 30) g cw_X5_71 (ctX5_there h) (by decide) (by decide) zz_p0 (q := 0) rfl rfl rfl rfl rfl (Nat.le_of_ble_eq_true rfl) dX5_wantRoom_30 (fun v5 h => ?_)
    refine zv_cVi (pc := 33) g cw_X5_243 (ctX5_mayWant h) (by decide) (by decide) zz_p0 (mW β a) (fun T => zz_p1 T) (q := 0) rfl rfl rfl rfl rfl (Nat.le_of_ble_eq_true rfl) dX5_wantRoom_33 (fun v6 S7 h => ?_)
    refine zv_istore_n (pc := 36) 2 [(2, .int v6), (1, .int v2), (0, .ref (a 0))] g dX5_wantRoom_36 rfl (by decide) rfl ?_
    refine zv_aload_n (pc := 37) g dX5_wantRoom_37 2 rfl rfl ?_
    refine zv_ldc2 (pc := 38) g wd_1049 dX5_wantRoom_38 ?_
    refine zv_cVi (pc := 41) g cw_X5_237 (ctX5_mayMemories h) (by decide) (by decide) zz_p0 (mW β a) (fun T => zz_p1 T) (q := 0) rfl rfl rfl rfl rfl (Nat.le_of_ble_eq_true rfl) dX5_wantRoom_41 (fun v8 S9 h => ?_)
    refine zv_istore_n (pc := 44) 3 [(3, .int v8), (2, .int v6), (1, .int v2), (0, .ref (a 0))] g dX5_wantRoom_44 rfl (by decide) rfl ?_
    refine zv_aload_n (pc := 45) g dX5_wantRoom_45 3 rfl rfl ?_
    refine zv_get (pc := 46) g fl_X5_225 0 rfl rfl dX5_wantRoom_46 ?_
    refine zv_if_eq (pc := 49) 79 g dX5_wantRoom_49 rfl (fun c10 => ?_) (fun c10 => ?_)
    · replace h := h.1 c10
      exact zv_vret (pc := 79) g hR dX5_wantRoom_79 ⟨_, rfl, rfl, h⟩
    · replace h := h.2 c10
      refine zv_aload_n (pc := 52) g dX5_wantRoom_52 3 rfl rfl ?_
      refine zv_iload_n (pc := 53) g dX5_wantRoom_53 2 rfl rfl ?_
      refine zv_iconst (pc := 54) g dX5_wantRoom_54 (v := 0) (by decide) ?_
      refine zv_iload_n (pc := 55) g dX5_wantRoom_55 1 rfl rfl ?_
      refine zv_cVv (pc := 56) g cw_X5_44 (ctX5_places h) (by decide) (by decide) zz_p0 (mW β a) (fun T => zz_p1 T) (q := 0) rfl rfl rfl rfl rfl (Nat.le_of_ble_eq_true rfl) dX5_wantRoom_56 (fun S11 h => ?_)
      refine zv_aload_n (pc := 59) g dX5_wantRoom_59 3 rfl rfl ?_
      refine zv_iload_n (pc := 60) g dX5_wantRoom_60 2 rfl rfl ?_
      refine zv_iconst (pc := 61) g dX5_wantRoom_61 (v := 1) (by decide) ?_
      refine zv_iload_n (pc := 62) g dX5_wantRoom_62 0 rfl rfl ?_
      refine zv_if_ge (pc := 63) 75 g dX5_wantRoom_63 rfl (fun c12 => ?_) (fun c12 => ?_)
      · replace h := h.1 c12
        refine zv_iload_n (pc := 75) g dX5_wantRoom_75 0 rfl rfl ?_
        refine zv_cVv (pc := 76) g cw_X5_44 (ctX5_places h) (by decide) (by decide) zz_p0 (mW β a) (fun T => zz_p1 T) (q := 0) rfl rfl rfl rfl rfl (Nat.le_of_ble_eq_true rfl) dX5_wantRoom_76 (fun S13 h => ?_)
        exact zv_vret (pc := 79) g hR dX5_wantRoom_79 ⟨_, rfl, rfl, h⟩
      · replace h := h.2 c12
        refine zv_aload_n (pc := 66) g dX5_wantRoom_66 3 rfl rfl ?_
        refine zv_iload_n (pc := 67) g dX5_wantRoom_67 2 rfl rfl ?_
        refine zv_iconst (pc := 68) g dX5_wantRoom_68 (v := 1) (by decide) ?_
        refine zv_cVp (pc := 69) g cw_X5_71 (ctX5_there h) (by decide) (by decide) zz_p0 (q := 0) rfl rfl rfl rfl rfl (Nat.le_of_ble_eq_true rfl) dX5_wantRoom_69 (fun v14 h => ?_)
        refine zv_goto (pc := 72) 76 g dX5_wantRoom_72 rfl ?_
        refine zv_cVv (pc := 76) g cw_X5_44 (ctX5_places h) (by decide) (by decide) zz_p0 (mW β a) (fun T => zz_p1 T) (q := 0) rfl rfl rfl rfl rfl (Nat.le_of_ble_eq_true rfl) dX5_wantRoom_76 (fun S15 h => ?_)
        exact zv_vret (pc := 79) g hR dX5_wantRoom_79 ⟨_, rfl, rfl, h⟩
  · replace h := h.2 c4
    exact zv_vret (pc := 19) g hR dX5_wantRoom_19 ⟨_, rfl, rfl, h⟩
def wX5_wantItem (post : (MSt) → Prop) (S : MSt) : Prop := wX5_kindHere (fun v1 => (v1 < 0 → wX5_isWord (fun v3 => (v3 = 0 → wX5_isWord (fun v5 => (v5 = 0 → wX5_isWord (fun v7 => (v7 = 0 → ∀ S9 : MSt, S9 = (m_good_s S 0) → (post S9)) ∧ (¬ v7 = 0 → wX5_advance (fun S10 => vp_in 2 51 ∧ (wX5_wantNumber (fun v11 S12 => ((m_good S12) = 0 → post S12) ∧ (¬ (m_good S12) = 0 → wX5_washes (fun v14 S15 => post S15) S12 v11)) S10 0 ((m_row S10 (Int32.toNatClampNeg 2)) - 1))) S)) S 453959) ∧ (¬ v5 = 0 → wX5_advance (fun S16 => wX5_wantNumber (fun v17 S18 => ((m_good S18) = 0 → vp_in 1 51 ∧ (vp_in 1 51 ∧ (∀ S20 : MSt, S20 = (m_row_s S18 (upd (m_row S18) (Int32.toNatClampNeg 1) (m_row S18 (Int32.toNatClampNeg 1)))) → (post S20)))) ∧ (¬ (m_good S18) = 0 → vp_in 1 51 ∧ (∀ S21 : MSt, S21 = (m_row_s S18 (upd (m_row S18) (Int32.toNatClampNeg 1) v17)) → (post S21)))) S16 0 20) S)) S 3217420) ∧ (¬ v3 = 0 → wX5_wantRoom (fun S22 => post S22) S)) S 365647) ∧ (¬ v1 < 0 → wX5_kindHere (fun v23 => wX5_wantOne (fun S24 => post S24) S v23) S)) S
set_option maxRecDepth 100000 in
set_option maxHeartbeats 4000000 in
theorem ctX5_wantItem {β : zz_B} {a : Nat → Nat} {post : (MSt) → Prop} {S : MSt} (h : wX5_wantItem post S) : zCv β yX5_wantItem cX5_wantItem 2 none 6 134 [.ref (a 0)] (mW β a) S post := by
  unfold wX5_wantItem at h
  unfold zCv
  refine zC.of (by decide) (Nat.le_of_ble_eq_true rfl) ?_
  intro Γ g hR
  show zV β 2 Γ ((mW β a) S) 0 [(0, .ref (a 0))] []
  refine zv_aload_n (pc := 0) g dX5_wantItem_0 0 rfl rfl ?_
  refine zv_cVp (pc := 1) g cw_X5_251 (ctX5_kindHere h) (by decide) (by decide) zz_p0 (q := 0) rfl rfl rfl rfl rfl (Nat.le_of_ble_eq_true rfl) dX5_wantItem_1 (fun v1 h => ?_)
  refine zv_if_lt (pc := 4) 18 g dX5_wantItem_4 rfl (fun c2 => ?_) (fun c2 => ?_)
  · replace h := h.1 c2
    refine zv_aload_n (pc := 18) g dX5_wantItem_18 0 rfl rfl ?_
    refine zv_ldc2 (pc := 19) g wd_1043 dX5_wantItem_19 ?_
    refine zv_cVp (pc := 22) g cw_X5_211 (ctX5_isWord h) (by decide) (by decide) zz_p0 (q := 0) rfl rfl rfl rfl rfl (Nat.le_of_ble_eq_true rfl) dX5_wantItem_22 (fun v3 h => ?_)
    refine zv_if_eq (pc := 25) 35 g dX5_wantItem_25 rfl (fun c4 => ?_) (fun c4 => ?_)
    · replace h := h.1 c4
      refine zv_aload_n (pc := 35) g dX5_wantItem_35 0 rfl rfl ?_
      refine zv_ldc2 (pc := 36) g wd_1050 dX5_wantItem_36 ?_
      refine zv_cVp (pc := 39) g cw_X5_211 (ctX5_isWord h) (by decide) (by decide) zz_p0 (q := 0) rfl rfl rfl rfl rfl (Nat.le_of_ble_eq_true rfl) dX5_wantItem_39 (fun v5 h => ?_)
      refine zv_if_eq (pc := 42) 83 g dX5_wantItem_42 rfl (fun c6 => ?_) (fun c6 => ?_)
      · replace h := h.1 c6
        refine zv_aload_n (pc := 83) g dX5_wantItem_83 0 rfl rfl ?_
        refine zv_ldc2 (pc := 84) g wd_1051 dX5_wantItem_84 ?_
        refine zv_cVp (pc := 87) g cw_X5_211 (ctX5_isWord h) (by decide) (by decide) zz_p0 (q := 0) rfl rfl rfl rfl rfl (Nat.le_of_ble_eq_true rfl) dX5_wantItem_87 (fun v7 h => ?_)
        refine zv_if_eq (pc := 90) 127 g dX5_wantItem_90 rfl (fun c8 => ?_) (fun c8 => ?_)
        · replace h := h.1 c8
          refine zv_aload_n (pc := 127) g dX5_wantItem_127 0 rfl rfl ?_
          refine zv_iconst (pc := 128) g dX5_wantItem_128 (v := 0) (by decide) ?_
          refine zv_put (pc := 129) ((mW β a) (m_good_s S 0)) g fp_X5_225 0 rfl (by decide) (by decide) (Nat.le_of_ble_eq_true rfl) rfl dX5_wantItem_129 ?_
          refine zv_nmS (wf := (mW β a)) (fun S9 eS9 => ?_)
          replace h := h S9 eS9
          exact zv_vret (pc := 132) g hR dX5_wantItem_132 ⟨_, rfl, rfl, h⟩
        · replace h := h.2 c8
          refine zv_aload_n (pc := 93) g dX5_wantItem_93 0 rfl rfl ?_
          refine zv_cVv (pc := 94) g cw_X5_229 (ctX5_advance h) (by decide) (by decide) zz_p0 (mW β a) (fun T => zz_p1 T) (q := 0) rfl rfl rfl rfl rfl (Nat.le_of_ble_eq_true rfl) dX5_wantItem_94 (fun S10 h => ?_)
          refine zv_aload_n (pc := 97) g dX5_wantItem_97 0 rfl rfl ?_
          refine zv_iconst (pc := 98) g dX5_wantItem_98 (v := 0) (by decide) ?_
          refine zv_aload_n (pc := 99) g dX5_wantItem_99 0 rfl rfl ?_
          refine zv_get (pc := 100) g fl_X5_7 0 rfl rfl dX5_wantItem_100 ?_
          refine zv_iconst (pc := 103) g dX5_wantItem_103 (v := 2) (by decide) ?_
          obtain ⟨hi, h⟩ := h
          refine zv_iald (pc := 104) g 1 rfl hi dX5_wantItem_104 ?_
          refine zv_iconst (pc := 105) g dX5_wantItem_105 (v := 1) (by decide) ?_
          refine zv_isub (pc := 106) g dX5_wantItem_106 ?_
          refine zv_cVi (pc := 107) g cw_X5_232 (ctX5_wantNumber h) (by decide) (by decide) zz_p0 (mW β a) (fun T => zz_p1 T) (q := 0) rfl rfl rfl rfl rfl (Nat.le_of_ble_eq_true rfl) dX5_wantItem_107 (fun v11 S12 h => ?_)
          refine zv_istore_n (pc := 110) 1 [(1, .int v11), (0, .ref (a 0))] g dX5_wantItem_110 rfl (by decide) rfl ?_
          refine zv_aload_n (pc := 111) g dX5_wantItem_111 1 rfl rfl ?_
          refine zv_get (pc := 112) g fl_X5_225 0 rfl rfl dX5_wantItem_112 ?_
          refine zv_if_eq (pc := 115) 124 g dX5_wantItem_115 rfl (fun c13 => ?_) (fun c13 => ?_)
          · replace h := h.1 c13
            refine zv_goto (pc := 124) 132 g dX5_wantItem_124 rfl ?_
            exact zv_vret (pc := 132) g hR dX5_wantItem_132 ⟨_, rfl, rfl, h⟩
          · replace h := h.2 c13
            refine zv_aload_n (pc := 118) g dX5_wantItem_118 1 rfl rfl ?_
            refine zv_iload_n (pc := 119) g dX5_wantItem_119 0 rfl rfl ?_
            refine zv_cVi (pc := 120) g cw_X5_133 (ctX5_washes h) (by decide) (by decide) zz_p0 (mW β a) (fun T => zz_p1 T) (q := 0) rfl rfl rfl rfl rfl (Nat.le_of_ble_eq_true rfl) dX5_wantItem_120 (fun v14 S15 h => ?_)
            refine zv_pop (pc := 123) g dX5_wantItem_123 rfl ?_
            refine zv_goto (pc := 124) 132 g dX5_wantItem_124 rfl ?_
            exact zv_vret (pc := 132) g hR dX5_wantItem_132 ⟨_, rfl, rfl, h⟩
      · replace h := h.2 c6
        refine zv_aload_n (pc := 45) g dX5_wantItem_45 0 rfl rfl ?_
        refine zv_cVv (pc := 46) g cw_X5_229 (ctX5_advance h) (by decide) (by decide) zz_p0 (mW β a) (fun T => zz_p1 T) (q := 0) rfl rfl rfl rfl rfl (Nat.le_of_ble_eq_true rfl) dX5_wantItem_46 (fun S16 h => ?_)
        refine zv_aload_n (pc := 49) g dX5_wantItem_49 0 rfl rfl ?_
        refine zv_iconst (pc := 50) g dX5_wantItem_50 (v := 0) (by decide) ?_
        refine zv_bipush (pc := 51) g dX5_wantItem_51 (v := 20) (by decide) ?_
        refine zv_cVi (pc := 53) g cw_X5_232 (ctX5_wantNumber h) (by decide) (by decide) zz_p0 (mW β a) (fun T => zz_p1 T) (q := 0) rfl rfl rfl rfl rfl (Nat.le_of_ble_eq_true rfl) dX5_wantItem_53 (fun v17 S18 h => ?_)
        refine zv_istore_n (pc := 56) 1 [(1, .int v17), (0, .ref (a 0))] g dX5_wantItem_56 rfl (by decide) rfl ?_
        refine zv_aload_n (pc := 57) g dX5_wantItem_57 1 rfl rfl ?_
        refine zv_get (pc := 58) g fl_X5_7 0 rfl rfl dX5_wantItem_58 ?_
        refine zv_iconst (pc := 61) g dX5_wantItem_61 (v := 1) (by decide) ?_
        refine zv_aload_n (pc := 62) g dX5_wantItem_62 1 rfl rfl ?_
        refine zv_get (pc := 63) g fl_X5_225 0 rfl rfl dX5_wantItem_63 ?_
        refine zv_if_eq (pc := 66) 73 g dX5_wantItem_66 rfl (fun c19 => ?_) (fun c19 => ?_)
        · replace h := h.1 c19
          refine zv_aload_n (pc := 73) g dX5_wantItem_73 1 rfl rfl ?_
          refine zv_get (pc := 74) g fl_X5_7 0 rfl rfl dX5_wantItem_74 ?_
          refine zv_iconst (pc := 77) g dX5_wantItem_77 (v := 1) (by decide) ?_
          obtain ⟨hi, h⟩ := h
          refine zv_iald (pc := 78) g 1 rfl hi dX5_wantItem_78 ?_
          obtain ⟨hi, h⟩ := h
          refine zv_ials (pc := 79) ((mW β a) (m_row_s S18 (upd (m_row S18) (Int32.toNatClampNeg 1) (m_row S18 (Int32.toNatClampNeg 1))))) g 1 rfl hi rfl dX5_wantItem_79 ?_
          refine zv_nmS (wf := (mW β a)) (fun S20 eS20 => ?_)
          replace h := h S20 eS20
          refine zv_goto (pc := 80) 132 g dX5_wantItem_80 rfl ?_
          exact zv_vret (pc := 132) g hR dX5_wantItem_132 ⟨_, rfl, rfl, h⟩
        · replace h := h.2 c19
          refine zv_iload_n (pc := 69) g dX5_wantItem_69 0 rfl rfl ?_
          refine zv_goto (pc := 70) 79 g dX5_wantItem_70 rfl ?_
          obtain ⟨hi, h⟩ := h
          refine zv_ials (pc := 79) ((mW β a) (m_row_s S18 (upd (m_row S18) (Int32.toNatClampNeg 1) v17))) g 1 rfl hi rfl dX5_wantItem_79 ?_
          refine zv_nmS (wf := (mW β a)) (fun S21 eS21 => ?_)
          replace h := h S21 eS21
          refine zv_goto (pc := 80) 132 g dX5_wantItem_80 rfl ?_
          exact zv_vret (pc := 132) g hR dX5_wantItem_132 ⟨_, rfl, rfl, h⟩
    · replace h := h.2 c4
      refine zv_aload_n (pc := 28) g dX5_wantItem_28 0 rfl rfl ?_
      refine zv_cVv (pc := 29) g cw_X5_259 (ctX5_wantRoom h) (by decide) (by decide) zz_p0 (mW β a) (fun T => zz_p1 T) (q := 0) rfl rfl rfl rfl rfl (Nat.le_of_ble_eq_true rfl) dX5_wantItem_29 (fun S22 h => ?_)
      refine zv_goto (pc := 32) 132 g dX5_wantItem_32 rfl ?_
      exact zv_vret (pc := 132) g hR dX5_wantItem_132 ⟨_, rfl, rfl, h⟩
  · replace h := h.2 c2
    refine zv_aload_n (pc := 7) g dX5_wantItem_7 0 rfl rfl ?_
    refine zv_aload_n (pc := 8) g dX5_wantItem_8 0 rfl rfl ?_
    refine zv_cVp (pc := 9) g cw_X5_251 (ctX5_kindHere h) (by decide) (by decide) zz_p0 (q := 0) rfl rfl rfl rfl rfl (Nat.le_of_ble_eq_true rfl) dX5_wantItem_9 (fun v23 h => ?_)
    refine zv_cVv (pc := 12) g cw_X5_254 (ctX5_wantOne h) (by decide) (by decide) zz_p0 (mW β a) (fun T => zz_p1 T) (q := 0) rfl rfl rfl rfl rfl (Nat.le_of_ble_eq_true rfl) dX5_wantItem_12 (fun S24 h => ?_)
    refine zv_goto (pc := 15) 132 g dX5_wantItem_15 rfl ?_
    exact zv_vret (pc := 132) g hR dX5_wantItem_132 ⟨_, rfl, rfl, h⟩
def wX5_house_91 (post : Int32 → (MSt) → Prop) (S : MSt) (x1 : Int32) (s0 : Int32) : Prop := (s0 = 0 ∨ s0 = 1) ∧ (∀ S6 : MSt, S6 = (m_good_s S s0) → (∀ S7 : MSt, S7 = (m_tapeMany_s S6 0) → ((¬ (m_good S7) = 0 → post x1 S7) ∧ ((m_good S7) = 0 → wX5_moveAll_before (fun S9 => post ((-1) - (m_begins S9)) S9) S7 0))))
set_option maxRecDepth 100000 in
set_option maxHeartbeats 4000000 in
theorem lX5_house_91 {β : zz_B} {Γ : zz_X} {a : Nat → Nat} {post : Int32 → (MSt) → Prop} (g : zG β 3 Γ cX5_house RX5 7 155) (hR : zR β Γ (some .int) (fun r w => ∃ (v : Int32) (T : MSt), r = some (.int v) ∧ w = (mW β a) T ∧ post v T)) (S : MSt) (x1 : Int32) (s0 : Int32) (h : wX5_house_91 post S x1 s0) : zV β 3 Γ ((mW β a) S) 91 [(0, .ref (a 0)), (1, .int x1)] [.int s0, .ref (a 0)] := by
  unfold wX5_house_91 at h
  obtain ⟨hz, h⟩ := h
  refine zv_put (pc := 91) ((mW β a) (m_good_s S s0)) g fp_X5_225 0 rfl (zz_nb hz).1 (zz_nb hz).2 (Nat.le_of_ble_eq_true rfl) rfl dX5_house_91 ?_
  refine zv_nmS (wf := (mW β a)) (fun S6 eS6 => ?_)
  replace h := h S6 eS6
  refine zv_aload_n (pc := 94) g dX5_house_94 0 rfl rfl ?_
  refine zv_iconst (pc := 95) g dX5_house_95 (v := 0) (by decide) ?_
  refine zv_put (pc := 96) ((mW β a) (m_tapeMany_s S6 0)) g fp_X5_174 0 rfl rfl rfl (Nat.le_of_ble_eq_true rfl) rfl dX5_house_96 ?_
  refine zv_nmS (wf := (mW β a)) (fun S7 eS7 => ?_)
  replace h := h S7 eS7
  refine zv_aload_n (pc := 99) g dX5_house_99 0 rfl rfl ?_
  refine zv_get (pc := 100) g fl_X5_225 0 rfl rfl dX5_house_100 ?_
  refine zv_if_ne (pc := 103) 122 g dX5_house_103 rfl (fun c8 => ?_) (fun c8 => ?_)
  · replace h := h.1 c8
    refine zv_iload_n (pc := 122) g dX5_house_122 1 rfl rfl ?_
    exact zv_iret (pc := 123) g hR dX5_house_123 ⟨_, _, rfl, rfl, h⟩
  · replace h := h.2 c8
    refine zv_aload_n (pc := 106) g dX5_house_106 0 rfl rfl ?_
    refine zv_iconst (pc := 107) g dX5_house_107 (v := 0) (by decide) ?_
    refine zv_aload_n (pc := 108) g dX5_house_108 0 rfl rfl ?_
    refine zv_get (pc := 109) g fl_X5_41 0 rfl rfl dX5_house_109 ?_
    refine zv_cVv (pc := 112) g cw_X5_147 (ctX5_moveAll_before h) (by decide) (by decide) zz_p0 (mW β a) (fun T => zz_p1 T) (q := 0) rfl rfl rfl rfl rfl (Nat.le_of_ble_eq_true rfl) dX5_house_112 (fun S9 h => ?_)
    refine zv_iconst (pc := 115) g dX5_house_115 (v := (-1)) (by decide) ?_
    refine zv_aload_n (pc := 116) g dX5_house_116 0 rfl rfl ?_
    refine zv_get (pc := 117) g fl_X5_181 0 rfl rfl dX5_house_117 ?_
    refine zv_isub (pc := 120) g dX5_house_120 ?_
    exact zv_iret (pc := 121) g hR dX5_house_121 ⟨_, _, rfl, rfl, h⟩
def wX5_house_90 (post : Int32 → (MSt) → Prop) (S : MSt) (x1 : Int32) : Prop := wX5_house_91 post S x1 0
set_option maxRecDepth 100000 in
set_option maxHeartbeats 4000000 in
theorem lX5_house_90 {β : zz_B} {Γ : zz_X} {a : Nat → Nat} {post : Int32 → (MSt) → Prop} (g : zG β 3 Γ cX5_house RX5 7 155) (hR : zR β Γ (some .int) (fun r w => ∃ (v : Int32) (T : MSt), r = some (.int v) ∧ w = (mW β a) T ∧ post v T)) (S : MSt) (x1 : Int32) (h : wX5_house_90 post S x1) : zV β 3 Γ ((mW β a) S) 90 [(0, .ref (a 0)), (1, .int x1)] [.ref (a 0)] := by
  unfold wX5_house_90 at h
  refine zv_iconst (pc := 90) g dX5_house_90 (v := 0) (by decide) ?_
  refine zv_sub [0, 1] rfl ?_
  exact lX5_house_91 g hR _ _ _ h
def wX5_house_23 (post : Int32 → (MSt) → Prop) : Nat → (MSt) → (Int32) → (Int32) → Prop
  | 0, _, _, _ => False
  | f0 + 1, S, x1, x2 => (x2 = 0 → ((m_good S) = 0 → wX5_house_90 post S x1) ∧ (¬ (m_good S) = 0 → (¬ (m_sort S) = 0 → wX5_house_90 post S x1) ∧ ((m_sort S) = 0 → wX5_house_91 post S x1 1))) ∧ (¬ x2 = 0 → wX5_advance (fun S11 => wX5_wantItem (fun S12 => ((m_good S12) = 0 → wX5_house_23 post f0 S12 (x1 + 1) 0) ∧ (¬ (m_good S12) = 0 → (¬ (m_sort S12) = (3 : Int32) → wX5_house_23 post f0 S12 (x1 + 1) 0) ∧ ((m_sort S12) = (3 : Int32) → (¬ (m_value S12) = (59 : Int32) → wX5_house_23 post f0 S12 (x1 + 1) 0) ∧ ((m_value S12) = (59 : Int32) → wX5_house_23 post f0 S12 (x1 + 1) 1)))) S11) S)
set_option maxRecDepth 100000 in
set_option maxHeartbeats 4000000 in
theorem lX5_house_23 {β : zz_B} {Γ : zz_X} {a : Nat → Nat} {post : Int32 → (MSt) → Prop} (g : zG β 3 Γ cX5_house RX5 7 155) (hR : zR β Γ (some .int) (fun r w => ∃ (v : Int32) (T : MSt), r = some (.int v) ∧ w = (mW β a) T ∧ post v T)) : ∀ (f0 : Nat) (S : MSt) (x1 : Int32) (x2 : Int32) , wX5_house_23 post f0 S x1 x2 → zV β 3 Γ ((mW β a) S) 23 [(0, .ref (a 0)), (1, .int x1), (2, .int x2)] [] := by
  intro f0
  induction f0 with
  | zero => intro S x1 x2 h; exact h.elim
  | succ f0 ih0 =>
    intro S x1 x2 h
    rw [wX5_house_23] at h
    refine zv_iload_n (pc := 23) g dX5_house_23 2 rfl rfl ?_
    refine zv_if_eq (pc := 24) 71 g dX5_house_24 rfl (fun c4 => ?_) (fun c4 => ?_)
    · replace h := h.1 c4
      refine zv_aload_n (pc := 71) g dX5_house_71 0 rfl rfl ?_
      refine zv_aload_n (pc := 72) g dX5_house_72 0 rfl rfl ?_
      refine zv_get (pc := 73) g fl_X5_225 0 rfl rfl dX5_house_73 ?_
      refine zv_if_eq (pc := 76) 90 g dX5_house_76 rfl (fun c5 => ?_) (fun c5 => ?_)
      · replace h := h.1 c5
        refine zv_sub [0, 1] rfl ?_
        exact lX5_house_90 g hR _ _ h
      · replace h := h.2 c5
        refine zv_aload_n (pc := 79) g dX5_house_79 0 rfl rfl ?_
        refine zv_get (pc := 80) g fl_X5_193 0 rfl rfl dX5_house_80 ?_
        refine zv_if_ne (pc := 83) 90 g dX5_house_83 rfl (fun c10 => ?_) (fun c10 => ?_)
        · replace h := h.1 c10
          refine zv_sub [0, 1] rfl ?_
          exact lX5_house_90 g hR _ _ h
        · replace h := h.2 c10
          refine zv_iconst (pc := 86) g dX5_house_86 (v := 1) (by decide) ?_
          refine zv_goto (pc := 87) 91 g dX5_house_87 rfl ?_
          refine zv_sub [0, 1] rfl ?_
          exact lX5_house_91 g hR _ _ _ h
    · replace h := h.2 c4
      refine zv_aload_n (pc := 27) g dX5_house_27 0 rfl rfl ?_
      refine zv_cVv (pc := 28) g cw_X5_229 (ctX5_advance h) (by decide) (by decide) zz_p0 (mW β a) (fun T => zz_p1 T) (q := 0) rfl rfl rfl rfl rfl (Nat.le_of_ble_eq_true rfl) dX5_house_28 (fun S11 h => ?_)
      refine zv_aload_n (pc := 31) g dX5_house_31 0 rfl rfl ?_
      refine zv_cVv (pc := 32) g cw_X5_266 (ctX5_wantItem h) (by decide) (by decide) zz_p0 (mW β a) (fun T => zz_p1 T) (q := 0) rfl rfl rfl rfl rfl (Nat.le_of_ble_eq_true rfl) dX5_house_32 (fun S12 h => ?_)
      refine zv_iinc (pc := 35) 1 [(1, .int (x1 + 1)), (0, .ref (a 0)), (2, .int x2)] g dX5_house_35 1 rfl (by decide) (by decide) rfl ?_
      refine zv_aload_n (pc := 38) g dX5_house_38 1 rfl rfl ?_
      refine zv_get (pc := 39) g fl_X5_225 0 rfl rfl dX5_house_39 ?_
      refine zv_if_eq (pc := 42) 66 g dX5_house_42 rfl (fun c13 => ?_) (fun c13 => ?_)
      · replace h := h.1 c13
        refine zv_iconst (pc := 66) g dX5_house_66 (v := 0) (by decide) ?_
        refine zv_istore_n (pc := 67) 2 [(2, .int 0), (1, .int (x1 + 1)), (0, .ref (a 0))] g dX5_house_67 rfl (by decide) rfl ?_
        refine zv_goto (pc := 68) 23 g dX5_house_68 rfl ?_
        refine zv_sub [2, 1, 0] rfl ?_
        exact ih0 _ _ _ h
      · replace h := h.2 c13
        refine zv_aload_n (pc := 45) g dX5_house_45 1 rfl rfl ?_
        refine zv_get (pc := 46) g fl_X5_193 0 rfl rfl dX5_house_46 ?_
        refine zv_iconst (pc := 49) g dX5_house_49 (v := 3) (by decide) ?_
        refine zv_icmp_ne (pc := 50) 66 g dX5_house_50 rfl (fun c14 => ?_) (fun c14 => ?_)
        · replace h := h.1 c14
          refine zv_iconst (pc := 66) g dX5_house_66 (v := 0) (by decide) ?_
          refine zv_istore_n (pc := 67) 2 [(2, .int 0), (1, .int (x1 + 1)), (0, .ref (a 0))] g dX5_house_67 rfl (by decide) rfl ?_
          refine zv_goto (pc := 68) 23 g dX5_house_68 rfl ?_
          refine zv_sub [2, 1, 0] rfl ?_
          exact ih0 _ _ _ h
        · replace h := h.2 c14
          refine zv_aload_n (pc := 53) g dX5_house_53 1 rfl rfl ?_
          refine zv_get (pc := 54) g fl_X5_200 0 rfl rfl dX5_house_54 ?_
          refine zv_bipush (pc := 57) g dX5_house_57 (v := 59) (by decide) ?_
          refine zv_icmp_ne (pc := 59) 66 g dX5_house_59 rfl (fun c15 => ?_) (fun c15 => ?_)
          · replace h := h.1 c15
            refine zv_iconst (pc := 66) g dX5_house_66 (v := 0) (by decide) ?_
            refine zv_istore_n (pc := 67) 2 [(2, .int 0), (1, .int (x1 + 1)), (0, .ref (a 0))] g dX5_house_67 rfl (by decide) rfl ?_
            refine zv_goto (pc := 68) 23 g dX5_house_68 rfl ?_
            refine zv_sub [2, 1, 0] rfl ?_
            exact ih0 _ _ _ h
          · replace h := h.2 c15
            refine zv_iconst (pc := 62) g dX5_house_62 (v := 1) (by decide) ?_
            refine zv_goto (pc := 63) 67 g dX5_house_63 rfl ?_
            refine zv_istore_n (pc := 67) 2 [(2, .int 1), (1, .int (x1 + 1)), (0, .ref (a 0))] g dX5_house_67 rfl (by decide) rfl ?_
            refine zv_goto (pc := 68) 23 g dX5_house_68 rfl ?_
            refine zv_sub [2, 1, 0] rfl ?_
            exact ih0 _ _ _ h
def wX5_house (post : Int32 → (MSt) → Prop) (S : MSt) : Prop := wX5_moveAll_before (fun S1 => ∀ S2 : MSt, S2 = (m_tokenEnds_s S1 0) → (∀ S3 : MSt, S3 = (m_good_s S2 1) → (∃ f16 : Nat, wX5_house_23 post f16 S3 0 1))) S 1
set_option maxRecDepth 100000 in
set_option maxHeartbeats 4000000 in
theorem ctX5_house {β : zz_B} {a : Nat → Nat} {post : Int32 → (MSt) → Prop} {S : MSt} (h : wX5_house post S) : zCi β yX5_house cX5_house 3 (some .int) 7 155 [.ref (a 0)] (mW β a) S post := by
  unfold wX5_house at h
  unfold zCi
  refine zC.of (by decide) (Nat.le_of_ble_eq_true rfl) ?_
  intro Γ g hR
  show zV β 3 Γ ((mW β a) S) 0 [(0, .ref (a 0))] []
  refine zv_aload_n (pc := 0) g dX5_house_0 0 rfl rfl ?_
  refine zv_iconst (pc := 1) g dX5_house_1 (v := 1) (by decide) ?_
  refine zv_aload_n (pc := 2) g dX5_house_2 0 rfl rfl ?_
  refine zv_get (pc := 3) g fl_X5_41 0 rfl rfl dX5_house_3 ?_
  refine zv_cVv (pc := 6) g cw_X5_147 (ctX5_moveAll_before h) (by decide) (by decide) zz_p0 (mW β a) (fun T => zz_p1 T) (q := 0) rfl rfl rfl rfl rfl (Nat.le_of_ble_eq_true rfl) dX5_house_6 (fun S1 h => ?_)
  refine zv_aload_n (pc := 9) g dX5_house_9 0 rfl rfl ?_
  refine zv_iconst (pc := 10) g dX5_house_10 (v := 0) (by decide) ?_
  refine zv_put (pc := 11) ((mW β a) (m_tokenEnds_s S1 0)) g fp_X5_178 0 rfl rfl rfl (Nat.le_of_ble_eq_true rfl) rfl dX5_house_11 ?_
  refine zv_nmS (wf := (mW β a)) (fun S2 eS2 => ?_)
  replace h := h S2 eS2
  refine zv_aload_n (pc := 14) g dX5_house_14 0 rfl rfl ?_
  refine zv_iconst (pc := 15) g dX5_house_15 (v := 1) (by decide) ?_
  refine zv_put (pc := 16) ((mW β a) (m_good_s S2 1)) g fp_X5_225 0 rfl (by decide) (by decide) (Nat.le_of_ble_eq_true rfl) rfl dX5_house_16 ?_
  refine zv_nmS (wf := (mW β a)) (fun S3 eS3 => ?_)
  replace h := h S3 eS3
  refine zv_iconst (pc := 19) g dX5_house_19 (v := 0) (by decide) ?_
  refine zv_istore_n (pc := 20) 1 [(1, .int 0), (0, .ref (a 0))] g dX5_house_20 rfl (by decide) rfl ?_
  refine zv_iconst (pc := 21) g dX5_house_21 (v := 1) (by decide) ?_
  refine zv_istore_n (pc := 22) 2 [(2, .int 1), (1, .int 0), (0, .ref (a 0))] g dX5_house_22 rfl (by decide) rfl ?_
  obtain ⟨f16, h⟩ := h
  refine zv_sub [2, 1, 0] rfl ?_
  exact lX5_house_23 g hR f16 _ _ _ h
def wX5_isSheet (post : Int32 → Prop) (x0 : Int32) : Prop := wX5_in (fun v1 => (v1 = 0 ∨ v1 = 1) ∧ post v1) x0 0 3
set_option maxRecDepth 100000 in
set_option maxHeartbeats 4000000 in
theorem ctX5_isSheet {β : zz_B} {post : Int32 → Prop} {x0 : Int32} (h : wX5_isSheet post x0) : zCp β yX5_isSheet cX5_isSheet 1 (some .boolean) 1 22 [.int x0] [] post := by
  unfold wX5_isSheet at h
  unfold zCp
  refine zC.of (by decide) (Nat.le_of_ble_eq_true rfl) ?_
  intro Γ g hR
  show zV β 1 Γ [] 0 [(0, .int x0)] []
  refine zv_iload_n (pc := 0) g dX5_isSheet_0 0 rfl rfl ?_
  refine zv_iconst (pc := 1) g dX5_isSheet_1 (v := 0) (by decide) ?_
  refine zv_iconst (pc := 2) g dX5_isSheet_2 (v := 3) (by decide) ?_
  refine zv_cSp (pc := 3) g cw_X5_49 (ctX5_in h) (by decide) (by decide) zz_pN rfl rfl (Nat.le_of_ble_eq_true rfl) dX5_isSheet_3 (fun v1 h => ?_)
  exact zv_zret (pc := 6) g hR (zz_nb h.1).1 dX5_isSheet_6 ⟨_, rfl, rfl, h.2⟩
def wX5_narrow (post : Int64 → Prop) (x0 : Int32) (x1 : Int64) : Prop := (¬ x0 = (8 : Int32) → (¬ x0 = (16 : Int32) → post x1) ∧ (x0 = (16 : Int32) → post ((x1 <<< (Int32.toInt64 48 &&& 63)) >>> (Int32.toInt64 48 &&& 63)))) ∧ (x0 = (8 : Int32) → post ((x1 <<< (Int32.toInt64 56 &&& 63)) >>> (Int32.toInt64 56 &&& 63)))
set_option maxRecDepth 100000 in
set_option maxHeartbeats 4000000 in
theorem ctX5_narrow {β : zz_B} {post : Int64 → Prop} {x0 : Int32} {x1 : Int64} (h : wX5_narrow post x0 x1) : zCq β yX5_narrow cX5_narrow 3 (some .long) 0 0 [.int x0, .long x1] [] post := by
  unfold wX5_narrow at h
  unfold zCq
  refine zC.of (by decide) (Nat.le_of_ble_eq_true rfl) ?_
  intro Γ g hR
  show zV β 3 Γ [] 0 [(0, .int x0), (1, .long x1)] []
  refine zv_iload_n (pc := 0) g dX5_narrow_0 0 rfl rfl ?_
  refine zv_bipush (pc := 1) g dX5_narrow_1 (v := 8) (by decide) ?_
  refine zv_icmp_ne (pc := 3) 16 g dX5_narrow_3 rfl (fun c1 => ?_) (fun c1 => ?_)
  · replace h := h.1 c1
    refine zv_iload_n (pc := 16) g dX5_narrow_16 0 rfl rfl ?_
    refine zv_bipush (pc := 17) g dX5_narrow_17 (v := 16) (by decide) ?_
    refine zv_icmp_ne (pc := 19) 32 g dX5_narrow_19 rfl (fun c2 => ?_) (fun c2 => ?_)
    · replace h := h.1 c2
      refine zv_lload_n (pc := 32) g dX5_narrow_32 1 rfl rfl ?_
      exact zv_lret (pc := 33) g hR dX5_narrow_33 ⟨_, rfl, rfl, h⟩
    · replace h := h.2 c2
      refine zv_lload_n (pc := 22) g dX5_narrow_22 1 rfl rfl ?_
      refine zv_bipush (pc := 23) g dX5_narrow_23 (v := 48) (by decide) ?_
      refine zv_lshl (pc := 25) g dX5_narrow_25 ?_
      refine zv_bipush (pc := 26) g dX5_narrow_26 (v := 48) (by decide) ?_
      refine zv_lshr (pc := 28) g dX5_narrow_28 ?_
      refine zv_goto (pc := 29) 33 g dX5_narrow_29 rfl ?_
      exact zv_lret (pc := 33) g hR dX5_narrow_33 ⟨_, rfl, rfl, h⟩
  · replace h := h.2 c1
    refine zv_lload_n (pc := 6) g dX5_narrow_6 1 rfl rfl ?_
    refine zv_bipush (pc := 7) g dX5_narrow_7 (v := 56) (by decide) ?_
    refine zv_lshl (pc := 9) g dX5_narrow_9 ?_
    refine zv_bipush (pc := 10) g dX5_narrow_10 (v := 56) (by decide) ?_
    refine zv_lshr (pc := 12) g dX5_narrow_12 ?_
    refine zv_goto (pc := 13) 33 g dX5_narrow_13 rfl ?_
    exact zv_lret (pc := 33) g hR dX5_narrow_33 ⟨_, rfl, rfl, h⟩
