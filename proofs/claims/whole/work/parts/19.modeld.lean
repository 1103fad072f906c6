def wX5_sheet_86 (post : Int32 → (MSt) → Prop) : Nat → (MSt) → (Int32) → (Int32) → Prop
  | 0, _, _, _ => False
  | f0 + 1, S, x1, x4 => ((40 : Int32) ≤ x4 → vp_in x1 4 ∧ (post (m_sizeOf S (Int32.toNatClampNeg x1)) S)) ∧ (¬ (40 : Int32) ≤ x4 → vp_in ((40 * x1) + x4) 160 ∧ (∀ S12 : MSt, S12 = (m_sheets_s S (vp_updL (m_sheets S) (Int32.toNatClampNeg ((40 * x1) + x4)) 0)) → (wX5_sheet_86 post f0 S12 x1 (x4 + 1))))
set_option maxRecDepth 100000 in
set_option maxHeartbeats 4000000 in
theorem lX5_sheet_86 {β : zz_B} {Γ : zz_X} {a : Nat → Nat} {post : Int32 → (MSt) → Prop} (g : zG β 5 Γ cX5_sheet RX5 2 42) (hR : zR β Γ (some .int) (fun r w => ∃ (v : Int32) (T : MSt), r = some (.int v) ∧ w = (mW β a) T ∧ post v T)) : ∀ (f0 : Nat) (S : MSt) (x1 : Int32) (x4 : Int32) , wX5_sheet_86 post f0 S x1 x4 → zV β 5 Γ ((mW β a) S) 86 [(0, .ref (a 0)), (1, .int x1), (4, .int x4)] [] := by
  intro f0
  induction f0 with
  | zero => intro S x1 x4 h; exact h.elim
  | succ f0 ih0 =>
    intro S x1 x4 h
    rw [wX5_sheet_86] at h
    refine zv_iload (pc := 86) g dX5_sheet_86 2 rfl ?_
    refine zv_bipush (pc := 88) g dX5_sheet_88 (v := 40) (by decide) ?_
    refine zv_icmp_ge (pc := 90) 112 g dX5_sheet_90 rfl (fun c11 => ?_) (fun c11 => ?_)
    · replace h := h.1 c11
      refine zv_aload_n (pc := 112) g dX5_sheet_112 0 rfl rfl ?_
      refine zv_get (pc := 113) g fl_X5_28 0 rfl rfl dX5_sheet_113 ?_
      refine zv_iload_n (pc := 116) g dX5_sheet_116 1 rfl rfl ?_
      obtain ⟨hi, h⟩ := h
      refine zv_iald (pc := 117) g 7 rfl hi dX5_sheet_117 ?_
      exact zv_iret (pc := 118) g hR dX5_sheet_118 ⟨_, _, rfl, rfl, h⟩
    · replace h := h.2 c11
      refine zv_aload_n (pc := 93) g dX5_sheet_93 0 rfl rfl ?_
      refine zv_get (pc := 94) g fl_X5_31 0 rfl rfl dX5_sheet_94 ?_
      refine zv_bipush (pc := 97) g dX5_sheet_97 (v := 40) (by decide) ?_
      refine zv_iload_n (pc := 99) g dX5_sheet_99 1 rfl rfl ?_
      refine zv_imul (pc := 100) g dX5_sheet_100 ?_
      refine zv_iload (pc := 101) g dX5_sheet_101 2 rfl ?_
      refine zv_iadd (pc := 103) g dX5_sheet_103 ?_
      refine zv_lconst (pc := 104) g dX5_sheet_104 (v := 0) (by decide) ?_
      obtain ⟨hi, h⟩ := h
      refine zv_lals (pc := 105) ((mW β a) (m_sheets_s S (vp_updL (m_sheets S) (Int32.toNatClampNeg ((40 * x1) + x4)) 0))) g 8 rfl hi rfl dX5_sheet_105 ?_
      refine zv_nmS (wf := (mW β a)) (fun S12 eS12 => ?_)
      replace h := h S12 eS12
      refine zv_iinc (pc := 106) 1 [(4, .int (x4 + 1)), (0, .ref (a 0)), (1, .int x1)] g dX5_sheet_106 2 rfl (by decide) (by decide) rfl ?_
      refine zv_goto (pc := 109) 86 g dX5_sheet_109 rfl ?_
      refine zv_sub [1, 2, 0] rfl ?_
      exact ih0 _ _ _ h
def wX5_sheet_36 (post : Int32 → (MSt) → Prop) (S : MSt) (x1 : Int32) (x2 : Int32) (x3 : Int32) : Prop := (0 ≤ x3 → (x3 ≤ (40 : Int32) → vp_in x1 4 ∧ (∀ S8 : MSt, S8 = (m_bitsOf_s S (upd (m_bitsOf S) (Int32.toNatClampNeg x1) x2)) → ((¬ x2 = 0 → vp_in x1 4 ∧ (∀ S10 : MSt, S10 = (m_sizeOf_s S8 (upd (m_sizeOf S8) (Int32.toNatClampNeg x1) x3)) → (∃ f13 : Nat, wX5_sheet_86 post f13 S10 x1 0))) ∧ (x2 = 0 → vp_in x1 4 ∧ (∀ S14 : MSt, S14 = (m_sizeOf_s S8 (upd (m_sizeOf S8) (Int32.toNatClampNeg x1) 0)) → (∃ f15 : Nat, wX5_sheet_86 post f15 S14 x1 0)))))) ∧ (¬ x3 ≤ (40 : Int32) → wX5_finds (fun v16 S17 => post v16 S17) S (-1000000001))) ∧ (¬ 0 ≤ x3 → wX5_finds (fun v18 S19 => post v18 S19) S (-1000000007))
set_option maxRecDepth 100000 in
set_option maxHeartbeats 4000000 in
theorem lX5_sheet_36 {β : zz_B} {Γ : zz_X} {a : Nat → Nat} {post : Int32 → (MSt) → Prop} (g : zG β 5 Γ cX5_sheet RX5 2 42) (hR : zR β Γ (some .int) (fun r w => ∃ (v : Int32) (T : MSt), r = some (.int v) ∧ w = (mW β a) T ∧ post v T)) (S : MSt) (x1 : Int32) (x2 : Int32) (x3 : Int32) (h : wX5_sheet_36 post S x1 x2 x3) : zV β 5 Γ ((mW β a) S) 36 [(0, .ref (a 0)), (1, .int x1), (2, .int x2), (3, .int x3)] [] := by
  unfold wX5_sheet_36 at h
  refine zv_iload_n (pc := 36) g dX5_sheet_36 3 rfl rfl ?_
  refine zv_if_ge (pc := 37) 48 g dX5_sheet_37 rfl (fun c6 => ?_) (fun c6 => ?_)
  · replace h := h.1 c6
    refine zv_iload_n (pc := 48) g dX5_sheet_48 3 rfl rfl ?_
    refine zv_bipush (pc := 49) g dX5_sheet_49 (v := 40) (by decide) ?_
    refine zv_icmp_le (pc := 51) 61 g dX5_sheet_51 rfl (fun c7 => ?_) (fun c7 => ?_)
    · replace h := h.1 c7
      refine zv_aload_n (pc := 61) g dX5_sheet_61 0 rfl rfl ?_
      refine zv_get (pc := 62) g fl_X5_25 0 rfl rfl dX5_sheet_62 ?_
      refine zv_iload_n (pc := 65) g dX5_sheet_65 1 rfl rfl ?_
      refine zv_iload_n (pc := 66) g dX5_sheet_66 2 rfl rfl ?_
      obtain ⟨hi, h⟩ := h
      refine zv_ials (pc := 67) ((mW β a) (m_bitsOf_s S (upd (m_bitsOf S) (Int32.toNatClampNeg x1) x2))) g 6 rfl hi rfl dX5_sheet_67 ?_
      refine zv_nmS (wf := (mW β a)) (fun S8 eS8 => ?_)
      replace h := h S8 eS8
      refine zv_aload_n (pc := 68) g dX5_sheet_68 0 rfl rfl ?_
      refine zv_get (pc := 69) g fl_X5_28 0 rfl rfl dX5_sheet_69 ?_
      refine zv_iload_n (pc := 72) g dX5_sheet_72 1 rfl rfl ?_
      refine zv_iload_n (pc := 73) g dX5_sheet_73 2 rfl rfl ?_
      refine zv_if_ne (pc := 74) 81 g dX5_sheet_74 rfl (fun c9 => ?_) (fun c9 => ?_)
      · replace h := h.1 c9
        refine zv_iload_n (pc := 81) g dX5_sheet_81 3 rfl rfl ?_
        obtain ⟨hi, h⟩ := h
        refine zv_ials (pc := 82) ((mW β a) (m_sizeOf_s S8 (upd (m_sizeOf S8) (Int32.toNatClampNeg x1) x3))) g 7 rfl hi rfl dX5_sheet_82 ?_
        refine zv_nmS (wf := (mW β a)) (fun S10 eS10 => ?_)
        replace h := h S10 eS10
        refine zv_iconst (pc := 83) g dX5_sheet_83 (v := 0) (by decide) ?_
        refine zv_istore (pc := 84) [(4, .int 0), (0, .ref (a 0)), (1, .int x1), (2, .int x2), (3, .int x3)] g dX5_sheet_84 (by decide) rfl ?_
        obtain ⟨f13, h⟩ := h
        refine zv_sub [1, 2, 0] rfl ?_
        exact lX5_sheet_86 g hR f13 _ _ _ h
      · replace h := h.2 c9
        refine zv_iconst (pc := 77) g dX5_sheet_77 (v := 0) (by decide) ?_
        refine zv_goto (pc := 78) 82 g dX5_sheet_78 rfl ?_
        obtain ⟨hi, h⟩ := h
        refine zv_ials (pc := 82) ((mW β a) (m_sizeOf_s S8 (upd (m_sizeOf S8) (Int32.toNatClampNeg x1) 0))) g 7 rfl hi rfl dX5_sheet_82 ?_
        refine zv_nmS (wf := (mW β a)) (fun S14 eS14 => ?_)
        replace h := h S14 eS14
        refine zv_iconst (pc := 83) g dX5_sheet_83 (v := 0) (by decide) ?_
        refine zv_istore (pc := 84) [(4, .int 0), (0, .ref (a 0)), (1, .int x1), (2, .int x2), (3, .int x3)] g dX5_sheet_84 (by decide) rfl ?_
        obtain ⟨f15, h⟩ := h
        refine zv_sub [1, 2, 0] rfl ?_
        exact lX5_sheet_86 g hR f15 _ _ _ h
    · replace h := h.2 c7
      refine zv_aload_n (pc := 54) g dX5_sheet_54 0 rfl rfl ?_
      refine zv_ldc (pc := 55) g wd_744 dX5_sheet_55 ?_
      refine zv_cVi (pc := 57) g cw_X5_57 (ctX5_finds h) (by decide) (by decide) zz_p0 (mW β a) (fun T => zz_p1 T) (q := 0) rfl rfl rfl rfl rfl (Nat.le_of_ble_eq_true rfl) dX5_sheet_57 (fun v16 S17 h => ?_)
      exact zv_iret (pc := 60) g hR dX5_sheet_60 ⟨_, _, rfl, rfl, h⟩
  · replace h := h.2 c6
    refine zv_aload_n (pc := 40) g dX5_sheet_40 0 rfl rfl ?_
    refine zv_ldcw (pc := 41) g wd_1059 dX5_sheet_41 ?_
    refine zv_cVi (pc := 44) g cw_X5_57 (ctX5_finds h) (by decide) (by decide) zz_p0 (mW β a) (fun T => zz_p1 T) (q := 0) rfl rfl rfl rfl rfl (Nat.le_of_ble_eq_true rfl) dX5_sheet_44 (fun v18 S19 h => ?_)
    exact zv_iret (pc := 47) g hR dX5_sheet_47 ⟨_, _, rfl, rfl, h⟩
def wX5_sheet (post : Int32 → (MSt) → Prop) (S : MSt) (x1 : Int32) (x2 : Int32) (x3 : Int32) : Prop := wX5_isSheet (fun v1 => (v1 = 0 → wX5_finds (fun v3 S4 => post v3 S4) S (-1000000001)) ∧ (¬ v1 = 0 → (x2 = 0 → wX5_sheet_36 post S x1 x2 x3) ∧ (¬ x2 = 0 → (x2 = (8 : Int32) → wX5_sheet_36 post S x1 x2 x3) ∧ (¬ x2 = (8 : Int32) → (x2 = (16 : Int32) → wX5_sheet_36 post S x1 x2 x3) ∧ (¬ x2 = (16 : Int32) → (x2 = (64 : Int32) → wX5_sheet_36 post S x1 x2 x3) ∧ (¬ x2 = (64 : Int32) → wX5_finds (fun v23 S24 => post v23 S24) S (-1000000001))))))) x1
set_option maxRecDepth 100000 in
set_option maxHeartbeats 4000000 in
theorem ctX5_sheet {β : zz_B} {a : Nat → Nat} {post : Int32 → (MSt) → Prop} {S : MSt} {x1 : Int32} {x2 : Int32} {x3 : Int32} (h : wX5_sheet post S x1 x2 x3) : zCi β yX5_sheet cX5_sheet 5 (some .int) 2 42 [.ref (a 0), .int x1, .int x2, .int x3] (mW β a) S post := by
  unfold wX5_sheet at h
  unfold zCi
  refine zC.of (by decide) (Nat.le_of_ble_eq_true rfl) ?_
  intro Γ g hR
  show zV β 5 Γ ((mW β a) S) 0 [(0, .ref (a 0)), (1, .int x1), (2, .int x2), (3, .int x3)] []
  refine zv_iload_n (pc := 0) g dX5_sheet_0 1 rfl rfl ?_
  refine zv_cSp (pc := 1) g cw_X5_269 (ctX5_isSheet h) (by decide) (by decide) zz_pN rfl rfl (Nat.le_of_ble_eq_true rfl) dX5_sheet_1 (fun v1 h => ?_)
  refine zv_if_eq (pc := 4) 29 g dX5_sheet_4 rfl (fun c2 => ?_) (fun c2 => ?_)
  · replace h := h.1 c2
    refine zv_aload_n (pc := 29) g dX5_sheet_29 0 rfl rfl ?_
    refine zv_ldc (pc := 30) g wd_744 dX5_sheet_30 ?_
    refine zv_cVi (pc := 32) g cw_X5_57 (ctX5_finds h) (by decide) (by decide) zz_p0 (mW β a) (fun T => zz_p1 T) (q := 0) rfl rfl rfl rfl rfl (Nat.le_of_ble_eq_true rfl) dX5_sheet_32 (fun v3 S4 h => ?_)
    exact zv_iret (pc := 35) g hR dX5_sheet_35 ⟨_, _, rfl, rfl, h⟩
  · replace h := h.2 c2
    refine zv_iload_n (pc := 7) g dX5_sheet_7 2 rfl rfl ?_
    refine zv_if_eq (pc := 8) 36 g dX5_sheet_8 rfl (fun c5 => ?_) (fun c5 => ?_)
    · replace h := h.1 c5
      refine zv_sub [0, 1, 2, 3] rfl ?_
      exact lX5_sheet_36 g hR _ _ _ _ h
    · replace h := h.2 c5
      refine zv_iload_n (pc := 11) g dX5_sheet_11 2 rfl rfl ?_
      refine zv_bipush (pc := 12) g dX5_sheet_12 (v := 8) (by decide) ?_
      refine zv_icmp_eq (pc := 14) 36 g dX5_sheet_14 rfl (fun c20 => ?_) (fun c20 => ?_)
      · replace h := h.1 c20
        refine zv_sub [0, 1, 2, 3] rfl ?_
        exact lX5_sheet_36 g hR _ _ _ _ h
      · replace h := h.2 c20
        refine zv_iload_n (pc := 17) g dX5_sheet_17 2 rfl rfl ?_
        refine zv_bipush (pc := 18) g dX5_sheet_18 (v := 16) (by decide) ?_
        refine zv_icmp_eq (pc := 20) 36 g dX5_sheet_20 rfl (fun c21 => ?_) (fun c21 => ?_)
        · replace h := h.1 c21
          refine zv_sub [0, 1, 2, 3] rfl ?_
          exact lX5_sheet_36 g hR _ _ _ _ h
        · replace h := h.2 c21
          refine zv_iload_n (pc := 23) g dX5_sheet_23 2 rfl rfl ?_
          refine zv_bipush (pc := 24) g dX5_sheet_24 (v := 64) (by decide) ?_
          refine zv_icmp_eq (pc := 26) 36 g dX5_sheet_26 rfl (fun c22 => ?_) (fun c22 => ?_)
          · replace h := h.1 c22
            refine zv_sub [0, 1, 2, 3] rfl ?_
            exact lX5_sheet_36 g hR _ _ _ _ h
          · replace h := h.2 c22
            refine zv_aload_n (pc := 29) g dX5_sheet_29 0 rfl rfl ?_
            refine zv_ldc (pc := 30) g wd_744 dX5_sheet_30 ?_
            refine zv_cVi (pc := 32) g cw_X5_57 (ctX5_finds h) (by decide) (by decide) zz_p0 (mW β a) (fun T => zz_p1 T) (q := 0) rfl rfl rfl rfl rfl (Nat.le_of_ble_eq_true rfl) dX5_sheet_32 (fun v23 S24 h => ?_)
            exact zv_iret (pc := 35) g hR dX5_sheet_35 ⟨_, _, rfl, rfl, h⟩
def wX5_write (post : Int64 → (MSt) → Prop) (S : MSt) (x1 : Int32) (x2 : Int32) (x3 : Int64) : Prop := wX5_isSheet (fun v1 => (¬ v1 = 0 → vp_in x1 4 ∧ ((¬ (m_bitsOf S (Int32.toNatClampNeg x1)) = 0 → vp_in x1 4 ∧ (wX5_in (fun v4 => (¬ v4 = 0 → vp_in ((40 * x1) + x2) 160 ∧ (∀ y6 : Int64, y6 = (m_sheets S (Int32.toNatClampNeg ((40 * x1) + x2))) → (vp_in x1 4 ∧ (wX5_narrow (fun v7 => vp_in ((40 * x1) + x2) 160 ∧ (∀ S8 : MSt, S8 = (m_sheets_s S (vp_updL (m_sheets S) (Int32.toNatClampNeg ((40 * x1) + x2)) v7)) → (post y6 S8))) (m_bitsOf S (Int32.toNatClampNeg x1)) x3)))) ∧ (v4 = 0 → wX5_finds (fun v9 S10 => post (Int32.toInt64 v9) S10) S (-1000000001))) x2 0 ((m_sizeOf S (Int32.toNatClampNeg x1)) - 1))) ∧ ((m_bitsOf S (Int32.toNatClampNeg x1)) = 0 → wX5_finds (fun v11 S12 => post (Int32.toInt64 v11) S12) S (-1000000006)))) ∧ (v1 = 0 → wX5_finds (fun v13 S14 => post (Int32.toInt64 v13) S14) S (-1000000001))) x1
set_option maxRecDepth 100000 in
set_option maxHeartbeats 4000000 in
theorem ctX5_write {β : zz_B} {a : Nat → Nat} {post : Int64 → (MSt) → Prop} {S : MSt} {x1 : Int32} {x2 : Int32} {x3 : Int64} (h : wX5_write post S x1 x2 x3) : zCl β yX5_write cX5_write 7 (some .long) 2 42 [.ref (a 0), .int x1, .int x2, .long x3] (mW β a) S post := by
  unfold wX5_write at h
  unfold zCl
  refine zC.of (by decide) (Nat.le_of_ble_eq_true rfl) ?_
  intro Γ g hR
  show zV β 7 Γ ((mW β a) S) 0 [(0, .ref (a 0)), (1, .int x1), (2, .int x2), (3, .long x3)] []
  refine zv_iload_n (pc := 0) g dX5_write_0 1 rfl rfl ?_
  refine zv_cSp (pc := 1) g cw_X5_269 (ctX5_isSheet h) (by decide) (by decide) zz_pN rfl rfl (Nat.le_of_ble_eq_true rfl) dX5_write_1 (fun v1 h => ?_)
  refine zv_if_ne (pc := 4) 15 g dX5_write_4 rfl (fun c2 => ?_) (fun c2 => ?_)
  · replace h := h.1 c2
    refine zv_aload_n (pc := 15) g dX5_write_15 0 rfl rfl ?_
    refine zv_get (pc := 16) g fl_X5_25 0 rfl rfl dX5_write_16 ?_
    refine zv_iload_n (pc := 19) g dX5_write_19 1 rfl rfl ?_
    obtain ⟨hi, h⟩ := h
    refine zv_iald (pc := 20) g 6 rfl hi dX5_write_20 ?_
    refine zv_if_ne (pc := 21) 33 g dX5_write_21 rfl (fun c3 => ?_) (fun c3 => ?_)
    · replace h := h.1 c3
      refine zv_iload_n (pc := 33) g dX5_write_33 2 rfl rfl ?_
      refine zv_iconst (pc := 34) g dX5_write_34 (v := 0) (by decide) ?_
      refine zv_aload_n (pc := 35) g dX5_write_35 0 rfl rfl ?_
      refine zv_get (pc := 36) g fl_X5_28 0 rfl rfl dX5_write_36 ?_
      refine zv_iload_n (pc := 39) g dX5_write_39 1 rfl rfl ?_
      obtain ⟨hi, h⟩ := h
      refine zv_iald (pc := 40) g 7 rfl hi dX5_write_40 ?_
      refine zv_iconst (pc := 41) g dX5_write_41 (v := 1) (by decide) ?_
      refine zv_isub (pc := 42) g dX5_write_42 ?_
      refine zv_cSp (pc := 43) g cw_X5_49 (ctX5_in h) (by decide) (by decide) zz_pN rfl rfl (Nat.le_of_ble_eq_true rfl) dX5_write_43 (fun v4 h => ?_)
      refine zv_if_ne (pc := 46) 57 g dX5_write_46 rfl (fun c5 => ?_) (fun c5 => ?_)
      · replace h := h.1 c5
        refine zv_aload_n (pc := 57) g dX5_write_57 0 rfl rfl ?_
        refine zv_get (pc := 58) g fl_X5_31 0 rfl rfl dX5_write_58 ?_
        refine zv_bipush (pc := 61) g dX5_write_61 (v := 40) (by decide) ?_
        refine zv_iload_n (pc := 63) g dX5_write_63 1 rfl rfl ?_
        refine zv_imul (pc := 64) g dX5_write_64 ?_
        refine zv_iload_n (pc := 65) g dX5_write_65 2 rfl rfl ?_
        refine zv_iadd (pc := 66) g dX5_write_66 ?_
        obtain ⟨hi, h⟩ := h
        refine zv_lald (pc := 67) g 8 rfl hi dX5_write_67 ?_
        refine zv_topl (fun y6 ey6 => ?_)
        replace h := h y6 ey6
        refine zv_lstore (pc := 68) [(5, .long y6), (0, .ref (a 0)), (1, .int x1), (2, .int x2), (3, .long x3)] g dX5_write_68 (by decide) rfl ?_
        refine zv_aload_n (pc := 70) g dX5_write_70 1 rfl rfl ?_
        refine zv_get (pc := 71) g fl_X5_31 0 rfl rfl dX5_write_71 ?_
        refine zv_bipush (pc := 74) g dX5_write_74 (v := 40) (by decide) ?_
        refine zv_iload_n (pc := 76) g dX5_write_76 2 rfl rfl ?_
        refine zv_imul (pc := 77) g dX5_write_77 ?_
        refine zv_iload_n (pc := 78) g dX5_write_78 3 rfl rfl ?_
        refine zv_iadd (pc := 79) g dX5_write_79 ?_
        refine zv_aload_n (pc := 80) g dX5_write_80 1 rfl rfl ?_
        refine zv_get (pc := 81) g fl_X5_25 0 rfl rfl dX5_write_81 ?_
        refine zv_iload_n (pc := 84) g dX5_write_84 2 rfl rfl ?_
        obtain ⟨hi, h⟩ := h
        refine zv_iald (pc := 85) g 6 rfl hi dX5_write_85 ?_
        refine zv_lload_n (pc := 86) g dX5_write_86 4 rfl rfl ?_
        refine zv_cSq (pc := 87) g cw_X5_274 (ctX5_narrow h) (by decide) (by decide) zz_pN rfl rfl (Nat.le_of_ble_eq_true rfl) dX5_write_87 (fun v7 h => ?_)
        obtain ⟨hi, h⟩ := h
        refine zv_lals (pc := 90) ((mW β a) (m_sheets_s S (vp_updL (m_sheets S) (Int32.toNatClampNeg ((40 * x1) + x2)) v7))) g 8 rfl hi rfl dX5_write_90 ?_
        refine zv_nmS (wf := (mW β a)) (fun S8 eS8 => ?_)
        replace h := h S8 eS8
        refine zv_lload (pc := 91) g dX5_write_91 0 rfl ?_
        exact zv_lret (pc := 93) g hR dX5_write_93 ⟨_, _, rfl, rfl, h⟩
      · replace h := h.2 c5
        refine zv_aload_n (pc := 49) g dX5_write_49 0 rfl rfl ?_
        refine zv_ldc (pc := 50) g wd_744 dX5_write_50 ?_
        refine zv_cVi (pc := 52) g cw_X5_57 (ctX5_finds h) (by decide) (by decide) zz_p0 (mW β a) (fun T => zz_p1 T) (q := 0) rfl rfl rfl rfl rfl (Nat.le_of_ble_eq_true rfl) dX5_write_52 (fun v9 S10 h => ?_)
        refine zv_i2l (pc := 55) g dX5_write_55 ?_
        exact zv_lret (pc := 56) g hR dX5_write_56 ⟨_, _, rfl, rfl, h⟩
    · replace h := h.2 c3
      refine zv_aload_n (pc := 24) g dX5_write_24 0 rfl rfl ?_
      refine zv_ldcw (pc := 25) g wd_1064 dX5_write_25 ?_
      refine zv_cVi (pc := 28) g cw_X5_57 (ctX5_finds h) (by decide) (by decide) zz_p0 (mW β a) (fun T => zz_p1 T) (q := 0) rfl rfl rfl rfl rfl (Nat.le_of_ble_eq_true rfl) dX5_write_28 (fun v11 S12 h => ?_)
      refine zv_i2l (pc := 31) g dX5_write_31 ?_
      exact zv_lret (pc := 32) g hR dX5_write_32 ⟨_, _, rfl, rfl, h⟩
  · replace h := h.2 c2
    refine zv_aload_n (pc := 7) g dX5_write_7 0 rfl rfl ?_
    refine zv_ldc (pc := 8) g wd_744 dX5_write_8 ?_
    refine zv_cVi (pc := 10) g cw_X5_57 (ctX5_finds h) (by decide) (by decide) zz_p0 (mW β a) (fun T => zz_p1 T) (q := 0) rfl rfl rfl rfl rfl (Nat.le_of_ble_eq_true rfl) dX5_write_10 (fun v13 S14 h => ?_)
    refine zv_i2l (pc := 13) g dX5_write_13 ?_
    exact zv_lret (pc := 14) g hR dX5_write_14 ⟨_, _, rfl, rfl, h⟩
def wX5_isPart_ (post : Int32 → Prop) (S : MSt) (x1 : Int32) (x2 : Int32) (x3 : Int32) : Prop := (x2 < 0 → post 0) ∧ (¬ x2 < 0 → (x3 < 0 → post 0) ∧ (¬ x3 < 0 → vp_in x1 4 ∧ (((m_sizeOf S (Int32.toNatClampNeg x1)) < x3 → post 0) ∧ (¬ (m_sizeOf S (Int32.toNatClampNeg x1)) < x3 → vp_in x1 4 ∧ ((((m_sizeOf S (Int32.toNatClampNeg x1)) - x3) < x2 → post 0) ∧ (¬ ((m_sizeOf S (Int32.toNatClampNeg x1)) - x3) < x2 → post 1))))))
set_option maxRecDepth 100000 in
set_option maxHeartbeats 4000000 in
theorem ctX5_isPart_ {β : zz_B} {a : Nat → Nat} {post : Int32 → Prop} {S : MSt} {x1 : Int32} {x2 : Int32} {x3 : Int32} (h : wX5_isPart_ post S x1 x2 x3) : zCp β yX5_isPart_ cX5_isPart_ 4 (some .boolean) 0 0 [.ref (a 0), .int x1, .int x2, .int x3] ((mW β a) S) post := by
  unfold wX5_isPart_ at h
  unfold zCp
  refine zC.of (by decide) (Nat.le_of_ble_eq_true rfl) ?_
  intro Γ g hR
  show zV β 4 Γ ((mW β a) S) 0 [(0, .ref (a 0)), (1, .int x1), (2, .int x2), (3, .int x3)] []
  refine zv_iload_n (pc := 0) g dX5_isPart__0 2 rfl rfl ?_
  refine zv_if_lt (pc := 1) 34 g dX5_isPart__1 rfl (fun c1 => ?_) (fun c1 => ?_)
  · replace h := h.1 c1
    refine zv_iconst (pc := 34) g dX5_isPart__34 (v := 0) (by decide) ?_
    exact zv_zret (pc := 35) g hR (by decide) dX5_isPart__35 ⟨_, rfl, rfl, h⟩
  · replace h := h.2 c1
    refine zv_iload_n (pc := 4) g dX5_isPart__4 3 rfl rfl ?_
    refine zv_if_lt (pc := 5) 34 g dX5_isPart__5 rfl (fun c2 => ?_) (fun c2 => ?_)
    · replace h := h.1 c2
      refine zv_iconst (pc := 34) g dX5_isPart__34 (v := 0) (by decide) ?_
      exact zv_zret (pc := 35) g hR (by decide) dX5_isPart__35 ⟨_, rfl, rfl, h⟩
    · replace h := h.2 c2
      refine zv_iload_n (pc := 8) g dX5_isPart__8 3 rfl rfl ?_
      refine zv_aload_n (pc := 9) g dX5_isPart__9 0 rfl rfl ?_
      refine zv_get (pc := 10) g fl_X5_28 0 rfl rfl dX5_isPart__10 ?_
      refine zv_iload_n (pc := 13) g dX5_isPart__13 1 rfl rfl ?_
      obtain ⟨hi, h⟩ := h
      refine zv_iald (pc := 14) g 7 rfl hi dX5_isPart__14 ?_
      refine zv_icmp_gt (pc := 15) 34 g dX5_isPart__15 rfl (fun c3 => ?_) (fun c3 => ?_)
      · replace h := h.1 c3
        refine zv_iconst (pc := 34) g dX5_isPart__34 (v := 0) (by decide) ?_
        exact zv_zret (pc := 35) g hR (by decide) dX5_isPart__35 ⟨_, rfl, rfl, h⟩
      · replace h := h.2 c3
        refine zv_iload_n (pc := 18) g dX5_isPart__18 2 rfl rfl ?_
        refine zv_aload_n (pc := 19) g dX5_isPart__19 0 rfl rfl ?_
        refine zv_get (pc := 20) g fl_X5_28 0 rfl rfl dX5_isPart__20 ?_
        refine zv_iload_n (pc := 23) g dX5_isPart__23 1 rfl rfl ?_
        obtain ⟨hi, h⟩ := h
        refine zv_iald (pc := 24) g 7 rfl hi dX5_isPart__24 ?_
        refine zv_iload_n (pc := 25) g dX5_isPart__25 3 rfl rfl ?_
        refine zv_isub (pc := 26) g dX5_isPart__26 ?_
        refine zv_icmp_gt (pc := 27) 34 g dX5_isPart__27 rfl (fun c4 => ?_) (fun c4 => ?_)
        · replace h := h.1 c4
          refine zv_iconst (pc := 34) g dX5_isPart__34 (v := 0) (by decide) ?_
          exact zv_zret (pc := 35) g hR (by decide) dX5_isPart__35 ⟨_, rfl, rfl, h⟩
        · replace h := h.2 c4
          refine zv_iconst (pc := 30) g dX5_isPart__30 (v := 1) (by decide) ?_
          refine zv_goto (pc := 31) 35 g dX5_isPart__31 rfl ?_
          exact zv_zret (pc := 35) g hR (by decide) dX5_isPart__35 ⟨_, rfl, rfl, h⟩
def wX5_copy_139 (post : Int32 → (MSt) → Prop) : Nat → (MSt) → (Int32) → (Int32) → (Int32) → (Int32) → Prop
  | 0, _, _, _, _, _ => False
  | f0 + 1, S, x3, x4, x5, x6 => (x5 ≤ x6 → post x5 S) ∧ (¬ x5 ≤ x6 → vp_in x6 40 ∧ (vp_in (((40 * x3) + x4) + x6) 160 ∧ (∀ S20 : MSt, S20 = (m_sheets_s S (vp_updL (m_sheets S) (Int32.toNatClampNeg (((40 * x3) + x4) + x6)) (m_lent S (Int32.toNatClampNeg x6)))) → (wX5_copy_139 post f0 S20 x3 x4 x5 (x6 + 1)))))
set_option maxRecDepth 100000 in
set_option maxHeartbeats 4000000 in
theorem lX5_copy_139 {β : zz_B} {Γ : zz_X} {a : Nat → Nat} {post : Int32 → (MSt) → Prop} (g : zG β 7 Γ cX5_copy RX5 2 42) (hR : zR β Γ (some .int) (fun r w => ∃ (v : Int32) (T : MSt), r = some (.int v) ∧ w = (mW β a) T ∧ post v T)) : ∀ (f0 : Nat) (S : MSt) (x3 : Int32) (x4 : Int32) (x5 : Int32) (x6 : Int32) , wX5_copy_139 post f0 S x3 x4 x5 x6 → zV β 7 Γ ((mW β a) S) 139 [(0, .ref (a 0)), (3, .int x3), (4, .int x4), (5, .int x5), (6, .int x6)] [] := by
  intro f0
  induction f0 with
  | zero => intro S x3 x4 x5 x6 h; exact h.elim
  | succ f0 ih0 =>
    intro S x3 x4 x5 x6 h
    rw [wX5_copy_139] at h
    refine zv_iload (pc := 139) g dX5_copy_139 4 rfl ?_
    refine zv_iload (pc := 141) g dX5_copy_141 3 rfl ?_
    refine zv_icmp_ge (pc := 143) 174 g dX5_copy_143 rfl (fun c19 => ?_) (fun c19 => ?_)
    · replace h := h.1 c19
      refine zv_iload (pc := 174) g dX5_copy_174 3 rfl ?_
      exact zv_iret (pc := 176) g hR dX5_copy_176 ⟨_, _, rfl, rfl, h⟩
    · replace h := h.2 c19
      refine zv_aload_n (pc := 146) g dX5_copy_146 0 rfl rfl ?_
      refine zv_get (pc := 147) g fl_X5_31 0 rfl rfl dX5_copy_147 ?_
      refine zv_bipush (pc := 150) g dX5_copy_150 (v := 40) (by decide) ?_
      refine zv_iload_n (pc := 152) g dX5_copy_152 1 rfl rfl ?_
      refine zv_imul (pc := 153) g dX5_copy_153 ?_
      refine zv_iload (pc := 154) g dX5_copy_154 2 rfl ?_
      refine zv_iadd (pc := 156) g dX5_copy_156 ?_
      refine zv_iload (pc := 157) g dX5_copy_157 4 rfl ?_
      refine zv_iadd (pc := 159) g dX5_copy_159 ?_
      refine zv_aload_n (pc := 160) g dX5_copy_160 0 rfl rfl ?_
      refine zv_get (pc := 161) g fl_X5_35 0 rfl rfl dX5_copy_161 ?_
      refine zv_iload (pc := 164) g dX5_copy_164 4 rfl ?_
      obtain ⟨hi, h⟩ := h
      refine zv_lald (pc := 166) g 9 rfl hi dX5_copy_166 ?_
      obtain ⟨hi, h⟩ := h
      refine zv_lals (pc := 167) ((mW β a) (m_sheets_s S (vp_updL (m_sheets S) (Int32.toNatClampNeg (((40 * x3) + x4) + x6)) (m_lent S (Int32.toNatClampNeg x6))))) g 8 rfl hi rfl dX5_copy_167 ?_
      refine zv_nmS (wf := (mW β a)) (fun S20 eS20 => ?_)
      replace h := h S20 eS20
      refine zv_iinc (pc := 168) 1 [(6, .int (x6 + 1)), (0, .ref (a 0)), (3, .int x3), (4, .int x4), (5, .int x5)] g dX5_copy_168 4 rfl (by decide) (by decide) rfl ?_
      refine zv_goto (pc := 171) 139 g dX5_copy_171 rfl ?_
      refine zv_sub [1, 2, 3, 4, 0] rfl ?_
      exact ih0 _ _ _ _ _ h
def wX5_copy_102 (post : Int32 → (MSt) → Prop) : Nat → (MSt) → (Int32) → (Int32) → (Int32) → (Int32) → (Int32) → (Int32) → Prop
  | 0, _, _, _, _, _, _, _ => False
  | f0 + 1, S, x1, x2, x3, x4, x5, x6 => (x5 ≤ x6 → ∃ f21 : Nat, wX5_copy_139 post f21 S x3 x4 x5 0) ∧ (¬ x5 ≤ x6 → vp_in (((40 * x1) + x2) + x6) 160 ∧ (vp_in x6 40 ∧ (∀ S22 : MSt, S22 = (m_lent_s S (vp_updL (m_lent S) (Int32.toNatClampNeg x6) (m_sheets S (Int32.toNatClampNeg (((40 * x1) + x2) + x6))))) → (wX5_copy_102 post f0 S22 x1 x2 x3 x4 x5 (x6 + 1)))))
set_option maxRecDepth 100000 in
set_option maxHeartbeats 4000000 in
theorem lX5_copy_102 {β : zz_B} {Γ : zz_X} {a : Nat → Nat} {post : Int32 → (MSt) → Prop} (g : zG β 7 Γ cX5_copy RX5 2 42) (hR : zR β Γ (some .int) (fun r w => ∃ (v : Int32) (T : MSt), r = some (.int v) ∧ w = (mW β a) T ∧ post v T)) : ∀ (f0 : Nat) (S : MSt) (x1 : Int32) (x2 : Int32) (x3 : Int32) (x4 : Int32) (x5 : Int32) (x6 : Int32) , wX5_copy_102 post f0 S x1 x2 x3 x4 x5 x6 → zV β 7 Γ ((mW β a) S) 102 [(0, .ref (a 0)), (1, .int x1), (2, .int x2), (3, .int x3), (4, .int x4), (5, .int x5), (6, .int x6)] [] := by
  intro f0
  induction f0 with
  | zero => intro S x1 x2 x3 x4 x5 x6 h; exact h.elim
  | succ f0 ih0 =>
    intro S x1 x2 x3 x4 x5 x6 h
    rw [wX5_copy_102] at h
    refine zv_iload (pc := 102) g dX5_copy_102 6 rfl ?_
    refine zv_iload (pc := 104) g dX5_copy_104 5 rfl ?_
    refine zv_icmp_ge (pc := 106) 136 g dX5_copy_106 rfl (fun c18 => ?_) (fun c18 => ?_)
    · replace h := h.1 c18
      refine zv_iconst (pc := 136) g dX5_copy_136 (v := 0) (by decide) ?_
      refine zv_istore (pc := 137) [(6, .int 0), (0, .ref (a 0)), (1, .int x1), (2, .int x2), (3, .int x3), (4, .int x4), (5, .int x5)] g dX5_copy_137 (by decide) rfl ?_
      obtain ⟨f21, h⟩ := h
      refine zv_sub [1, 4, 5, 6, 0] rfl ?_
      exact lX5_copy_139 g hR f21 _ _ _ _ _ h
    · replace h := h.2 c18
      refine zv_aload_n (pc := 109) g dX5_copy_109 0 rfl rfl ?_
      refine zv_get (pc := 110) g fl_X5_35 0 rfl rfl dX5_copy_110 ?_
      refine zv_iload (pc := 113) g dX5_copy_113 6 rfl ?_
      refine zv_aload_n (pc := 115) g dX5_copy_115 0 rfl rfl ?_
      refine zv_get (pc := 116) g fl_X5_31 0 rfl rfl dX5_copy_116 ?_
      refine zv_bipush (pc := 119) g dX5_copy_119 (v := 40) (by decide) ?_
      refine zv_iload_n (pc := 121) g dX5_copy_121 1 rfl rfl ?_
      refine zv_imul (pc := 122) g dX5_copy_122 ?_
      refine zv_iload_n (pc := 123) g dX5_copy_123 2 rfl rfl ?_
      refine zv_iadd (pc := 124) g dX5_copy_124 ?_
      refine zv_iload (pc := 125) g dX5_copy_125 6 rfl ?_
      refine zv_iadd (pc := 127) g dX5_copy_127 ?_
      obtain ⟨hi, h⟩ := h
      refine zv_lald (pc := 128) g 8 rfl hi dX5_copy_128 ?_
      obtain ⟨hi, h⟩ := h
      refine zv_lals (pc := 129) ((mW β a) (m_lent_s S (vp_updL (m_lent S) (Int32.toNatClampNeg x6) (m_sheets S (Int32.toNatClampNeg (((40 * x1) + x2) + x6)))))) g 9 rfl hi rfl dX5_copy_129 ?_
      refine zv_nmS (wf := (mW β a)) (fun S22 eS22 => ?_)
      replace h := h S22 eS22
      refine zv_iinc (pc := 130) 1 [(6, .int (x6 + 1)), (0, .ref (a 0)), (1, .int x1), (2, .int x2), (3, .int x3), (4, .int x4), (5, .int x5)] g dX5_copy_130 6 rfl (by decide) (by decide) rfl ?_
      refine zv_goto (pc := 133) 102 g dX5_copy_133 rfl ?_
      refine zv_sub [1, 2, 3, 4, 5, 6, 0] rfl ?_
      exact ih0 _ _ _ _ _ _ _ h
def wX5_copy (post : Int32 → (MSt) → Prop) (S : MSt) (x1 : Int32) (x2 : Int32) (x3 : Int32) (x4 : Int32) (x5 : Int32) : Prop := wX5_isSheet (fun v1 => (v1 = 0 → wX5_finds (fun v3 S4 => post v3 S4) S (-1000000001)) ∧ (¬ v1 = 0 → wX5_isSheet (fun v5 => (¬ v5 = 0 → vp_in x1 4 ∧ (((m_bitsOf S (Int32.toNatClampNeg x1)) = 0 → wX5_finds (fun v8 S9 => post v8 S9) S (-1000000006)) ∧ (¬ (m_bitsOf S (Int32.toNatClampNeg x1)) = 0 → vp_in x3 4 ∧ ((¬ (m_bitsOf S (Int32.toNatClampNeg x3)) = 0 → vp_in x1 4 ∧ (vp_in x3 4 ∧ (((m_bitsOf S (Int32.toNatClampNeg x1)) = (m_bitsOf S (Int32.toNatClampNeg x3)) → wX5_isPart_ (fun v12 => (v12 = 0 → wX5_finds (fun v14 S15 => post v14 S15) S (-1000000001)) ∧ (¬ v12 = 0 → wX5_isPart_ (fun v16 => (¬ v16 = 0 → ∃ f23 : Nat, wX5_copy_102 post f23 S x1 x2 x3 x4 x5 0) ∧ (v16 = 0 → wX5_finds (fun v24 S25 => post v24 S25) S (-1000000001))) S x3 x4 x5)) S x1 x2 x5) ∧ (¬ (m_bitsOf S (Int32.toNatClampNeg x1)) = (m_bitsOf S (Int32.toNatClampNeg x3)) → wX5_finds (fun v26 S27 => post v26 S27) S (-1000000003))))) ∧ ((m_bitsOf S (Int32.toNatClampNeg x3)) = 0 → wX5_finds (fun v28 S29 => post v28 S29) S (-1000000006)))))) ∧ (v5 = 0 → wX5_finds (fun v30 S31 => post v30 S31) S (-1000000001))) x3)) x1
set_option maxRecDepth 100000 in
set_option maxHeartbeats 4000000 in
theorem ctX5_copy {β : zz_B} {a : Nat → Nat} {post : Int32 → (MSt) → Prop} {S : MSt} {x1 : Int32} {x2 : Int32} {x3 : Int32} {x4 : Int32} {x5 : Int32} (h : wX5_copy post S x1 x2 x3 x4 x5) : zCi β yX5_copy cX5_copy 7 (some .int) 2 42 [.ref (a 0), .int x1, .int x2, .int x3, .int x4, .int x5] (mW β a) S post := by
  unfold wX5_copy at h
  unfold zCi
  refine zC.of (by decide) (Nat.le_of_ble_eq_true rfl) ?_
  intro Γ g hR
  show zV β 7 Γ ((mW β a) S) 0 [(0, .ref (a 0)), (1, .int x1), (2, .int x2), (3, .int x3), (4, .int x4), (5, .int x5)] []
  refine zv_iload_n (pc := 0) g dX5_copy_0 1 rfl rfl ?_
  refine zv_cSp (pc := 1) g cw_X5_269 (ctX5_isSheet h) (by decide) (by decide) zz_pN rfl rfl (Nat.le_of_ble_eq_true rfl) dX5_copy_1 (fun v1 h => ?_)
  refine zv_if_eq (pc := 4) 14 g dX5_copy_4 rfl (fun c2 => ?_) (fun c2 => ?_)
  · replace h := h.1 c2
    refine zv_aload_n (pc := 14) g dX5_copy_14 0 rfl rfl ?_
    refine zv_ldc (pc := 15) g wd_744 dX5_copy_15 ?_
    refine zv_cVi (pc := 17) g cw_X5_57 (ctX5_finds h) (by decide) (by decide) zz_p0 (mW β a) (fun T => zz_p1 T) (q := 0) rfl rfl rfl rfl rfl (Nat.le_of_ble_eq_true rfl) dX5_copy_17 (fun v3 S4 h => ?_)
    exact zv_iret (pc := 20) g hR dX5_copy_20 ⟨_, _, rfl, rfl, h⟩
  · replace h := h.2 c2
    refine zv_iload_n (pc := 7) g dX5_copy_7 3 rfl rfl ?_
    refine zv_cSp (pc := 8) g cw_X5_269 (ctX5_isSheet h) (by decide) (by decide) zz_pN rfl rfl (Nat.le_of_ble_eq_true rfl) dX5_copy_8 (fun v5 h => ?_)
    refine zv_if_ne (pc := 11) 21 g dX5_copy_11 rfl (fun c6 => ?_) (fun c6 => ?_)
    · replace h := h.1 c6
      refine zv_aload_n (pc := 21) g dX5_copy_21 0 rfl rfl ?_
      refine zv_get (pc := 22) g fl_X5_25 0 rfl rfl dX5_copy_22 ?_
      refine zv_iload_n (pc := 25) g dX5_copy_25 1 rfl rfl ?_
      obtain ⟨hi, h⟩ := h
      refine zv_iald (pc := 26) g 6 rfl hi dX5_copy_26 ?_
      refine zv_if_eq (pc := 27) 39 g dX5_copy_27 rfl (fun c7 => ?_) (fun c7 => ?_)
      · replace h := h.1 c7
        refine zv_aload_n (pc := 39) g dX5_copy_39 0 rfl rfl ?_
        refine zv_ldcw (pc := 40) g wd_1064 dX5_copy_40 ?_
        refine zv_cVi (pc := 43) g cw_X5_57 (ctX5_finds h) (by decide) (by decide) zz_p0 (mW β a) (fun T => zz_p1 T) (q := 0) rfl rfl rfl rfl rfl (Nat.le_of_ble_eq_true rfl) dX5_copy_43 (fun v8 S9 h => ?_)
        exact zv_iret (pc := 46) g hR dX5_copy_46 ⟨_, _, rfl, rfl, h⟩
      · replace h := h.2 c7
        refine zv_aload_n (pc := 30) g dX5_copy_30 0 rfl rfl ?_
        refine zv_get (pc := 31) g fl_X5_25 0 rfl rfl dX5_copy_31 ?_
        refine zv_iload_n (pc := 34) g dX5_copy_34 3 rfl rfl ?_
        obtain ⟨hi, h⟩ := h
        refine zv_iald (pc := 35) g 6 rfl hi dX5_copy_35 ?_
        refine zv_if_ne (pc := 36) 47 g dX5_copy_36 rfl (fun c10 => ?_) (fun c10 => ?_)
        · replace h := h.1 c10
          refine zv_aload_n (pc := 47) g dX5_copy_47 0 rfl rfl ?_
          refine zv_get (pc := 48) g fl_X5_25 0 rfl rfl dX5_copy_48 ?_
          refine zv_iload_n (pc := 51) g dX5_copy_51 1 rfl rfl ?_
          obtain ⟨hi, h⟩ := h
          refine zv_iald (pc := 52) g 6 rfl hi dX5_copy_52 ?_
          refine zv_aload_n (pc := 53) g dX5_copy_53 0 rfl rfl ?_
          refine zv_get (pc := 54) g fl_X5_25 0 rfl rfl dX5_copy_54 ?_
          refine zv_iload_n (pc := 57) g dX5_copy_57 3 rfl rfl ?_
          obtain ⟨hi, h⟩ := h
          refine zv_iald (pc := 58) g 6 rfl hi dX5_copy_58 ?_
          refine zv_icmp_eq (pc := 59) 69 g dX5_copy_59 rfl (fun c11 => ?_) (fun c11 => ?_)
          · replace h := h.1 c11
            refine zv_aload_n (pc := 69) g dX5_copy_69 0 rfl rfl ?_
            refine zv_iload_n (pc := 70) g dX5_copy_70 1 rfl rfl ?_
            refine zv_iload_n (pc := 71) g dX5_copy_71 2 rfl rfl ?_
            refine zv_iload (pc := 72) g dX5_copy_72 5 rfl ?_
            refine zv_cVp (pc := 74) g cw_X5_278 (ctX5_isPart_ h) (by decide) (by decide) zz_p0 (q := 0) rfl rfl rfl rfl rfl (Nat.le_of_ble_eq_true rfl) dX5_copy_74 (fun v12 h => ?_)
            refine zv_if_eq (pc := 77) 92 g dX5_copy_77 rfl (fun c13 => ?_) (fun c13 => ?_)
            · replace h := h.1 c13
              refine zv_aload_n (pc := 92) g dX5_copy_92 0 rfl rfl ?_
              refine zv_ldc (pc := 93) g wd_744 dX5_copy_93 ?_
              refine zv_cVi (pc := 95) g cw_X5_57 (ctX5_finds h) (by decide) (by decide) zz_p0 (mW β a) (fun T => zz_p1 T) (q := 0) rfl rfl rfl rfl rfl (Nat.le_of_ble_eq_true rfl) dX5_copy_95 (fun v14 S15 h => ?_)
              exact zv_iret (pc := 98) g hR dX5_copy_98 ⟨_, _, rfl, rfl, h⟩
            · replace h := h.2 c13
              refine zv_aload_n (pc := 80) g dX5_copy_80 0 rfl rfl ?_
              refine zv_iload_n (pc := 81) g dX5_copy_81 3 rfl rfl ?_
              refine zv_iload (pc := 82) g dX5_copy_82 4 rfl ?_
              refine zv_iload (pc := 84) g dX5_copy_84 5 rfl ?_
              refine zv_cVp (pc := 86) g cw_X5_278 (ctX5_isPart_ h) (by decide) (by decide) zz_p0 (q := 0) rfl rfl rfl rfl rfl (Nat.le_of_ble_eq_true rfl) dX5_copy_86 (fun v16 h => ?_)
              refine zv_if_ne (pc := 89) 99 g dX5_copy_89 rfl (fun c17 => ?_) (fun c17 => ?_)
              · replace h := h.1 c17
                refine zv_iconst (pc := 99) g dX5_copy_99 (v := 0) (by decide) ?_
                refine zv_istore (pc := 100) [(6, .int 0), (0, .ref (a 0)), (1, .int x1), (2, .int x2), (3, .int x3), (4, .int x4), (5, .int x5)] g dX5_copy_100 (by decide) rfl ?_
                obtain ⟨f23, h⟩ := h
                refine zv_sub [1, 2, 3, 4, 5, 6, 0] rfl ?_
                exact lX5_copy_102 g hR f23 _ _ _ _ _ _ _ h
              · replace h := h.2 c17
                refine zv_aload_n (pc := 92) g dX5_copy_92 0 rfl rfl ?_
                refine zv_ldc (pc := 93) g wd_744 dX5_copy_93 ?_
                refine zv_cVi (pc := 95) g cw_X5_57 (ctX5_finds h) (by decide) (by decide) zz_p0 (mW β a) (fun T => zz_p1 T) (q := 0) rfl rfl rfl rfl rfl (Nat.le_of_ble_eq_true rfl) dX5_copy_95 (fun v24 S25 h => ?_)
                exact zv_iret (pc := 98) g hR dX5_copy_98 ⟨_, _, rfl, rfl, h⟩
          · replace h := h.2 c11
            refine zv_aload_n (pc := 62) g dX5_copy_62 0 rfl rfl ?_
            refine zv_ldc (pc := 63) g wd_854 dX5_copy_63 ?_
            refine zv_cVi (pc := 65) g cw_X5_57 (ctX5_finds h) (by decide) (by decide) zz_p0 (mW β a) (fun T => zz_p1 T) (q := 0) rfl rfl rfl rfl rfl (Nat.le_of_ble_eq_true rfl) dX5_copy_65 (fun v26 S27 h => ?_)
            exact zv_iret (pc := 68) g hR dX5_copy_68 ⟨_, _, rfl, rfl, h⟩
        · replace h := h.2 c10
          refine zv_aload_n (pc := 39) g dX5_copy_39 0 rfl rfl ?_
          refine zv_ldcw (pc := 40) g wd_1064 dX5_copy_40 ?_
          refine zv_cVi (pc := 43) g cw_X5_57 (ctX5_finds h) (by decide) (by decide) zz_p0 (mW β a) (fun T => zz_p1 T) (q := 0) rfl rfl rfl rfl rfl (Nat.le_of_ble_eq_true rfl) dX5_copy_43 (fun v28 S29 h => ?_)
          exact zv_iret (pc := 46) g hR dX5_copy_46 ⟨_, _, rfl, rfl, h⟩
    · replace h := h.2 c6
      refine zv_aload_n (pc := 14) g dX5_copy_14 0 rfl rfl ?_
      refine zv_ldc (pc := 15) g wd_744 dX5_copy_15 ?_
      refine zv_cVi (pc := 17) g cw_X5_57 (ctX5_finds h) (by decide) (by decide) zz_p0 (mW β a) (fun T => zz_p1 T) (q := 0) rfl rfl rfl rfl rfl (Nat.le_of_ble_eq_true rfl) dX5_copy_17 (fun v30 S31 h => ?_)
      exact zv_iret (pc := 20) g hR dX5_copy_20 ⟨_, _, rfl, rfl, h⟩
def wX5_badSheet (post : Int32 → Prop) (S : MSt) (x1 : Int32) : Prop := wX5_isSheet (fun v1 => (¬ v1 = 0 → vp_in x1 4 ∧ ((¬ (m_bitsOf S (Int32.toNatClampNeg x1)) = 0 → post 0) ∧ ((m_bitsOf S (Int32.toNatClampNeg x1)) = 0 → post (-1000000006)))) ∧ (v1 = 0 → post (-1000000001))) x1
set_option maxRecDepth 100000 in
set_option maxHeartbeats 4000000 in
theorem ctX5_badSheet {β : zz_B} {a : Nat → Nat} {post : Int32 → Prop} {S : MSt} {x1 : Int32} (h : wX5_badSheet post S x1) : zCp β yX5_badSheet cX5_badSheet 2 (some .int) 2 42 [.ref (a 0), .int x1] ((mW β a) S) post := by
  unfold wX5_badSheet at h
  unfold zCp
  refine zC.of (by decide) (Nat.le_of_ble_eq_true rfl) ?_
  intro Γ g hR
  show zV β 2 Γ ((mW β a) S) 0 [(0, .ref (a 0)), (1, .int x1)] []
  refine zv_iload_n (pc := 0) g dX5_badSheet_0 1 rfl rfl ?_
  refine zv_cSp (pc := 1) g cw_X5_269 (ctX5_isSheet h) (by decide) (by decide) zz_pN rfl rfl (Nat.le_of_ble_eq_true rfl) dX5_badSheet_1 (fun v1 h => ?_)
  refine zv_if_ne (pc := 4) 12 g dX5_badSheet_4 rfl (fun c2 => ?_) (fun c2 => ?_)
  · replace h := h.1 c2
    refine zv_aload_n (pc := 12) g dX5_badSheet_12 0 rfl rfl ?_
    refine zv_get (pc := 13) g fl_X5_25 0 rfl rfl dX5_badSheet_13 ?_
    refine zv_iload_n (pc := 16) g dX5_badSheet_16 1 rfl rfl ?_
    obtain ⟨hi, h⟩ := h
    refine zv_iald (pc := 17) g 6 rfl hi dX5_badSheet_17 ?_
    refine zv_if_ne (pc := 18) 27 g dX5_badSheet_18 rfl (fun c3 => ?_) (fun c3 => ?_)
    · replace h := h.1 c3
      refine zv_iconst (pc := 27) g dX5_badSheet_27 (v := 0) (by decide) ?_
      exact zv_iret (pc := 28) g hR dX5_badSheet_28 ⟨_, rfl, rfl, h⟩
    · replace h := h.2 c3
      refine zv_ldcw (pc := 21) g wd_1064 dX5_badSheet_21 ?_
      refine zv_goto (pc := 24) 28 g dX5_badSheet_24 rfl ?_
      exact zv_iret (pc := 28) g hR dX5_badSheet_28 ⟨_, rfl, rfl, h⟩
  · replace h := h.2 c2
    refine zv_ldc (pc := 7) g wd_744 dX5_badSheet_7 ?_
    refine zv_goto (pc := 9) 28 g dX5_badSheet_9 rfl ?_
    exact zv_iret (pc := 28) g hR dX5_badSheet_28 ⟨_, rfl, rfl, h⟩
def wX5_lays_21 (post : Int32 → (MSt) → Prop) : Nat → (MSt) → (Int32) → (Int32) → (Int32) → Prop
  | 0, _, _, _, _ => False
  | f0 + 1, S, x1, x3, x4 => vp_in x1 4 ∧ (((m_sizeOf S (Int32.toNatClampNeg x1)) ≤ x4 → post x3 S) ∧ (¬ (m_sizeOf S (Int32.toNatClampNeg x1)) ≤ x4 → ((8 : Int32) ≤ x4 → post x3 S) ∧ (¬ (8 : Int32) ≤ x4 → vp_in ((40 * x1) + x4) 160 ∧ (∀ y5 : Int64, y5 = (m_sheets S (Int32.toNatClampNeg ((40 * x1) + x4))) → (((lg_cmp y5 0) < 0 → wX5_lays_21 post f0 S x1 x3 (x4 + 1)) ∧ (¬ (lg_cmp y5 0) < 0 → (0 < (lg_cmp y5 1023) → wX5_lays_21 post f0 S x1 x3 (x4 + 1)) ∧ (¬ 0 < (lg_cmp y5 1023) → wX5_places (fun S8 => wX5_lays_21 post f0 S8 x1 (x3 + 1) (x4 + 1)) S x4 1 (Int64.toInt32 y5))))))))
set_option maxRecDepth 100000 in
set_option maxHeartbeats 4000000 in
theorem lX5_lays_21 {β : zz_B} {Γ : zz_X} {a : Nat → Nat} {post : Int32 → (MSt) → Prop} (g : zG β 7 Γ cX5_lays RX5 3 63) (hR : zR β Γ (some .int) (fun r w => ∃ (v : Int32) (T : MSt), r = some (.int v) ∧ w = (mW β a) T ∧ post v T)) : ∀ (f0 : Nat) (S : MSt) (x1 : Int32) (x3 : Int32) (x4 : Int32) , wX5_lays_21 post f0 S x1 x3 x4 → zV β 7 Γ ((mW β a) S) 21 [(0, .ref (a 0)), (1, .int x1), (3, .int x3), (4, .int x4)] [] := by
  intro f0
  induction f0 with
  | zero => intro S x1 x3 x4 h; exact h.elim
  | succ f0 ih0 =>
    intro S x1 x3 x4 h
    rw [wX5_lays_21] at h
    refine zv_iload (pc := 21) g dX5_lays_21 3 rfl ?_
    refine zv_aload_n (pc := 23) g dX5_lays_23 0 rfl rfl ?_
    refine zv_get (pc := 24) g fl_X5_28 0 rfl rfl dX5_lays_24 ?_
    refine zv_iload_n (pc := 27) g dX5_lays_27 1 rfl rfl ?_
    obtain ⟨hi, h⟩ := h
    refine zv_iald (pc := 28) g 7 rfl hi dX5_lays_28 ?_
    refine zv_icmp_ge (pc := 29) 88 g dX5_lays_29 rfl (fun c3 => ?_) (fun c3 => ?_)
    · replace h := h.1 c3
      refine zv_iload_n (pc := 88) g dX5_lays_88 2 rfl rfl ?_
      exact zv_iret (pc := 89) g hR dX5_lays_89 ⟨_, _, rfl, rfl, h⟩
    · replace h := h.2 c3
      refine zv_iload (pc := 32) g dX5_lays_32 3 rfl ?_
      refine zv_bipush (pc := 34) g dX5_lays_34 (v := 8) (by decide) ?_
      refine zv_icmp_ge (pc := 36) 88 g dX5_lays_36 rfl (fun c4 => ?_) (fun c4 => ?_)
      · replace h := h.1 c4
        refine zv_iload_n (pc := 88) g dX5_lays_88 2 rfl rfl ?_
        exact zv_iret (pc := 89) g hR dX5_lays_89 ⟨_, _, rfl, rfl, h⟩
      · replace h := h.2 c4
        refine zv_aload_n (pc := 39) g dX5_lays_39 0 rfl rfl ?_
        refine zv_get (pc := 40) g fl_X5_31 0 rfl rfl dX5_lays_40 ?_
        refine zv_bipush (pc := 43) g dX5_lays_43 (v := 40) (by decide) ?_
        refine zv_iload_n (pc := 45) g dX5_lays_45 1 rfl rfl ?_
        refine zv_imul (pc := 46) g dX5_lays_46 ?_
        refine zv_iload (pc := 47) g dX5_lays_47 3 rfl ?_
        refine zv_iadd (pc := 49) g dX5_lays_49 ?_
        obtain ⟨hi, h⟩ := h
        refine zv_lald (pc := 50) g 8 rfl hi dX5_lays_50 ?_
        refine zv_topl (fun y5 ey5 => ?_)
        replace h := h y5 ey5
        refine zv_lstore (pc := 51) [(5, .long y5), (0, .ref (a 0)), (1, .int x1), (3, .int x3), (4, .int x4)] g dX5_lays_51 (by decide) rfl ?_
        refine zv_lload (pc := 53) g dX5_lays_53 0 rfl ?_
        refine zv_lconst (pc := 55) g dX5_lays_55 (v := 0) (by decide) ?_
        refine zv_lcmp (pc := 56) g dX5_lays_56 ?_
        refine zv_if_lt (pc := 57) 82 g dX5_lays_57 rfl (fun c6 => ?_) (fun c6 => ?_)
        · replace h := h.1 c6
          refine zv_iinc (pc := 82) 1 [(4, .int (x4 + 1)), (5, .long y5), (0, .ref (a 0)), (1, .int x1), (3, .int x3)] g dX5_lays_82 4 rfl (by decide) (by decide) rfl ?_
          refine zv_goto (pc := 85) 21 g dX5_lays_85 rfl ?_
          refine zv_sub [2, 3, 4, 0] rfl ?_
          exact ih0 _ _ _ _ h
        · replace h := h.2 c6
          refine zv_lload (pc := 60) g dX5_lays_60 0 rfl ?_
          refine zv_ldc2 (pc := 62) g wd_1084 dX5_lays_62 ?_
          refine zv_lcmp (pc := 65) g dX5_lays_65 ?_
          refine zv_if_gt (pc := 66) 82 g dX5_lays_66 rfl (fun c7 => ?_) (fun c7 => ?_)
          · replace h := h.1 c7
            refine zv_iinc (pc := 82) 1 [(4, .int (x4 + 1)), (5, .long y5), (0, .ref (a 0)), (1, .int x1), (3, .int x3)] g dX5_lays_82 4 rfl (by decide) (by decide) rfl ?_
            refine zv_goto (pc := 85) 21 g dX5_lays_85 rfl ?_
            refine zv_sub [2, 3, 4, 0] rfl ?_
            exact ih0 _ _ _ _ h
          · replace h := h.2 c7
            refine zv_aload_n (pc := 69) g dX5_lays_69 1 rfl rfl ?_
            refine zv_iload (pc := 70) g dX5_lays_70 4 rfl ?_
            refine zv_iconst (pc := 72) g dX5_lays_72 (v := 1) (by decide) ?_
            refine zv_lload (pc := 73) g dX5_lays_73 0 rfl ?_
            refine zv_l2i (pc := 75) g dX5_lays_75 ?_
            refine zv_cVv (pc := 76) g cw_X5_44 (ctX5_places h) (by decide) (by decide) zz_p0 (mW β a) (fun T => zz_p1 T) (q := 0) rfl rfl rfl rfl rfl (Nat.le_of_ble_eq_true rfl) dX5_lays_76 (fun S8 h => ?_)
            refine zv_iinc (pc := 79) 1 [(3, .int (x3 + 1)), (5, .long y5), (0, .ref (a 0)), (1, .int x1), (4, .int x4)] g dX5_lays_79 3 rfl (by decide) (by decide) rfl ?_
            refine zv_iinc (pc := 82) 1 [(4, .int (x4 + 1)), (3, .int (x3 + 1)), (5, .long y5), (0, .ref (a 0)), (1, .int x1)] g dX5_lays_82 4 rfl (by decide) (by decide) rfl ?_
            refine zv_goto (pc := 85) 21 g dX5_lays_85 rfl ?_
            refine zv_sub [3, 4, 1, 0] rfl ?_
            exact ih0 _ _ _ _ h
def wX5_lays (post : Int32 → (MSt) → Prop) (S : MSt) (x1 : Int32) : Prop := wX5_badSheet (fun v1 => (v1 = 0 → ∃ f9 : Nat, wX5_lays_21 post f9 S x1 0 0) ∧ (¬ v1 = 0 → wX5_finds (fun v10 S11 => post v10 S11) S v1)) S x1
set_option maxRecDepth 100000 in
set_option maxHeartbeats 4000000 in
theorem ctX5_lays {β : zz_B} {a : Nat → Nat} {post : Int32 → (MSt) → Prop} {S : MSt} {x1 : Int32} (h : wX5_lays post S x1) : zCi β yX5_lays cX5_lays 7 (some .int) 3 63 [.ref (a 0), .int x1] (mW β a) S post := by
  unfold wX5_lays at h
  unfold zCi
  refine zC.of (by decide) (Nat.le_of_ble_eq_true rfl) ?_
  intro Γ g hR
  show zV β 7 Γ ((mW β a) S) 0 [(0, .ref (a 0)), (1, .int x1)] []
  refine zv_aload_n (pc := 0) g dX5_lays_0 0 rfl rfl ?_
  refine zv_iload_n (pc := 1) g dX5_lays_1 1 rfl rfl ?_
  refine zv_cVp (pc := 2) g cw_X5_280 (ctX5_badSheet h) (by decide) (by decide) zz_p0 (q := 0) rfl rfl rfl rfl rfl (Nat.le_of_ble_eq_true rfl) dX5_lays_2 (fun v1 h => ?_)
  refine zv_istore_n (pc := 5) 2 [(2, .int v1), (0, .ref (a 0)), (1, .int x1)] g dX5_lays_5 rfl (by decide) rfl ?_
  refine zv_iload_n (pc := 6) g dX5_lays_6 0 rfl rfl ?_
  refine zv_if_eq (pc := 7) 16 g dX5_lays_7 rfl (fun c2 => ?_) (fun c2 => ?_)
  · replace h := h.1 c2
    refine zv_iconst (pc := 16) g dX5_lays_16 (v := 0) (by decide) ?_
    refine zv_istore_n (pc := 17) 3 [(3, .int 0), (2, .int v1), (0, .ref (a 0)), (1, .int x1)] g dX5_lays_17 rfl (by decide) rfl ?_
    refine zv_iconst (pc := 18) g dX5_lays_18 (v := 0) (by decide) ?_
    refine zv_istore (pc := 19) [(4, .int 0), (3, .int 0), (2, .int v1), (0, .ref (a 0)), (1, .int x1)] g dX5_lays_19 (by decide) rfl ?_
    obtain ⟨f9, h⟩ := h
    refine zv_sub [3, 4, 1, 0] rfl ?_
    exact lX5_lays_21 g hR f9 _ _ _ _ h
  · replace h := h.2 c2
    refine zv_aload_n (pc := 10) g dX5_lays_10 1 rfl rfl ?_
    refine zv_iload_n (pc := 11) g dX5_lays_11 0 rfl rfl ?_
    refine zv_cVi (pc := 12) g cw_X5_57 (ctX5_finds h) (by decide) (by decide) zz_p0 (mW β a) (fun T => zz_p1 T) (q := 0) rfl rfl rfl rfl rfl (Nat.le_of_ble_eq_true rfl) dX5_lays_12 (fun v10 S11 h => ?_)
    exact zv_iret (pc := 15) g hR dX5_lays_15 ⟨_, _, rfl, rfl, h⟩
def wX5_book_42 (post : Int32 → (MSt) → Prop) : Nat → (MSt) → (Int32) → (Int32) → (Int32) → Prop
  | 0, _, _, _, _ => False
  | f0 + 1, S, x1, x2, x4 => vp_in x1 4 ∧ (((m_sizeOf S (Int32.toNatClampNeg x1)) ≤ x4 → wX5_moveAll_tried (fun S7 => vp_in x1 4 ∧ (post (m_sizeOf S7 (Int32.toNatClampNeg x1)) S7)) S 0) ∧ (¬ (m_sizeOf S (Int32.toNatClampNeg x1)) ≤ x4 → vp_in x1 4 ∧ (wX5_there (fun v8 => wX5_narrow (fun v9 => vp_in ((40 * x1) + x4) 160 ∧ (∀ S10 : MSt, S10 = (m_sheets_s S (vp_updL (m_sheets S) (Int32.toNatClampNeg ((40 * x1) + x4)) v9)) → (wX5_oneDay (fun S11 => wX5_book_42 post f0 S11 x1 x2 (x4 + 1)) S10))) (m_bitsOf S (Int32.toNatClampNeg x1)) (Int32.toInt64 v8)) S x2 1)))
set_option maxRecDepth 100000 in
set_option maxHeartbeats 4000000 in
theorem lX5_book_42 {β : zz_B} {Γ : zz_X} {a : Nat → Nat} {post : Int32 → (MSt) → Prop} (g : zG β 5 Γ cX5_book RX5 4 95) (hR : zR β Γ (some .int) (fun r w => ∃ (v : Int32) (T : MSt), r = some (.int v) ∧ w = (mW β a) T ∧ post v T)) : ∀ (f0 : Nat) (S : MSt) (x1 : Int32) (x2 : Int32) (x4 : Int32) , wX5_book_42 post f0 S x1 x2 x4 → zV β 5 Γ ((mW β a) S) 42 [(0, .ref (a 0)), (1, .int x1), (2, .int x2), (4, .int x4)] [] := by
  intro f0
  induction f0 with
  | zero => intro S x1 x2 x4 h; exact h.elim
  | succ f0 ih0 =>
    intro S x1 x2 x4 h
    rw [wX5_book_42] at h
    refine zv_iload (pc := 42) g dX5_book_42 3 rfl ?_
    refine zv_aload_n (pc := 44) g dX5_book_44 0 rfl rfl ?_
    refine zv_get (pc := 45) g fl_X5_28 0 rfl rfl dX5_book_45 ?_
    refine zv_iload_n (pc := 48) g dX5_book_48 1 rfl rfl ?_
    obtain ⟨hi, h⟩ := h
    refine zv_iald (pc := 49) g 7 rfl hi dX5_book_49 ?_
    refine zv_icmp_ge (pc := 50) 91 g dX5_book_50 rfl (fun c6 => ?_) (fun c6 => ?_)
    · replace h := h.1 c6
      refine zv_aload_n (pc := 91) g dX5_book_91 0 rfl rfl ?_
      refine zv_iconst (pc := 92) g dX5_book_92 (v := 0) (by decide) ?_
      refine zv_aload_n (pc := 93) g dX5_book_93 0 rfl rfl ?_
      refine zv_get (pc := 94) g fl_X5_16 0 rfl rfl dX5_book_94 ?_
      refine zv_cVv (pc := 97) g cw_X5_147 (ctX5_moveAll_tried h) (by decide) (by decide) zz_p0 (mW β a) (fun T => zz_p1 T) (q := 0) rfl rfl rfl rfl rfl (Nat.le_of_ble_eq_true rfl) dX5_book_97 (fun S7 h => ?_)
      refine zv_aload_n (pc := 100) g dX5_book_100 0 rfl rfl ?_
      refine zv_get (pc := 101) g fl_X5_28 0 rfl rfl dX5_book_101 ?_
      refine zv_iload_n (pc := 104) g dX5_book_104 1 rfl rfl ?_
      obtain ⟨hi, h⟩ := h
      refine zv_iald (pc := 105) g 7 rfl hi dX5_book_105 ?_
      exact zv_iret (pc := 106) g hR dX5_book_106 ⟨_, _, rfl, rfl, h⟩
    · replace h := h.2 c6
      refine zv_aload_n (pc := 53) g dX5_book_53 0 rfl rfl ?_
      refine zv_get (pc := 54) g fl_X5_31 0 rfl rfl dX5_book_54 ?_
      refine zv_bipush (pc := 57) g dX5_book_57 (v := 40) (by decide) ?_
      refine zv_iload_n (pc := 59) g dX5_book_59 1 rfl rfl ?_
      refine zv_imul (pc := 60) g dX5_book_60 ?_
      refine zv_iload (pc := 61) g dX5_book_61 3 rfl ?_
      refine zv_iadd (pc := 63) g dX5_book_63 ?_
      refine zv_aload_n (pc := 64) g dX5_book_64 0 rfl rfl ?_
      refine zv_get (pc := 65) g fl_X5_25 0 rfl rfl dX5_book_65 ?_
      refine zv_iload_n (pc := 68) g dX5_book_68 1 rfl rfl ?_
      obtain ⟨hi, h⟩ := h
      refine zv_iald (pc := 69) g 6 rfl hi dX5_book_69 ?_
      refine zv_aload_n (pc := 70) g dX5_book_70 0 rfl rfl ?_
      refine zv_iload_n (pc := 71) g dX5_book_71 2 rfl rfl ?_
      refine zv_iconst (pc := 72) g dX5_book_72 (v := 1) (by decide) ?_
      refine zv_cVp (pc := 73) g cw_X5_71 (ctX5_there h) (by decide) (by decide) zz_p0 (q := 0) rfl rfl rfl rfl rfl (Nat.le_of_ble_eq_true rfl) dX5_book_73 (fun v8 h => ?_)
      refine zv_i2l (pc := 76) g dX5_book_76 ?_
      refine zv_cSq (pc := 77) g cw_X5_274 (ctX5_narrow h) (by decide) (by decide) zz_pN rfl rfl (Nat.le_of_ble_eq_true rfl) dX5_book_77 (fun v9 h => ?_)
      obtain ⟨hi, h⟩ := h
      refine zv_lals (pc := 80) ((mW β a) (m_sheets_s S (vp_updL (m_sheets S) (Int32.toNatClampNeg ((40 * x1) + x4)) v9))) g 8 rfl hi rfl dX5_book_80 ?_
      refine zv_nmS (wf := (mW β a)) (fun S10 eS10 => ?_)
      replace h := h S10 eS10
      refine zv_aload_n (pc := 81) g dX5_book_81 0 rfl rfl ?_
      refine zv_cVv (pc := 82) g cw_X5_139 (ctX5_oneDay h) (by decide) (by decide) zz_p0 (mW β a) (fun T => zz_p1 T) (q := 0) rfl rfl rfl rfl rfl (Nat.le_of_ble_eq_true rfl) dX5_book_82 (fun S11 h => ?_)
      refine zv_iinc (pc := 85) 1 [(4, .int (x4 + 1)), (0, .ref (a 0)), (1, .int x1), (2, .int x2)] g dX5_book_85 3 rfl (by decide) (by decide) rfl ?_
      refine zv_goto (pc := 88) 42 g dX5_book_88 rfl ?_
      refine zv_sub [1, 2, 3, 0] rfl ?_
      exact ih0 _ _ _ _ h
def wX5_book (post : Int32 → (MSt) → Prop) (S : MSt) (x1 : Int32) (x2 : Int32) : Prop := wX5_badSheet (fun v1 => (v1 = 0 → wX5_isRoom (fun v3 => (¬ v3 = 0 → wX5_moveAll_tried (fun S5 => ∃ f12 : Nat, wX5_book_42 post f12 S5 x1 x2 0) S 1) ∧ (v3 = 0 → wX5_finds (fun v13 S14 => post v13 S14) S (-1000000001))) x2) ∧ (¬ v1 = 0 → wX5_finds (fun v15 S16 => post v15 S16) S v1)) S x1
set_option maxRecDepth 100000 in
set_option maxHeartbeats 4000000 in
theorem ctX5_book {β : zz_B} {a : Nat → Nat} {post : Int32 → (MSt) → Prop} {S : MSt} {x1 : Int32} {x2 : Int32} (h : wX5_book post S x1 x2) : zCi β yX5_book cX5_book 5 (some .int) 4 95 [.ref (a 0), .int x1, .int x2] (mW β a) S post := by
  unfold wX5_book at h
  unfold zCi
  refine zC.of (by decide) (Nat.le_of_ble_eq_true rfl) ?_
  intro Γ g hR
  show zV β 5 Γ ((mW β a) S) 0 [(0, .ref (a 0)), (1, .int x1), (2, .int x2)] []
  refine zv_aload_n (pc := 0) g dX5_book_0 0 rfl rfl ?_
  refine zv_iload_n (pc := 1) g dX5_book_1 1 rfl rfl ?_
  refine zv_cVp (pc := 2) g cw_X5_280 (ctX5_badSheet h) (by decide) (by decide) zz_p0 (q := 0) rfl rfl rfl rfl rfl (Nat.le_of_ble_eq_true rfl) dX5_book_2 (fun v1 h => ?_)
  refine zv_istore_n (pc := 5) 3 [(3, .int v1), (0, .ref (a 0)), (1, .int x1), (2, .int x2)] g dX5_book_5 rfl (by decide) rfl ?_
  refine zv_iload_n (pc := 6) g dX5_book_6 0 rfl rfl ?_
  refine zv_if_eq (pc := 7) 16 g dX5_book_7 rfl (fun c2 => ?_) (fun c2 => ?_)
  · replace h := h.1 c2
    refine zv_iload_n (pc := 16) g dX5_book_16 3 rfl rfl ?_
    refine zv_cSp (pc := 17) g cw_X5_61 (ctX5_isRoom h) (by decide) (by decide) zz_pN rfl rfl (Nat.le_of_ble_eq_true rfl) dX5_book_17 (fun v3 h => ?_)
    refine zv_if_ne (pc := 20) 30 g dX5_book_20 rfl (fun c4 => ?_) (fun c4 => ?_)
    · replace h := h.1 c4
      refine zv_aload_n (pc := 30) g dX5_book_30 1 rfl rfl ?_
      refine zv_iconst (pc := 31) g dX5_book_31 (v := 1) (by decide) ?_
      refine zv_aload_n (pc := 32) g dX5_book_32 1 rfl rfl ?_
      refine zv_get (pc := 33) g fl_X5_16 0 rfl rfl dX5_book_33 ?_
      refine zv_cVv (pc := 36) g cw_X5_147 (ctX5_moveAll_tried h) (by decide) (by decide) zz_p0 (mW β a) (fun T => zz_p1 T) (q := 0) rfl rfl rfl rfl rfl (Nat.le_of_ble_eq_true rfl) dX5_book_36 (fun S5 h => ?_)
      refine zv_iconst (pc := 39) g dX5_book_39 (v := 0) (by decide) ?_
      refine zv_istore (pc := 40) [(4, .int 0), (3, .int v1), (0, .ref (a 0)), (1, .int x1), (2, .int x2)] g dX5_book_40 (by decide) rfl ?_
      obtain ⟨f12, h⟩ := h
      refine zv_sub [2, 3, 4, 0] rfl ?_
      exact lX5_book_42 g hR f12 _ _ _ _ h
    · replace h := h.2 c4
      refine zv_aload_n (pc := 23) g dX5_book_23 1 rfl rfl ?_
      refine zv_ldc (pc := 24) g wd_744 dX5_book_24 ?_
      refine zv_cVi (pc := 26) g cw_X5_57 (ctX5_finds h) (by decide) (by decide) zz_p0 (mW β a) (fun T => zz_p1 T) (q := 0) rfl rfl rfl rfl rfl (Nat.le_of_ble_eq_true rfl) dX5_book_26 (fun v13 S14 h => ?_)
      exact zv_iret (pc := 29) g hR dX5_book_29 ⟨_, _, rfl, rfl, h⟩
  · replace h := h.2 c2
    refine zv_aload_n (pc := 10) g dX5_book_10 1 rfl rfl ?_
    refine zv_iload_n (pc := 11) g dX5_book_11 0 rfl rfl ?_
    refine zv_cVi (pc := 12) g cw_X5_57 (ctX5_finds h) (by decide) (by decide) zz_p0 (mW β a) (fun T => zz_p1 T) (q := 0) rfl rfl rfl rfl rfl (Nat.le_of_ble_eq_true rfl) dX5_book_12 (fun v15 S16 h => ?_)
    exact zv_iret (pc := 15) g hR dX5_book_15 ⟨_, _, rfl, rfl, h⟩
def wX5_isSo_5 (post : Int32 → (MSt) → Prop) : Nat → (MSt) → (Int32) → (Int32) → (Int32) → (Int32) → Prop
  | 0, _, _, _, _, _ => False
  | f0 + 1, S, x1, x2, x3, x4 => vp_in x1 4 ∧ (((m_sizeOf S (Int32.toNatClampNeg x1)) ≤ x4 → (x3 = 0 ∨ x3 = 1) ∧ post x3 S) ∧ (¬ (m_sizeOf S (Int32.toNatClampNeg x1)) ≤ x4 → (x3 = 0 → (x3 = 0 ∨ x3 = 1) ∧ post x3 S) ∧ (¬ x3 = 0 → vp_in ((40 * x1) + x4) 160 ∧ (wX5_there (fun v3 => (¬ (lg_cmp (m_sheets S (Int32.toNatClampNeg ((40 * x1) + x4))) (Int32.toInt64 v3)) = 0 → wX5_oneDay (fun S5 => wX5_isSo_5 post f0 S5 x1 x2 0 (x4 + 1)) S) ∧ ((lg_cmp (m_sheets S (Int32.toNatClampNeg ((40 * x1) + x4))) (Int32.toInt64 v3)) = 0 → wX5_oneDay (fun S6 => wX5_isSo_5 post f0 S6 x1 x2 1 (x4 + 1)) S)) S x2 1))))
set_option maxRecDepth 100000 in
set_option maxHeartbeats 4000000 in
theorem lX5_isSo_5 {β : zz_B} {Γ : zz_X} {a : Nat → Nat} {post : Int32 → (MSt) → Prop} (g : zG β 5 Γ cX5_isSo RX5 4 95) (hR : zR β Γ (some .boolean) (fun r w => ∃ (v : Int32) (T : MSt), r = some (.int v) ∧ w = (mW β a) T ∧ post v T)) : ∀ (f0 : Nat) (S : MSt) (x1 : Int32) (x2 : Int32) (x3 : Int32) (x4 : Int32) , wX5_isSo_5 post f0 S x1 x2 x3 x4 → zV β 5 Γ ((mW β a) S) 5 [(0, .ref (a 0)), (1, .int x1), (2, .int x2), (3, .int x3), (4, .int x4)] [] := by
  intro f0
  induction f0 with
  | zero => intro S x1 x2 x3 x4 h; exact h.elim
  | succ f0 ih0 =>
    intro S x1 x2 x3 x4 h
    rw [wX5_isSo_5] at h
    refine zv_iload (pc := 5) g dX5_isSo_5 4 rfl ?_
    refine zv_aload_n (pc := 7) g dX5_isSo_7 0 rfl rfl ?_
    refine zv_get (pc := 8) g fl_X5_28 0 rfl rfl dX5_isSo_8 ?_
    refine zv_iload_n (pc := 11) g dX5_isSo_11 1 rfl rfl ?_
    obtain ⟨hi, h⟩ := h
    refine zv_iald (pc := 12) g 7 rfl hi dX5_isSo_12 ?_
    refine zv_icmp_ge (pc := 13) 59 g dX5_isSo_13 rfl (fun c1 => ?_) (fun c1 => ?_)
    · replace h := h.1 c1
      refine zv_iload_n (pc := 59) g dX5_isSo_59 3 rfl rfl ?_
      exact zv_zret (pc := 60) g hR (zz_nb h.1).1 dX5_isSo_60 ⟨_, _, rfl, rfl, h.2⟩
    · replace h := h.2 c1
      refine zv_iload_n (pc := 16) g dX5_isSo_16 3 rfl rfl ?_
      refine zv_if_eq (pc := 17) 59 g dX5_isSo_17 rfl (fun c2 => ?_) (fun c2 => ?_)
      · replace h := h.1 c2
        refine zv_iload_n (pc := 59) g dX5_isSo_59 3 rfl rfl ?_
        exact zv_zret (pc := 60) g hR (zz_nb h.1).1 dX5_isSo_60 ⟨_, _, rfl, rfl, h.2⟩
      · replace h := h.2 c2
        refine zv_aload_n (pc := 20) g dX5_isSo_20 0 rfl rfl ?_
        refine zv_get (pc := 21) g fl_X5_31 0 rfl rfl dX5_isSo_21 ?_
        refine zv_bipush (pc := 24) g dX5_isSo_24 (v := 40) (by decide) ?_
        refine zv_iload_n (pc := 26) g dX5_isSo_26 1 rfl rfl ?_
        refine zv_imul (pc := 27) g dX5_isSo_27 ?_
        refine zv_iload (pc := 28) g dX5_isSo_28 4 rfl ?_
        refine zv_iadd (pc := 30) g dX5_isSo_30 ?_
        obtain ⟨hi, h⟩ := h
        refine zv_lald (pc := 31) g 8 rfl hi dX5_isSo_31 ?_
        refine zv_aload_n (pc := 32) g dX5_isSo_32 0 rfl rfl ?_
        refine zv_iload_n (pc := 33) g dX5_isSo_33 2 rfl rfl ?_
        refine zv_iconst (pc := 34) g dX5_isSo_34 (v := 1) (by decide) ?_
        refine zv_cVp (pc := 35) g cw_X5_71 (ctX5_there h) (by decide) (by decide) zz_p0 (q := 0) rfl rfl rfl rfl rfl (Nat.le_of_ble_eq_true rfl) dX5_isSo_35 (fun v3 h => ?_)
        refine zv_i2l (pc := 38) g dX5_isSo_38 ?_
        refine zv_lcmp (pc := 39) g dX5_isSo_39 ?_
        refine zv_if_ne (pc := 40) 47 g dX5_isSo_40 rfl (fun c4 => ?_) (fun c4 => ?_)
        · replace h := h.1 c4
          refine zv_iconst (pc := 47) g dX5_isSo_47 (v := 0) (by decide) ?_
          refine zv_istore_n (pc := 48) 3 [(3, .int 0), (0, .ref (a 0)), (1, .int x1), (2, .int x2), (4, .int x4)] g dX5_isSo_48 rfl (by decide) rfl ?_
          refine zv_aload_n (pc := 49) g dX5_isSo_49 1 rfl rfl ?_
          refine zv_cVv (pc := 50) g cw_X5_139 (ctX5_oneDay h) (by decide) (by decide) zz_p0 (mW β a) (fun T => zz_p1 T) (q := 0) rfl rfl rfl rfl rfl (Nat.le_of_ble_eq_true rfl) dX5_isSo_50 (fun S5 h => ?_)
          refine zv_iinc (pc := 53) 1 [(4, .int (x4 + 1)), (3, .int 0), (0, .ref (a 0)), (1, .int x1), (2, .int x2)] g dX5_isSo_53 4 rfl (by decide) (by decide) rfl ?_
          refine zv_goto (pc := 56) 5 g dX5_isSo_56 rfl ?_
          refine zv_sub [2, 3, 4, 1, 0] rfl ?_
          exact ih0 _ _ _ _ _ h
        · replace h := h.2 c4
          refine zv_iconst (pc := 43) g dX5_isSo_43 (v := 1) (by decide) ?_
          refine zv_goto (pc := 44) 48 g dX5_isSo_44 rfl ?_
          refine zv_istore_n (pc := 48) 3 [(3, .int 1), (0, .ref (a 0)), (1, .int x1), (2, .int x2), (4, .int x4)] g dX5_isSo_48 rfl (by decide) rfl ?_
          refine zv_aload_n (pc := 49) g dX5_isSo_49 1 rfl rfl ?_
          refine zv_cVv (pc := 50) g cw_X5_139 (ctX5_oneDay h) (by decide) (by decide) zz_p0 (mW β a) (fun T => zz_p1 T) (q := 0) rfl rfl rfl rfl rfl (Nat.le_of_ble_eq_true rfl) dX5_isSo_50 (fun S6 h => ?_)
          refine zv_iinc (pc := 53) 1 [(4, .int (x4 + 1)), (3, .int 1), (0, .ref (a 0)), (1, .int x1), (2, .int x2)] g dX5_isSo_53 4 rfl (by decide) (by decide) rfl ?_
          refine zv_goto (pc := 56) 5 g dX5_isSo_56 rfl ?_
          refine zv_sub [2, 3, 4, 1, 0] rfl ?_
          exact ih0 _ _ _ _ _ h
def wX5_isSo (post : Int32 → (MSt) → Prop) (S : MSt) (x1 : Int32) (x2 : Int32) : Prop := ∃ f7 : Nat, wX5_isSo_5 post f7 S x1 x2 1 0
set_option maxRecDepth 100000 in
set_option maxHeartbeats 4000000 in
theorem ctX5_isSo {β : zz_B} {a : Nat → Nat} {post : Int32 → (MSt) → Prop} {S : MSt} {x1 : Int32} {x2 : Int32} (h : wX5_isSo post S x1 x2) : zCi β yX5_isSo cX5_isSo 5 (some .boolean) 4 95 [.ref (a 0), .int x1, .int x2] (mW β a) S post := by
  unfold wX5_isSo at h
  unfold zCi
  refine zC.of (by decide) (Nat.le_of_ble_eq_true rfl) ?_
  intro Γ g hR
  show zV β 5 Γ ((mW β a) S) 0 [(0, .ref (a 0)), (1, .int x1), (2, .int x2)] []
  refine zv_iconst (pc := 0) g dX5_isSo_0 (v := 1) (by decide) ?_
  refine zv_istore_n (pc := 1) 3 [(3, .int 1), (0, .ref (a 0)), (1, .int x1), (2, .int x2)] g dX5_isSo_1 rfl (by decide) rfl ?_
  refine zv_iconst (pc := 2) g dX5_isSo_2 (v := 0) (by decide) ?_
  refine zv_istore (pc := 3) [(4, .int 0), (3, .int 1), (0, .ref (a 0)), (1, .int x1), (2, .int x2)] g dX5_isSo_3 (by decide) rfl ?_
  obtain ⟨f7, h⟩ := h
  refine zv_sub [2, 3, 4, 1, 0] rfl ?_
  exact lX5_isSo_5 g hR f7 _ _ _ _ _ h
def wX5_read_56 (post : Int32 → (MSt) → Prop) : Nat → (MSt) → (Int32) → (Int32) → (Int32) → (Int32) → (Int32) → Prop
  | 0, _, _, _, _, _, _ => False
  | f0 + 1, S, x1, x2, x3, x5, x6 => ((48 : Int32) ≤ x6 → post x5 S) ∧ (¬ (48 : Int32) ≤ x6 → wX5_puts (fun S11 => wX5_puts (fun S12 => wX5_isSo (fun v13 S14 => (v13 = 0 → ∀ y16 : Int32, y16 = (x5 + 0) → (wX5_moveAll_before1 (fun S17 => wX5_read_56 post f0 S17 x1 x2 x3 y16 (x6 + 1)) S14 0)) ∧ (¬ v13 = 0 → ∀ y18 : Int32, y18 = (x5 + 1) → (wX5_moveAll_before1 (fun S19 => wX5_read_56 post f0 S19 x1 x2 x3 y18 (x6 + 1)) S14 0))) S12 x1 x2) S11 x3 3 (x6 - x6 / 8 * 8)) S x3 0 (x6 / 8))
set_option maxRecDepth 100000 in
set_option maxHeartbeats 4000000 in
theorem lX5_read_56 {β : zz_B} {Γ : zz_X} {a : Nat → Nat} {post : Int32 → (MSt) → Prop} (g : zG β 7 Γ cX5_read RX5 5 119) (hR : zR β Γ (some .int) (fun r w => ∃ (v : Int32) (T : MSt), r = some (.int v) ∧ w = (mW β a) T ∧ post v T)) : ∀ (f0 : Nat) (S : MSt) (x1 : Int32) (x2 : Int32) (x3 : Int32) (x5 : Int32) (x6 : Int32) , wX5_read_56 post f0 S x1 x2 x3 x5 x6 → zV β 7 Γ ((mW β a) S) 56 [(0, .ref (a 0)), (1, .int x1), (2, .int x2), (3, .int x3), (5, .int x5), (6, .int x6)] [] := by
  intro f0
  induction f0 with
  | zero => intro S x1 x2 x3 x5 x6 h; exact h.elim
  | succ f0 ih0 =>
    intro S x1 x2 x3 x5 x6 h
    rw [wX5_read_56] at h
    refine zv_iload (pc := 56) g dX5_read_56 5 rfl ?_
    refine zv_bipush (pc := 58) g dX5_read_58 (v := 48) (by decide) ?_
    refine zv_icmp_ge (pc := 60) 119 g dX5_read_60 rfl (fun c10 => ?_) (fun c10 => ?_)
    · replace h := h.1 c10
      refine zv_iload (pc := 119) g dX5_read_119 4 rfl ?_
      exact zv_iret (pc := 121) g hR dX5_read_121 ⟨_, _, rfl, rfl, h⟩
    · replace h := h.2 c10
      refine zv_aload_n (pc := 63) g dX5_read_63 0 rfl rfl ?_
      refine zv_iload_n (pc := 64) g dX5_read_64 3 rfl rfl ?_
      refine zv_iconst (pc := 65) g dX5_read_65 (v := 0) (by decide) ?_
      refine zv_iload (pc := 66) g dX5_read_66 5 rfl ?_
      refine zv_bipush (pc := 68) g dX5_read_68 (v := 8) (by decide) ?_
      refine zv_idiv (pc := 70) g dX5_read_70 (by decide) ?_
      refine zv_cVv (pc := 71) g cw_X5_93 (ctX5_puts h) (by decide) (by decide) zz_p0 (mW β a) (fun T => zz_p1 T) (q := 0) rfl rfl rfl rfl rfl (Nat.le_of_ble_eq_true rfl) dX5_read_71 (fun S11 h => ?_)
      refine zv_aload_n (pc := 74) g dX5_read_74 0 rfl rfl ?_
      refine zv_iload_n (pc := 75) g dX5_read_75 3 rfl rfl ?_
      refine zv_iconst (pc := 76) g dX5_read_76 (v := 3) (by decide) ?_
      refine zv_iload (pc := 77) g dX5_read_77 5 rfl ?_
      refine zv_bipush (pc := 79) g dX5_read_79 (v := 8) (by decide) ?_
      refine zv_irem (pc := 81) g dX5_read_81 (by decide) ?_
      refine zv_cVv (pc := 82) g cw_X5_93 (ctX5_puts h) (by decide) (by decide) zz_p0 (mW β a) (fun T => zz_p1 T) (q := 0) rfl rfl rfl rfl rfl (Nat.le_of_ble_eq_true rfl) dX5_read_82 (fun S12 h => ?_)
      refine zv_iload (pc := 85) g dX5_read_85 4 rfl ?_
      refine zv_aload_n (pc := 87) g dX5_read_87 0 rfl rfl ?_
      refine zv_iload_n (pc := 88) g dX5_read_88 1 rfl rfl ?_
      refine zv_iload_n (pc := 89) g dX5_read_89 2 rfl rfl ?_
      refine zv_cVi (pc := 90) g cw_X5_285 (ctX5_isSo h) (by decide) (by decide) zz_p0 (mW β a) (fun T => zz_p1 T) (q := 0) rfl rfl rfl rfl rfl (Nat.le_of_ble_eq_true rfl) dX5_read_90 (fun v13 S14 h => ?_)
      refine zv_if_eq (pc := 93) 100 g dX5_read_93 rfl (fun c15 => ?_) (fun c15 => ?_)
      · replace h := h.1 c15
        refine zv_iconst (pc := 100) g dX5_read_100 (v := 0) (by decide) ?_
        refine zv_iadd (pc := 101) g dX5_read_101 ?_
        refine zv_topi (fun y16 ey16 => ?_)
        replace h := h y16 ey16
        refine zv_istore (pc := 102) [(5, .int y16), (0, .ref (a 0)), (1, .int x1), (2, .int x2), (3, .int x3), (6, .int x6)] g dX5_read_102 (by decide) rfl ?_
        refine zv_aload_n (pc := 104) g dX5_read_104 1 rfl rfl ?_
        refine zv_iconst (pc := 105) g dX5_read_105 (v := 0) (by decide) ?_
        refine zv_aload_n (pc := 106) g dX5_read_106 1 rfl rfl ?_
        refine zv_get (pc := 107) g fl_X5_19 0 rfl rfl dX5_read_107 ?_
        refine zv_cVv (pc := 110) g cw_X5_147 (ctX5_moveAll_before1 h) (by decide) (by decide) zz_p0 (mW β a) (fun T => zz_p1 T) (q := 0) rfl rfl rfl rfl rfl (Nat.le_of_ble_eq_true rfl) dX5_read_110 (fun S17 h => ?_)
        refine zv_iinc (pc := 113) 1 [(6, .int (x6 + 1)), (5, .int y16), (0, .ref (a 0)), (1, .int x1), (2, .int x2), (3, .int x3)] g dX5_read_113 5 rfl (by decide) (by decide) rfl ?_
        refine zv_goto (pc := 116) 56 g dX5_read_116 rfl ?_
        refine zv_sub [2, 3, 4, 5, 1, 0] rfl ?_
        exact ih0 _ _ _ _ _ _ h
      · replace h := h.2 c15
        refine zv_iconst (pc := 96) g dX5_read_96 (v := 1) (by decide) ?_
        refine zv_goto (pc := 97) 101 g dX5_read_97 rfl ?_
        refine zv_iadd (pc := 101) g dX5_read_101 ?_
        refine zv_topi (fun y18 ey18 => ?_)
        replace h := h y18 ey18
        refine zv_istore (pc := 102) [(5, .int y18), (0, .ref (a 0)), (1, .int x1), (2, .int x2), (3, .int x3), (6, .int x6)] g dX5_read_102 (by decide) rfl ?_
        refine zv_aload_n (pc := 104) g dX5_read_104 1 rfl rfl ?_
        refine zv_iconst (pc := 105) g dX5_read_105 (v := 0) (by decide) ?_
        refine zv_aload_n (pc := 106) g dX5_read_106 1 rfl rfl ?_
        refine zv_get (pc := 107) g fl_X5_19 0 rfl rfl dX5_read_107 ?_
        refine zv_cVv (pc := 110) g cw_X5_147 (ctX5_moveAll_before1 h) (by decide) (by decide) zz_p0 (mW β a) (fun T => zz_p1 T) (q := 0) rfl rfl rfl rfl rfl (Nat.le_of_ble_eq_true rfl) dX5_read_110 (fun S19 h => ?_)
        refine zv_iinc (pc := 113) 1 [(6, .int (x6 + 1)), (5, .int y18), (0, .ref (a 0)), (1, .int x1), (2, .int x2), (3, .int x3)] g dX5_read_113 5 rfl (by decide) (by decide) rfl ?_
        refine zv_goto (pc := 116) 56 g dX5_read_116 rfl ?_
        refine zv_sub [2, 3, 4, 5, 1, 0] rfl ?_
        exact ih0 _ _ _ _ _ _ h
def wX5_read (post : Int32 → (MSt) → Prop) (S : MSt) (x1 : Int32) (x2 : Int32) (x3 : Int32) : Prop := wX5_badSheet (fun v1 => (v1 = 0 → wX5_isRoom (fun v3 => (v3 = 0 → wX5_finds (fun v5 S6 => post v5 S6) S (-1000000001)) ∧ (¬ v3 = 0 → wX5_isOne (fun v7 => (¬ v7 = 0 → wX5_moveAll_before1 (fun S9 => ∃ f20 : Nat, wX5_read_56 post f20 S9 x1 x2 x3 0 0) S 1) ∧ (v7 = 0 → wX5_finds (fun v21 S22 => post v21 S22) S (-1000000001))) S x3)) x2) ∧ (¬ v1 = 0 → wX5_finds (fun v23 S24 => post v23 S24) S v1)) S x1
set_option maxRecDepth 100000 in
set_option maxHeartbeats 4000000 in
theorem ctX5_read {β : zz_B} {a : Nat → Nat} {post : Int32 → (MSt) → Prop} {S : MSt} {x1 : Int32} {x2 : Int32} {x3 : Int32} (h : wX5_read post S x1 x2 x3) : zCi β yX5_read cX5_read 7 (some .int) 5 119 [.ref (a 0), .int x1, .int x2, .int x3] (mW β a) S post := by
  unfold wX5_read at h
  unfold zCi
  refine zC.of (by decide) (Nat.le_of_ble_eq_true rfl) ?_
  intro Γ g hR
  show zV β 7 Γ ((mW β a) S) 0 [(0, .ref (a 0)), (1, .int x1), (2, .int x2), (3, .int x3)] []
  refine zv_aload_n (pc := 0) g dX5_read_0 0 rfl rfl ?_
  refine zv_iload_n (pc := 1) g dX5_read_1 1 rfl rfl ?_
  refine zv_cVp (pc := 2) g cw_X5_280 (ctX5_badSheet h) (by decide) (by decide) zz_p0 (q := 0) rfl rfl rfl rfl rfl (Nat.le_of_ble_eq_true rfl) dX5_read_2 (fun v1 h => ?_)
  refine zv_istore (pc := 5) [(4, .int v1), (0, .ref (a 0)), (1, .int x1), (2, .int x2), (3, .int x3)] g dX5_read_5 (by decide) rfl ?_
  refine zv_iload (pc := 7) g dX5_read_7 0 rfl ?_
  refine zv_if_eq (pc := 9) 19 g dX5_read_9 rfl (fun c2 => ?_) (fun c2 => ?_)
  · replace h := h.1 c2
    refine zv_iload_n (pc := 19) g dX5_read_19 3 rfl rfl ?_
    refine zv_cSp (pc := 20) g cw_X5_61 (ctX5_isRoom h) (by decide) (by decide) zz_pN rfl rfl (Nat.le_of_ble_eq_true rfl) dX5_read_20 (fun v3 h => ?_)
    refine zv_if_eq (pc := 23) 34 g dX5_read_23 rfl (fun c4 => ?_) (fun c4 => ?_)
    · replace h := h.1 c4
      refine zv_aload_n (pc := 34) g dX5_read_34 1 rfl rfl ?_
      refine zv_ldc (pc := 35) g wd_744 dX5_read_35 ?_
      refine zv_cVi (pc := 37) g cw_X5_57 (ctX5_finds h) (by decide) (by decide) zz_p0 (mW β a) (fun T => zz_p1 T) (q := 0) rfl rfl rfl rfl rfl (Nat.le_of_ble_eq_true rfl) dX5_read_37 (fun v5 S6 h => ?_)
      exact zv_iret (pc := 40) g hR dX5_read_40 ⟨_, _, rfl, rfl, h⟩
    · replace h := h.2 c4
      refine zv_aload_n (pc := 26) g dX5_read_26 1 rfl rfl ?_
      refine zv_iload_n (pc := 27) g dX5_read_27 4 rfl rfl ?_
      refine zv_cVp (pc := 28) g cw_X5_103 (ctX5_isOne h) (by decide) (by decide) zz_p0 (q := 0) rfl rfl rfl rfl rfl (Nat.le_of_ble_eq_true rfl) dX5_read_28 (fun v7 h => ?_)
      refine zv_if_ne (pc := 31) 41 g dX5_read_31 rfl (fun c8 => ?_) (fun c8 => ?_)
      · replace h := h.1 c8
        refine zv_iconst (pc := 41) g dX5_read_41 (v := 0) (by decide) ?_
        refine zv_istore (pc := 42) [(5, .int 0), (4, .int v1), (0, .ref (a 0)), (1, .int x1), (2, .int x2), (3, .int x3)] g dX5_read_42 (by decide) rfl ?_
        refine zv_aload_n (pc := 44) g dX5_read_44 2 rfl rfl ?_
        refine zv_iconst (pc := 45) g dX5_read_45 (v := 1) (by decide) ?_
        refine zv_aload_n (pc := 46) g dX5_read_46 2 rfl rfl ?_
        refine zv_get (pc := 47) g fl_X5_19 0 rfl rfl dX5_read_47 ?_
        refine zv_cVv (pc := 50) g cw_X5_147 (ctX5_moveAll_before1 h) (by decide) (by decide) zz_p0 (mW β a) (fun T => zz_p1 T) (q := 0) rfl rfl rfl rfl rfl (Nat.le_of_ble_eq_true rfl) dX5_read_50 (fun S9 h => ?_)
        refine zv_iconst (pc := 53) g dX5_read_53 (v := 0) (by decide) ?_
        refine zv_istore (pc := 54) [(6, .int 0), (5, .int 0), (4, .int v1), (0, .ref (a 0)), (1, .int x1), (2, .int x2), (3, .int x3)] g dX5_read_54 (by decide) rfl ?_
        obtain ⟨f20, h⟩ := h
        refine zv_sub [3, 4, 5, 6, 1, 0] rfl ?_
        exact lX5_read_56 g hR f20 _ _ _ _ _ _ h
      · replace h := h.2 c8
        refine zv_aload_n (pc := 34) g dX5_read_34 1 rfl rfl ?_
        refine zv_ldc (pc := 35) g wd_744 dX5_read_35 ?_
        refine zv_cVi (pc := 37) g cw_X5_57 (ctX5_finds h) (by decide) (by decide) zz_p0 (mW β a) (fun T => zz_p1 T) (q := 0) rfl rfl rfl rfl rfl (Nat.le_of_ble_eq_true rfl) dX5_read_37 (fun v21 S22 h => ?_)
        exact zv_iret (pc := 40) g hR dX5_read_40 ⟨_, _, rfl, rfl, h⟩
  · replace h := h.2 c2
    refine zv_aload_n (pc := 12) g dX5_read_12 1 rfl rfl ?_
    refine zv_iload (pc := 13) g dX5_read_13 0 rfl ?_
    refine zv_cVi (pc := 15) g cw_X5_57 (ctX5_finds h) (by decide) (by decide) zz_p0 (mW β a) (fun T => zz_p1 T) (q := 0) rfl rfl rfl rfl rfl (Nat.le_of_ble_eq_true rfl) dX5_read_15 (fun v23 S24 h => ?_)
    exact zv_iret (pc := 18) g hR dX5_read_18 ⟨_, _, rfl, rfl, h⟩
def wX5_image (post : Int32 → (MSt) → Prop) (S : MSt) : Prop := wX5_moveAll_image (fun S1 => ∀ S2 : MSt, S2 = (m_isKept_s S1 1) → (post 1 S2)) S 1
set_option maxRecDepth 100000 in
set_option maxHeartbeats 4000000 in
theorem ctX5_image {β : zz_B} {a : Nat → Nat} {post : Int32 → (MSt) → Prop} {S : MSt} (h : wX5_image post S) : zCi β yX5_image cX5_image 1 (some .int) 1 23 [.ref (a 0)] (mW β a) S post := by
  unfold wX5_image at h
  unfold zCi
  refine zC.of (by decide) (Nat.le_of_ble_eq_true rfl) ?_
  intro Γ g hR
  show zV β 1 Γ ((mW β a) S) 0 [(0, .ref (a 0))] []
  refine zv_aload_n (pc := 0) g dX5_image_0 0 rfl rfl ?_
  refine zv_iconst (pc := 1) g dX5_image_1 (v := 1) (by decide) ?_
  refine zv_aload_n (pc := 2) g dX5_image_2 0 rfl rfl ?_
  refine zv_get (pc := 3) g fl_X5_38 0 rfl rfl dX5_image_3 ?_
  refine zv_cVv (pc := 6) g cw_X5_147 (ctX5_moveAll_image h) (by decide) (by decide) zz_p0 (mW β a) (fun T => zz_p1 T) (q := 0) rfl rfl rfl rfl rfl (Nat.le_of_ble_eq_true rfl) dX5_image_6 (fun S1 h => ?_)
  refine zv_aload_n (pc := 9) g dX5_image_9 0 rfl rfl ?_
  refine zv_iconst (pc := 10) g dX5_image_10 (v := 1) (by decide) ?_
  refine zv_put (pc := 11) ((mW β a) (m_isKept_s S1 1)) g fp_X5_288 0 rfl (by decide) (by decide) (Nat.le_of_ble_eq_true rfl) rfl dX5_image_11 ?_
  refine zv_nmS (wf := (mW β a)) (fun S2 eS2 => ?_)
  replace h := h S2 eS2
  refine zv_iconst (pc := 14) g dX5_image_14 (v := 1) (by decide) ?_
  exact zv_iret (pc := 15) g hR dX5_image_15 ⟨_, _, rfl, rfl, h⟩
def wX5_undo (post : Int32 → (MSt) → Prop) (S : MSt) : Prop := (¬ (m_isKept S) = 0 → wX5_moveAll_image (fun S2 => vp_in 2 51 ∧ (post (m_row S2 (Int32.toNatClampNeg 2)) S2)) S 0) ∧ ((m_isKept S) = 0 → wX5_finds (fun v3 S4 => post v3 S4) S (-1000000004))
set_option maxRecDepth 100000 in
set_option maxHeartbeats 4000000 in
theorem ctX5_undo {β : zz_B} {a : Nat → Nat} {post : Int32 → (MSt) → Prop} {S : MSt} (h : wX5_undo post S) : zCi β yX5_undo cX5_undo 1 (some .int) 1 23 [.ref (a 0)] (mW β a) S post := by
  unfold wX5_undo at h
  unfold zCi
  refine zC.of (by decide) (Nat.le_of_ble_eq_true rfl) ?_
  intro Γ g hR
  show zV β 1 Γ ((mW β a) S) 0 [(0, .ref (a 0))] []
  refine zv_aload_n (pc := 0) g dX5_undo_0 0 rfl rfl ?_
  refine zv_get (pc := 1) g fl_X5_288 0 rfl rfl dX5_undo_1 ?_
  refine zv_if_ne (pc := 4) 14 g dX5_undo_4 rfl (fun c1 => ?_) (fun c1 => ?_)
  · replace h := h.1 c1
    refine zv_aload_n (pc := 14) g dX5_undo_14 0 rfl rfl ?_
    refine zv_iconst (pc := 15) g dX5_undo_15 (v := 0) (by decide) ?_
    refine zv_aload_n (pc := 16) g dX5_undo_16 0 rfl rfl ?_
    refine zv_get (pc := 17) g fl_X5_38 0 rfl rfl dX5_undo_17 ?_
    refine zv_cVv (pc := 20) g cw_X5_147 (ctX5_moveAll_image h) (by decide) (by decide) zz_p0 (mW β a) (fun T => zz_p1 T) (q := 0) rfl rfl rfl rfl rfl (Nat.le_of_ble_eq_true rfl) dX5_undo_20 (fun S2 h => ?_)
    refine zv_aload_n (pc := 23) g dX5_undo_23 0 rfl rfl ?_
    refine zv_get (pc := 24) g fl_X5_7 0 rfl rfl dX5_undo_24 ?_
    refine zv_iconst (pc := 27) g dX5_undo_27 (v := 2) (by decide) ?_
    obtain ⟨hi, h⟩ := h
    refine zv_iald (pc := 28) g 1 rfl hi dX5_undo_28 ?_
    exact zv_iret (pc := 29) g hR dX5_undo_29 ⟨_, _, rfl, rfl, h⟩
  · replace h := h.2 c1
    refine zv_aload_n (pc := 7) g dX5_undo_7 0 rfl rfl ?_
    refine zv_ldc (pc := 8) g wd_918 dX5_undo_8 ?_
    refine zv_cVi (pc := 10) g cw_X5_57 (ctX5_finds h) (by decide) (by decide) zz_p0 (mW β a) (fun T => zz_p1 T) (q := 0) rfl rfl rfl rfl rfl (Nat.le_of_ble_eq_true rfl) dX5_undo_10 (fun v3 S4 h => ?_)
    exact zv_iret (pc := 13) g hR dX5_undo_13 ⟨_, _, rfl, rfl, h⟩
def wX5_tear (post : Int32 → (MSt) → Prop) (S : MSt) : Prop := ((m_isKept S) = 0 → ∀ S2 : MSt, S2 = (m_isKept_s S 0) → (post 0 S2)) ∧ (¬ (m_isKept S) = 0 → ∀ S3 : MSt, S3 = (m_isKept_s S 0) → (post 1 S3))
set_option maxRecDepth 100000 in
set_option maxHeartbeats 4000000 in
theorem ctX5_tear {β : zz_B} {a : Nat → Nat} {post : Int32 → (MSt) → Prop} {S : MSt} (h : wX5_tear post S) : zCi β yX5_tear cX5_tear 2 (some .int) 0 0 [.ref (a 0)] (mW β a) S post := by
  unfold wX5_tear at h
  unfold zCi
  refine zC.of (by decide) (Nat.le_of_ble_eq_true rfl) ?_
  intro Γ g hR
  show zV β 2 Γ ((mW β a) S) 0 [(0, .ref (a 0))] []
  refine zv_aload_n (pc := 0) g dX5_tear_0 0 rfl rfl ?_
  refine zv_get (pc := 1) g fl_X5_288 0 rfl rfl dX5_tear_1 ?_
  refine zv_if_eq (pc := 4) 11 g dX5_tear_4 rfl (fun c1 => ?_) (fun c1 => ?_)
  · replace h := h.1 c1
    refine zv_iconst (pc := 11) g dX5_tear_11 (v := 0) (by decide) ?_
    refine zv_istore_n (pc := 12) 1 [(1, .int 0), (0, .ref (a 0))] g dX5_tear_12 rfl (by decide) rfl ?_
    refine zv_aload_n (pc := 13) g dX5_tear_13 1 rfl rfl ?_
    refine zv_iconst (pc := 14) g dX5_tear_14 (v := 0) (by decide) ?_
    refine zv_put (pc := 15) ((mW β a) (m_isKept_s S 0)) g fp_X5_288 0 rfl (by decide) (by decide) (Nat.le_of_ble_eq_true rfl) rfl dX5_tear_15 ?_
    refine zv_nmS (wf := (mW β a)) (fun S2 eS2 => ?_)
    replace h := h S2 eS2
    refine zv_iload_n (pc := 18) g dX5_tear_18 0 rfl rfl ?_
    exact zv_iret (pc := 19) g hR dX5_tear_19 ⟨_, _, rfl, rfl, h⟩
  · replace h := h.2 c1
    refine zv_iconst (pc := 7) g dX5_tear_7 (v := 1) (by decide) ?_
    refine zv_goto (pc := 8) 12 g dX5_tear_8 rfl ?_
    refine zv_istore_n (pc := 12) 1 [(1, .int 1), (0, .ref (a 0))] g dX5_tear_12 rfl (by decide) rfl ?_
    refine zv_aload_n (pc := 13) g dX5_tear_13 1 rfl rfl ?_
    refine zv_iconst (pc := 14) g dX5_tear_14 (v := 0) (by decide) ?_
    refine zv_put (pc := 15) ((mW β a) (m_isKept_s S 0)) g fp_X5_288 0 rfl (by decide) (by decide) (Nat.le_of_ble_eq_true rfl) rfl dX5_tear_15 ?_
    refine zv_nmS (wf := (mW β a)) (fun S3 eS3 => ?_)
    replace h := h S3 eS3
    refine zv_iload_n (pc := 18) g dX5_tear_18 0 rfl rfl ?_
    exact zv_iret (pc := 19) g hR dX5_tear_19 ⟨_, _, rfl, rfl, h⟩
def wX5_grimeOfAll_4 (post : Int32 → Prop) (S : MSt) : Nat → (Int32) → (Int32) → Prop
  | 0, _, _ => False
  | f0 + 1, x1, x2 => vp_in 2 51 ∧ (((m_row S (Int32.toNatClampNeg 2)) ≤ x2 → post x1) ∧ (¬ (m_row S (Int32.toNatClampNeg 2)) ≤ x2 → wX5_its (fun v2 => ∀ y3 : Int32, y3 = (x1 + v2) → (wX5_grimeOfAll_4 post S f0 y3 (x2 + 1))) S x2 2))
set_option maxRecDepth 100000 in
set_option maxHeartbeats 4000000 in
theorem lX5_grimeOfAll_4 {β : zz_B} {Γ : zz_X} {a : Nat → Nat} {post : Int32 → Prop} {S : MSt} (g : zG β 3 Γ cX5_grimeOfAll RX5 1 22) (hR : zR β Γ (some .int) (fun r w => ∃ v : Int32, r = some (.int v) ∧ w = ((mW β a) S) ∧ post v)) : ∀ (f0 : Nat) (x1 : Int32) (x2 : Int32) , wX5_grimeOfAll_4 post S f0 x1 x2 → zV β 3 Γ ((mW β a) S) 4 [(0, .ref (a 0)), (1, .int x1), (2, .int x2)] [] := by
  intro f0
  induction f0 with
  | zero => intro x1 x2 h; exact h.elim
  | succ f0 ih0 =>
    intro x1 x2 h
    rw [wX5_grimeOfAll_4] at h
    refine zv_iload_n (pc := 4) g dX5_grimeOfAll_4 2 rfl rfl ?_
    refine zv_aload_n (pc := 5) g dX5_grimeOfAll_5 0 rfl rfl ?_
    refine zv_get (pc := 6) g fl_X5_7 0 rfl rfl dX5_grimeOfAll_6 ?_
    refine zv_iconst (pc := 9) g dX5_grimeOfAll_9 (v := 2) (by decide) ?_
    obtain ⟨hi, h⟩ := h
    refine zv_iald (pc := 10) g 1 rfl hi dX5_grimeOfAll_10 ?_
    refine zv_icmp_ge (pc := 11) 29 g dX5_grimeOfAll_11 rfl (fun c1 => ?_) (fun c1 => ?_)
    · replace h := h.1 c1
      refine zv_iload_n (pc := 29) g dX5_grimeOfAll_29 1 rfl rfl ?_
      exact zv_iret (pc := 30) g hR dX5_grimeOfAll_30 ⟨_, rfl, rfl, h⟩
    · replace h := h.2 c1
      refine zv_iload_n (pc := 14) g dX5_grimeOfAll_14 1 rfl rfl ?_
      refine zv_aload_n (pc := 15) g dX5_grimeOfAll_15 0 rfl rfl ?_
      refine zv_iload_n (pc := 16) g dX5_grimeOfAll_16 2 rfl rfl ?_
      refine zv_iconst (pc := 17) g dX5_grimeOfAll_17 (v := 2) (by decide) ?_
      refine zv_cVp (pc := 18) g cw_X5_65 (ctX5_its h) (by decide) (by decide) zz_p0 (q := 0) rfl rfl rfl rfl rfl (Nat.le_of_ble_eq_true rfl) dX5_grimeOfAll_18 (fun v2 h => ?_)
      refine zv_iadd (pc := 21) g dX5_grimeOfAll_21 ?_
      refine zv_topi (fun y3 ey3 => ?_)
      replace h := h y3 ey3
      refine zv_istore_n (pc := 22) 1 [(1, .int y3), (0, .ref (a 0)), (2, .int x2)] g dX5_grimeOfAll_22 rfl (by decide) rfl ?_
      refine zv_iinc (pc := 23) 1 [(2, .int (x2 + 1)), (1, .int y3), (0, .ref (a 0))] g dX5_grimeOfAll_23 2 rfl (by decide) (by decide) rfl ?_
      refine zv_goto (pc := 26) 4 g dX5_grimeOfAll_26 rfl ?_
      refine zv_sub [2, 1, 0] rfl ?_
      exact ih0 _ _ h
def wX5_grimeOfAll (post : Int32 → Prop) (S : MSt) : Prop := ∃ f4 : Nat, wX5_grimeOfAll_4 post S f4 0 0
set_option maxRecDepth 100000 in
set_option maxHeartbeats 4000000 in
theorem ctX5_grimeOfAll {β : zz_B} {a : Nat → Nat} {post : Int32 → Prop} {S : MSt} (h : wX5_grimeOfAll post S) : zCp β yX5_grimeOfAll cX5_grimeOfAll 3 (some .int) 1 22 [.ref (a 0)] ((mW β a) S) post := by
  unfold wX5_grimeOfAll at h
  unfold zCp
  refine zC.of (by decide) (Nat.le_of_ble_eq_true rfl) ?_
  intro Γ g hR
  show zV β 3 Γ ((mW β a) S) 0 [(0, .ref (a 0))] []
  refine zv_iconst (pc := 0) g dX5_grimeOfAll_0 (v := 0) (by decide) ?_
  refine zv_istore_n (pc := 1) 1 [(1, .int 0), (0, .ref (a 0))] g dX5_grimeOfAll_1 rfl (by decide) rfl ?_
  refine zv_iconst (pc := 2) g dX5_grimeOfAll_2 (v := 0) (by decide) ?_
  refine zv_istore_n (pc := 3) 2 [(2, .int 0), (1, .int 0), (0, .ref (a 0))] g dX5_grimeOfAll_3 rfl (by decide) rfl ?_
  obtain ⟨f4, h⟩ := h
  refine zv_sub [2, 1, 0] rfl ?_
  exact lX5_grimeOfAll_4 g hR f4 _ _ h
def wX5_count (post : Int32 → (MSt) → Prop) (S : MSt) (x1 : Int32) : Prop := (x1 = 0 → vp_in 2 51 ∧ (post (m_row S (Int32.toNatClampNeg 2)) S)) ∧ (x1 = 1 → post (m_tapeMany S) S) ∧ (x1 = 2 → wX5_memoriesOfAll (fun v2 => post v2 S) S) ∧ (x1 = 3 → wX5_grimeOfAll (fun v3 => post v3 S) S) ∧ (((x1).toInt < 0 ∨ 3 < (x1).toInt) → wX5_finds (fun v4 S5 => post v4 S5) S (-1000000001))
set_option maxRecDepth 100000 in
set_option maxHeartbeats 4000000 in
theorem ctX5_count {β : zz_B} {a : Nat → Nat} {post : Int32 → (MSt) → Prop} {S : MSt} {x1 : Int32} (h : wX5_count post S x1) : zCi β yX5_count cX5_count 2 (some .int) 2 44 [.ref (a 0), .int x1] (mW β a) S post := by
  unfold wX5_count at h
  unfold zCi
  refine zC.of (by decide) (Nat.le_of_ble_eq_true rfl) ?_
  intro Γ g hR
  show zV β 2 Γ ((mW β a) S) 0 [(0, .ref (a 0)), (1, .int x1)] []
  refine zv_iload_n (pc := 0) g dX5_count_0 1 rfl rfl ?_
  rcases zz_ts_0_3 x1 with c1 | c1 | c1 | c1 | c1
  · refine zv_tblIn (pc := 1) 0 32 g dX5_count_1 c1 (by decide) (by decide) rfl rfl ?_
    replace h := h.1 c1
    refine zv_aload_n (pc := 32) g dX5_count_32 0 rfl rfl ?_
    refine zv_get (pc := 33) g fl_X5_7 0 rfl rfl dX5_count_33 ?_
    refine zv_iconst (pc := 36) g dX5_count_36 (v := 2) (by decide) ?_
    obtain ⟨hi, h⟩ := h
    refine zv_iald (pc := 37) g 1 rfl hi dX5_count_37 ?_
    exact zv_iret (pc := 38) g hR dX5_count_38 ⟨_, _, rfl, rfl, h⟩
  · refine zv_tblIn (pc := 1) 1 39 g dX5_count_1 c1 (by decide) (by decide) rfl rfl ?_
    replace h := h.2.1 c1
    refine zv_aload_n (pc := 39) g dX5_count_39 0 rfl rfl ?_
    refine zv_get (pc := 40) g fl_X5_174 0 rfl rfl dX5_count_40 ?_
    exact zv_iret (pc := 43) g hR dX5_count_43 ⟨_, _, rfl, rfl, h⟩
  · refine zv_tblIn (pc := 1) 2 44 g dX5_count_1 c1 (by decide) (by decide) rfl rfl ?_
    replace h := h.2.2.1 c1
    refine zv_aload_n (pc := 44) g dX5_count_44 0 rfl rfl ?_
    refine zv_cVp (pc := 45) g cw_X5_161 (ctX5_memoriesOfAll h) (by decide) (by decide) zz_p0 (q := 0) rfl rfl rfl rfl rfl (Nat.le_of_ble_eq_true rfl) dX5_count_45 (fun v2 h => ?_)
    exact zv_iret (pc := 48) g hR dX5_count_48 ⟨_, _, rfl, rfl, h⟩
  · refine zv_tblIn (pc := 1) 3 49 g dX5_count_1 c1 (by decide) (by decide) rfl rfl ?_
    replace h := h.2.2.2.1 c1
    refine zv_aload_n (pc := 49) g dX5_count_49 0 rfl rfl ?_
    refine zv_cVp (pc := 50) g cw_X5_291 (ctX5_grimeOfAll h) (by decide) (by decide) zz_p0 (q := 0) rfl rfl rfl rfl rfl (Nat.le_of_ble_eq_true rfl) dX5_count_50 (fun v3 h => ?_)
    exact zv_iret (pc := 53) g hR dX5_count_53 ⟨_, _, rfl, rfl, h⟩
  · refine zv_tblOut (pc := 1) 54 g dX5_count_1 c1 rfl ?_
    replace h := h.2.2.2.2 c1
    refine zv_aload_n (pc := 54) g dX5_count_54 0 rfl rfl ?_
    refine zv_ldc (pc := 55) g wd_744 dX5_count_55 ?_
    refine zv_cVi (pc := 57) g cw_X5_57 (ctX5_finds h) (by decide) (by decide) zz_p0 (mW β a) (fun T => zz_p1 T) (q := 0) rfl rfl rfl rfl rfl (Nat.le_of_ble_eq_true rfl) dX5_count_57 (fun v4 S5 h => ?_)
    exact zv_iret (pc := 60) g hR dX5_count_60 ⟨_, _, rfl, rfl, h⟩
def wX5_status_21 (post : Int32 → (MSt) → Prop) : Nat → (MSt) → (Int32) → (Int32) → (Int32) → Prop
  | 0, _, _, _, _ => False
  | f0 + 1, S, x1, x2, x3 => ((7 : Int32) ≤ x3 → (0 ≤ x1 → (0 ≤ x1 → vp_in x1 7 ∧ (post (m_found S (Int32.toNatClampNeg x1)) S)) ∧ (¬ 0 ≤ x1 → vp_in 0 7 ∧ (post (m_found S (Int32.toNatClampNeg 0)) S))) ∧ (¬ 0 ≤ x1 → post x2 S)) ∧ (¬ (7 : Int32) ≤ x3 → vp_in x3 7 ∧ (∀ y6 : Int32, y6 = (x2 + (m_found S (Int32.toNatClampNeg x3))) → (wX5_status_21 post f0 S x1 y6 (x3 + 1))))
set_option maxRecDepth 100000 in
set_option maxHeartbeats 4000000 in
theorem lX5_status_21 {β : zz_B} {Γ : zz_X} {a : Nat → Nat} {post : Int32 → (MSt) → Prop} (g : zG β 4 Γ cX5_status RX5 1 22) (hR : zR β Γ (some .int) (fun r w => ∃ (v : Int32) (T : MSt), r = some (.int v) ∧ w = (mW β a) T ∧ post v T)) : ∀ (f0 : Nat) (S : MSt) (x1 : Int32) (x2 : Int32) (x3 : Int32) , wX5_status_21 post f0 S x1 x2 x3 → zV β 4 Γ ((mW β a) S) 21 [(0, .ref (a 0)), (1, .int x1), (2, .int x2), (3, .int x3)] [] := by
  intro f0
  induction f0 with
  | zero => intro S x1 x2 x3 h; exact h.elim
  | succ f0 ih0 =>
    intro S x1 x2 x3 h
    rw [wX5_status_21] at h
    refine zv_iload_n (pc := 21) g dX5_status_21 3 rfl rfl ?_
    refine zv_bipush (pc := 22) g dX5_status_22 (v := 7) (by decide) ?_
    refine zv_icmp_ge (pc := 24) 42 g dX5_status_24 rfl (fun c3 => ?_) (fun c3 => ?_)
    · replace h := h.1 c3
      refine zv_iload_n (pc := 42) g dX5_status_42 1 rfl rfl ?_
      refine zv_if_ge (pc := 43) 50 g dX5_status_43 rfl (fun c4 => ?_) (fun c4 => ?_)
      · replace h := h.1 c4
        refine zv_aload_n (pc := 50) g dX5_status_50 0 rfl rfl ?_
        refine zv_get (pc := 51) g fl_X5_13 0 rfl rfl dX5_status_51 ?_
        refine zv_iload_n (pc := 54) g dX5_status_54 1 rfl rfl ?_
        refine zv_if_ge (pc := 55) 62 g dX5_status_55 rfl (fun c5 => ?_) (fun c5 => ?_)
        · replace h := h.1 c5
          refine zv_iload_n (pc := 62) g dX5_status_62 1 rfl rfl ?_
          obtain ⟨hi, h⟩ := h
          refine zv_iald (pc := 63) g 2 rfl hi dX5_status_63 ?_
          exact zv_iret (pc := 64) g hR dX5_status_64 ⟨_, _, rfl, rfl, h⟩
        · replace h := h.2 c5
          refine zv_iconst (pc := 58) g dX5_status_58 (v := 0) (by decide) ?_
          refine zv_goto (pc := 59) 63 g dX5_status_59 rfl ?_
          obtain ⟨hi, h⟩ := h
          refine zv_iald (pc := 63) g 2 rfl hi dX5_status_63 ?_
          exact zv_iret (pc := 64) g hR dX5_status_64 ⟨_, _, rfl, rfl, h⟩
      · replace h := h.2 c4
        refine zv_iload_n (pc := 46) g dX5_status_46 2 rfl rfl ?_
        refine zv_goto (pc := 47) 64 g dX5_status_47 rfl ?_
        exact zv_iret (pc := 64) g hR dX5_status_64 ⟨_, _, rfl, rfl, h⟩
    · replace h := h.2 c3
      refine zv_iload_n (pc := 27) g dX5_status_27 2 rfl rfl ?_
      refine zv_aload_n (pc := 28) g dX5_status_28 0 rfl rfl ?_
      refine zv_get (pc := 29) g fl_X5_13 0 rfl rfl dX5_status_29 ?_
      refine zv_iload_n (pc := 32) g dX5_status_32 3 rfl rfl ?_
      obtain ⟨hi, h⟩ := h
      refine zv_iald (pc := 33) g 2 rfl hi dX5_status_33 ?_
      refine zv_iadd (pc := 34) g dX5_status_34 ?_
      refine zv_topi (fun y6 ey6 => ?_)
      replace h := h y6 ey6
      refine zv_istore_n (pc := 35) 2 [(2, .int y6), (0, .ref (a 0)), (1, .int x1), (3, .int x3)] g dX5_status_35 rfl (by decide) rfl ?_
      refine zv_iinc (pc := 36) 1 [(3, .int (x3 + 1)), (2, .int y6), (0, .ref (a 0)), (1, .int x1)] g dX5_status_36 3 rfl (by decide) (by decide) rfl ?_
      refine zv_goto (pc := 39) 21 g dX5_status_39 rfl ?_
      refine zv_sub [2, 3, 1, 0] rfl ?_
      exact ih0 _ _ _ _ h
def wX5_status (post : Int32 → (MSt) → Prop) (S : MSt) (x1 : Int32) : Prop := wX5_in (fun v1 => (¬ v1 = 0 → ∃ f7 : Nat, wX5_status_21 post f7 S x1 0 0) ∧ (v1 = 0 → wX5_finds (fun v8 S9 => post v8 S9) S (-1000000001))) x1 (-1) 6
set_option maxRecDepth 100000 in
set_option maxHeartbeats 4000000 in
theorem ctX5_status {β : zz_B} {a : Nat → Nat} {post : Int32 → (MSt) → Prop} {S : MSt} {x1 : Int32} (h : wX5_status post S x1) : zCi β yX5_status cX5_status 4 (some .int) 1 22 [.ref (a 0), .int x1] (mW β a) S post := by
  unfold wX5_status at h
  unfold zCi
  refine zC.of (by decide) (Nat.le_of_ble_eq_true rfl) ?_
  intro Γ g hR
  show zV β 4 Γ ((mW β a) S) 0 [(0, .ref (a 0)), (1, .int x1)] []
  refine zv_iload_n (pc := 0) g dX5_status_0 1 rfl rfl ?_
  refine zv_iconst (pc := 1) g dX5_status_1 (v := (-1)) (by decide) ?_
  refine zv_bipush (pc := 2) g dX5_status_2 (v := 6) (by decide) ?_
  refine zv_cSp (pc := 4) g cw_X5_49 (ctX5_in h) (by decide) (by decide) zz_pN rfl rfl (Nat.le_of_ble_eq_true rfl) dX5_status_4 (fun v1 h => ?_)
  refine zv_if_ne (pc := 7) 17 g dX5_status_7 rfl (fun c2 => ?_) (fun c2 => ?_)
  · replace h := h.1 c2
    refine zv_iconst (pc := 17) g dX5_status_17 (v := 0) (by decide) ?_
    refine zv_istore_n (pc := 18) 2 [(2, .int 0), (0, .ref (a 0)), (1, .int x1)] g dX5_status_18 rfl (by decide) rfl ?_
    refine zv_iconst (pc := 19) g dX5_status_19 (v := 0) (by decide) ?_
    refine zv_istore_n (pc := 20) 3 [(3, .int 0), (2, .int 0), (0, .ref (a 0)), (1, .int x1)] g dX5_status_20 rfl (by decide) rfl ?_
    obtain ⟨f7, h⟩ := h
    refine zv_sub [2, 3, 1, 0] rfl ?_
    exact lX5_status_21 g hR f7 _ _ _ _ h
  · replace h := h.2 c2
    refine zv_aload_n (pc := 10) g dX5_status_10 0 rfl rfl ?_
    refine zv_ldc (pc := 11) g wd_744 dX5_status_11 ?_
    refine zv_cVi (pc := 13) g cw_X5_57 (ctX5_finds h) (by decide) (by decide) zz_p0 (mW β a) (fun T => zz_p1 T) (q := 0) rfl rfl rfl rfl rfl (Nat.le_of_ble_eq_true rfl) dX5_status_13 (fun v8 S9 h => ?_)
    exact zv_iret (pc := 16) g hR dX5_status_16 ⟨_, _, rfl, rfl, h⟩
