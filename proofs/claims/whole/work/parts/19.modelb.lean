def wX5_goes_102 (post : Int32 → (MSt) → Prop) (S : MSt) (x1 : Int32) (x2 : Int32) (x4 : Int32) (x5 : Int32) (x6 : Int32) (x7 : Int32) (s0 : Int32) (s1 : Int32) (s2 : Int32) : Prop := wX5_puts (fun S13 => wX5_places (fun S14 => wX5_there (fun v15 => wX5_places (fun S16 => wX5_its (fun v17 => wX5_held (fun v18 => wX5_puts (fun S19 => post x7 S19) S16 x1 2 v18) (v17 + (x7 / 2)) 0 99) S16 x1 2) S14 x2 0 (v15 - x7)) S14 x2 0) S13 x2 1 ((x4 &&& (x5 ^^^ (-1))) ||| x6)) S s2 s1 (s0 ||| x5)
set_option maxRecDepth 100000 in
set_option maxHeartbeats 4000000 in
theorem lX5_goes_102 {β : zz_B} {Γ : zz_X} {a : Nat → Nat} {post : Int32 → (MSt) → Prop} (g : zG β 9 Γ cX5_goes RX5 2 46) (hR : zR β Γ (some .int) (fun r w => ∃ (v : Int32) (T : MSt), r = some (.int v) ∧ w = (mW β a) T ∧ post v T)) (S : MSt) (x1 : Int32) (x2 : Int32) (x4 : Int32) (x5 : Int32) (x6 : Int32) (x7 : Int32) (s0 : Int32) (s1 : Int32) (s2 : Int32) (h : wX5_goes_102 post S x1 x2 x4 x5 x6 x7 s0 s1 s2) : zV β 9 Γ ((mW β a) S) 102 [(0, .ref (a 0)), (1, .int x1), (2, .int x2), (4, .int x4), (5, .int x5), (6, .int x6), (7, .int x7)] [.int s0, .int s1, .int s2, .ref (a 0)] := by
  unfold wX5_goes_102 at h
  refine zv_iload (pc := 102) g dX5_goes_102 4 rfl ?_
  refine zv_ior (pc := 104) g dX5_goes_104 ?_
  refine zv_cVv (pc := 105) g cw_X5_93 (ctX5_puts h) (by decide) (by decide) zz_p0 (mW β a) (fun T => zz_p1 T) (q := 0) rfl rfl rfl rfl rfl (Nat.le_of_ble_eq_true rfl) dX5_goes_105 (fun S13 h => ?_)
  refine zv_aload_n (pc := 108) g dX5_goes_108 0 rfl rfl ?_
  refine zv_iload_n (pc := 109) g dX5_goes_109 2 rfl rfl ?_
  refine zv_iconst (pc := 110) g dX5_goes_110 (v := 1) (by decide) ?_
  refine zv_iload (pc := 111) g dX5_goes_111 3 rfl ?_
  refine zv_iload (pc := 113) g dX5_goes_113 4 rfl ?_
  refine zv_iconst (pc := 115) g dX5_goes_115 (v := (-1)) (by decide) ?_
  refine zv_ixor (pc := 116) g dX5_goes_116 ?_
  refine zv_iand (pc := 117) g dX5_goes_117 ?_
  refine zv_iload (pc := 118) g dX5_goes_118 5 rfl ?_
  refine zv_ior (pc := 120) g dX5_goes_120 ?_
  refine zv_cVv (pc := 121) g cw_X5_44 (ctX5_places h) (by decide) (by decide) zz_p0 (mW β a) (fun T => zz_p1 T) (q := 0) rfl rfl rfl rfl rfl (Nat.le_of_ble_eq_true rfl) dX5_goes_121 (fun S14 h => ?_)
  refine zv_aload_n (pc := 124) g dX5_goes_124 0 rfl rfl ?_
  refine zv_iload_n (pc := 125) g dX5_goes_125 2 rfl rfl ?_
  refine zv_iconst (pc := 126) g dX5_goes_126 (v := 0) (by decide) ?_
  refine zv_aload_n (pc := 127) g dX5_goes_127 0 rfl rfl ?_
  refine zv_iload_n (pc := 128) g dX5_goes_128 2 rfl rfl ?_
  refine zv_iconst (pc := 129) g dX5_goes_129 (v := 0) (by decide) ?_
  refine zv_cVp (pc := 130) g cw_X5_71 (ctX5_there h) (by decide) (by decide) zz_p0 (q := 0) rfl rfl rfl rfl rfl (Nat.le_of_ble_eq_true rfl) dX5_goes_130 (fun v15 h => ?_)
  refine zv_iload (pc := 133) g dX5_goes_133 6 rfl ?_
  refine zv_isub (pc := 135) g dX5_goes_135 ?_
  refine zv_cVv (pc := 136) g cw_X5_44 (ctX5_places h) (by decide) (by decide) zz_p0 (mW β a) (fun T => zz_p1 T) (q := 0) rfl rfl rfl rfl rfl (Nat.le_of_ble_eq_true rfl) dX5_goes_136 (fun S16 h => ?_)
  refine zv_aload_n (pc := 139) g dX5_goes_139 0 rfl rfl ?_
  refine zv_iload_n (pc := 140) g dX5_goes_140 1 rfl rfl ?_
  refine zv_iconst (pc := 141) g dX5_goes_141 (v := 2) (by decide) ?_
  refine zv_aload_n (pc := 142) g dX5_goes_142 0 rfl rfl ?_
  refine zv_iload_n (pc := 143) g dX5_goes_143 1 rfl rfl ?_
  refine zv_iconst (pc := 144) g dX5_goes_144 (v := 2) (by decide) ?_
  refine zv_cVp (pc := 145) g cw_X5_65 (ctX5_its h) (by decide) (by decide) zz_p0 (q := 0) rfl rfl rfl rfl rfl (Nat.le_of_ble_eq_true rfl) dX5_goes_145 (fun v17 h => ?_)
  refine zv_iload (pc := 148) g dX5_goes_148 6 rfl ?_
  refine zv_iconst (pc := 150) g dX5_goes_150 (v := 2) (by decide) ?_
  refine zv_idiv (pc := 151) g dX5_goes_151 (by decide) ?_
  refine zv_iadd (pc := 152) g dX5_goes_152 ?_
  refine zv_iconst (pc := 153) g dX5_goes_153 (v := 0) (by decide) ?_
  refine zv_bipush (pc := 154) g dX5_goes_154 (v := 99) (by decide) ?_
  refine zv_cSp (pc := 156) g cw_X5_126 (ctX5_held h) (by decide) (by decide) zz_pN rfl rfl (Nat.le_of_ble_eq_true rfl) dX5_goes_156 (fun v18 h => ?_)
  refine zv_cVv (pc := 159) g cw_X5_93 (ctX5_puts h) (by decide) (by decide) zz_p0 (mW β a) (fun T => zz_p1 T) (q := 0) rfl rfl rfl rfl rfl (Nat.le_of_ble_eq_true rfl) dX5_goes_159 (fun S19 h => ?_)
  refine zv_iload (pc := 162) g dX5_goes_162 6 rfl ?_
  exact zv_iret (pc := 164) g hR dX5_goes_164 ⟨_, _, rfl, rfl, h⟩
def wX5_goes_75 (post : Int32 → (MSt) → Prop) (S : MSt) (x1 : Int32) (x2 : Int32) (x3 : Int32) (x4 : Int32) (x5 : Int32) (x6 : Int32) (s0 : Int32) : Prop := wX5_isKeeping (fun v11 => (v11 = 0 → wX5_goes_102 post S x1 x2 x4 x5 x6 s0 (x3 &&& (x6 ^^^ (-1))) 1 x1) ∧ (¬ v11 = 0 → wX5_goes_102 post S x1 x2 x4 x5 x6 s0 x3 1 x1)) S x1
set_option maxRecDepth 100000 in
set_option maxHeartbeats 4000000 in
theorem lX5_goes_75 {β : zz_B} {Γ : zz_X} {a : Nat → Nat} {post : Int32 → (MSt) → Prop} (g : zG β 9 Γ cX5_goes RX5 2 46) (hR : zR β Γ (some .int) (fun r w => ∃ (v : Int32) (T : MSt), r = some (.int v) ∧ w = (mW β a) T ∧ post v T)) (S : MSt) (x1 : Int32) (x2 : Int32) (x3 : Int32) (x4 : Int32) (x5 : Int32) (x6 : Int32) (s0 : Int32) (h : wX5_goes_75 post S x1 x2 x3 x4 x5 x6 s0) : zV β 9 Γ ((mW β a) S) 75 [(0, .ref (a 0)), (1, .int x1), (2, .int x2), (3, .int x3), (4, .int x4), (5, .int x5), (6, .int x6)] [.int s0] := by
  unfold wX5_goes_75 at h
  refine zv_istore (pc := 75) [(7, .int s0), (0, .ref (a 0)), (1, .int x1), (2, .int x2), (3, .int x3), (4, .int x4), (5, .int x5), (6, .int x6)] g dX5_goes_75 (by decide) rfl ?_
  refine zv_aload_n (pc := 77) g dX5_goes_77 1 rfl rfl ?_
  refine zv_iload_n (pc := 78) g dX5_goes_78 2 rfl rfl ?_
  refine zv_cVp (pc := 79) g cw_X5_115 (ctX5_isKeeping h) (by decide) (by decide) zz_p0 (q := 0) rfl rfl rfl rfl rfl (Nat.le_of_ble_eq_true rfl) dX5_goes_79 (fun v11 h => ?_)
  refine zv_istore (pc := 82) [(8, .int v11), (7, .int s0), (0, .ref (a 0)), (1, .int x1), (2, .int x2), (3, .int x3), (4, .int x4), (5, .int x5), (6, .int x6)] g dX5_goes_82 (by decide) rfl ?_
  refine zv_aload_n (pc := 84) g dX5_goes_84 2 rfl rfl ?_
  refine zv_iload_n (pc := 85) g dX5_goes_85 3 rfl rfl ?_
  refine zv_iconst (pc := 86) g dX5_goes_86 (v := 1) (by decide) ?_
  refine zv_iload (pc := 87) g dX5_goes_87 0 rfl ?_
  refine zv_if_eq (pc := 89) 96 g dX5_goes_89 rfl (fun c12 => ?_) (fun c12 => ?_)
  · replace h := h.1 c12
    refine zv_iload_n (pc := 96) g dX5_goes_96 5 rfl rfl ?_
    refine zv_iload (pc := 97) g dX5_goes_97 8 rfl ?_
    refine zv_iconst (pc := 99) g dX5_goes_99 (v := (-1)) (by decide) ?_
    refine zv_ixor (pc := 100) g dX5_goes_100 ?_
    refine zv_iand (pc := 101) g dX5_goes_101 ?_
    refine zv_sub [2, 3, 4, 6, 7, 8, 1] rfl ?_
    exact lX5_goes_102 g hR _ _ _ _ _ _ _ _ _ _ h
  · replace h := h.2 c12
    refine zv_iload_n (pc := 92) g dX5_goes_92 5 rfl rfl ?_
    refine zv_goto (pc := 93) 102 g dX5_goes_93 rfl ?_
    refine zv_sub [2, 3, 4, 6, 7, 8, 1] rfl ?_
    exact lX5_goes_102 g hR _ _ _ _ _ _ _ _ _ _ h
def wX5_goes (post : Int32 → (MSt) → Prop) (S : MSt) (x1 : Int32) (x2 : Int32) : Prop := wX5_its (fun v1 => wX5_there (fun v2 => wX5_takesUp (fun v3 => wX5_least (fun v4 => wX5_leaves (fun v5 => wX5_least (fun v6 => wX5_wipes (fun v7 => wX5_there (fun v8 => (v8 ≤ v7 → wX5_there (fun v10 => wX5_goes_75 post S x1 x2 v1 v2 v4 v6 v10) S x2 0) ∧ (¬ v8 ≤ v7 → wX5_wipes (fun v20 => wX5_goes_75 post S x1 x2 v1 v2 v4 v6 v20) S x1)) S x2 0) S x1) (v1 &&& (v2 ^^^ (-1))) v5) S x1) (v2 &&& (v1 ^^^ (-1))) v3) S x1) S x2 1) S x1 1
set_option maxRecDepth 100000 in
set_option maxHeartbeats 4000000 in
theorem ctX5_goes {β : zz_B} {a : Nat → Nat} {post : Int32 → (MSt) → Prop} {S : MSt} {x1 : Int32} {x2 : Int32} (h : wX5_goes post S x1 x2) : zCi β yX5_goes cX5_goes 9 (some .int) 2 46 [.ref (a 0), .int x1, .int x2] (mW β a) S post := by
  unfold wX5_goes at h
  unfold zCi
  refine zC.of (by decide) (Nat.le_of_ble_eq_true rfl) ?_
  intro Γ g hR
  show zV β 9 Γ ((mW β a) S) 0 [(0, .ref (a 0)), (1, .int x1), (2, .int x2)] []
  refine zv_aload_n (pc := 0) g dX5_goes_0 0 rfl rfl ?_
  refine zv_iload_n (pc := 1) g dX5_goes_1 1 rfl rfl ?_
  refine zv_iconst (pc := 2) g dX5_goes_2 (v := 1) (by decide) ?_
  refine zv_cVp (pc := 3) g cw_X5_65 (ctX5_its h) (by decide) (by decide) zz_p0 (q := 0) rfl rfl rfl rfl rfl (Nat.le_of_ble_eq_true rfl) dX5_goes_3 (fun v1 h => ?_)
  refine zv_istore_n (pc := 6) 3 [(3, .int v1), (0, .ref (a 0)), (1, .int x1), (2, .int x2)] g dX5_goes_6 rfl (by decide) rfl ?_
  refine zv_aload_n (pc := 7) g dX5_goes_7 1 rfl rfl ?_
  refine zv_iload_n (pc := 8) g dX5_goes_8 3 rfl rfl ?_
  refine zv_iconst (pc := 9) g dX5_goes_9 (v := 1) (by decide) ?_
  refine zv_cVp (pc := 10) g cw_X5_71 (ctX5_there h) (by decide) (by decide) zz_p0 (q := 0) rfl rfl rfl rfl rfl (Nat.le_of_ble_eq_true rfl) dX5_goes_10 (fun v2 h => ?_)
  refine zv_istore (pc := 13) [(4, .int v2), (3, .int v1), (0, .ref (a 0)), (1, .int x1), (2, .int x2)] g dX5_goes_13 (by decide) rfl ?_
  refine zv_iload (pc := 15) g dX5_goes_15 0 rfl ?_
  refine zv_iload_n (pc := 17) g dX5_goes_17 1 rfl rfl ?_
  refine zv_iconst (pc := 18) g dX5_goes_18 (v := (-1)) (by decide) ?_
  refine zv_ixor (pc := 19) g dX5_goes_19 ?_
  refine zv_iand (pc := 20) g dX5_goes_20 ?_
  refine zv_aload_n (pc := 21) g dX5_goes_21 2 rfl rfl ?_
  refine zv_iload_n (pc := 22) g dX5_goes_22 3 rfl rfl ?_
  refine zv_cVp (pc := 23) g cw_X5_109 (ctX5_takesUp h) (by decide) (by decide) zz_p0 (q := 0) rfl rfl rfl rfl rfl (Nat.le_of_ble_eq_true rfl) dX5_goes_23 (fun v3 h => ?_)
  refine zv_cSp (pc := 26) g cw_X5_123 (ctX5_least h) (by decide) (by decide) zz_pN rfl rfl (Nat.le_of_ble_eq_true rfl) dX5_goes_26 (fun v4 h => ?_)
  refine zv_istore (pc := 29) [(5, .int v4), (4, .int v2), (3, .int v1), (0, .ref (a 0)), (1, .int x1), (2, .int x2)] g dX5_goes_29 (by decide) rfl ?_
  refine zv_iload_n (pc := 31) g dX5_goes_31 2 rfl rfl ?_
  refine zv_iload (pc := 32) g dX5_goes_32 1 rfl ?_
  refine zv_iconst (pc := 34) g dX5_goes_34 (v := (-1)) (by decide) ?_
  refine zv_ixor (pc := 35) g dX5_goes_35 ?_
  refine zv_iand (pc := 36) g dX5_goes_36 ?_
  refine zv_aload_n (pc := 37) g dX5_goes_37 3 rfl rfl ?_
  refine zv_iload_n (pc := 38) g dX5_goes_38 4 rfl rfl ?_
  refine zv_cVp (pc := 39) g cw_X5_112 (ctX5_leaves h) (by decide) (by decide) zz_p0 (q := 0) rfl rfl rfl rfl rfl (Nat.le_of_ble_eq_true rfl) dX5_goes_39 (fun v5 h => ?_)
  refine zv_cSp (pc := 42) g cw_X5_123 (ctX5_least h) (by decide) (by decide) zz_pN rfl rfl (Nat.le_of_ble_eq_true rfl) dX5_goes_42 (fun v6 h => ?_)
  refine zv_istore (pc := 45) [(6, .int v6), (5, .int v4), (4, .int v2), (3, .int v1), (0, .ref (a 0)), (1, .int x1), (2, .int x2)] g dX5_goes_45 (by decide) rfl ?_
  refine zv_aload_n (pc := 47) g dX5_goes_47 4 rfl rfl ?_
  refine zv_iload_n (pc := 48) g dX5_goes_48 5 rfl rfl ?_
  refine zv_cVp (pc := 49) g cw_X5_106 (ctX5_wipes h) (by decide) (by decide) zz_p0 (q := 0) rfl rfl rfl rfl rfl (Nat.le_of_ble_eq_true rfl) dX5_goes_49 (fun v7 h => ?_)
  refine zv_aload_n (pc := 52) g dX5_goes_52 4 rfl rfl ?_
  refine zv_iload_n (pc := 53) g dX5_goes_53 6 rfl rfl ?_
  refine zv_iconst (pc := 54) g dX5_goes_54 (v := 0) (by decide) ?_
  refine zv_cVp (pc := 55) g cw_X5_71 (ctX5_there h) (by decide) (by decide) zz_p0 (q := 0) rfl rfl rfl rfl rfl (Nat.le_of_ble_eq_true rfl) dX5_goes_55 (fun v8 h => ?_)
  refine zv_icmp_ge (pc := 58) 69 g dX5_goes_58 rfl (fun c9 => ?_) (fun c9 => ?_)
  · replace h := h.1 c9
    refine zv_aload_n (pc := 69) g dX5_goes_69 4 rfl rfl ?_
    refine zv_iload_n (pc := 70) g dX5_goes_70 6 rfl rfl ?_
    refine zv_iconst (pc := 71) g dX5_goes_71 (v := 0) (by decide) ?_
    refine zv_cVp (pc := 72) g cw_X5_71 (ctX5_there h) (by decide) (by decide) zz_p0 (q := 0) rfl rfl rfl rfl rfl (Nat.le_of_ble_eq_true rfl) dX5_goes_72 (fun v10 h => ?_)
    refine zv_sub [4, 5, 6, 3, 2, 1, 0] rfl ?_
    exact lX5_goes_75 g hR _ _ _ _ _ _ _ _ h
  · replace h := h.2 c9
    refine zv_aload_n (pc := 61) g dX5_goes_61 4 rfl rfl ?_
    refine zv_iload_n (pc := 62) g dX5_goes_62 5 rfl rfl ?_
    refine zv_cVp (pc := 63) g cw_X5_106 (ctX5_wipes h) (by decide) (by decide) zz_p0 (q := 0) rfl rfl rfl rfl rfl (Nat.le_of_ble_eq_true rfl) dX5_goes_63 (fun v20 h => ?_)
    refine zv_goto (pc := 66) 75 g dX5_goes_66 rfl ?_
    refine zv_sub [4, 5, 6, 3, 2, 1, 0] rfl ?_
    exact lX5_goes_75 g hR _ _ _ _ _ _ _ _ h
def wX5_through (post : Int32 → (MSt) → Prop) (S : MSt) (x1 : Int32) (x2 : Int32) : Prop := wX5_isOne (fun v1 => (v1 = 0 → wX5_finds (fun v3 S4 => post v3 S4) S (-1000000001)) ∧ (¬ v1 = 0 → wX5_isRoom (fun v5 => (v5 = 0 → wX5_finds (fun v7 S8 => post v7 S8) S (-1000000001)) ∧ (¬ v5 = 0 → wX5_goes (fun v9 S10 => post v9 S10) S x1 x2)) x2)) S x1
set_option maxRecDepth 100000 in
set_option maxHeartbeats 4000000 in
theorem ctX5_through {β : zz_B} {a : Nat → Nat} {post : Int32 → (MSt) → Prop} {S : MSt} {x1 : Int32} {x2 : Int32} (h : wX5_through post S x1 x2) : zCi β yX5_through cX5_through 3 (some .int) 3 74 [.ref (a 0), .int x1, .int x2] (mW β a) S post := by
  unfold wX5_through at h
  unfold zCi
  refine zC.of (by decide) (Nat.le_of_ble_eq_true rfl) ?_
  intro Γ g hR
  show zV β 3 Γ ((mW β a) S) 0 [(0, .ref (a 0)), (1, .int x1), (2, .int x2)] []
  refine zv_aload_n (pc := 0) g dX5_through_0 0 rfl rfl ?_
  refine zv_iload_n (pc := 1) g dX5_through_1 1 rfl rfl ?_
  refine zv_cVp (pc := 2) g cw_X5_103 (ctX5_isOne h) (by decide) (by decide) zz_p0 (q := 0) rfl rfl rfl rfl rfl (Nat.le_of_ble_eq_true rfl) dX5_through_2 (fun v1 h => ?_)
  refine zv_if_eq (pc := 5) 24 g dX5_through_5 rfl (fun c2 => ?_) (fun c2 => ?_)
  · replace h := h.1 c2
    refine zv_aload_n (pc := 24) g dX5_through_24 0 rfl rfl ?_
    refine zv_ldc (pc := 25) g wd_744 dX5_through_25 ?_
    refine zv_cVi (pc := 27) g cw_X5_57 (ctX5_finds h) (by decide) (by decide) zz_p0 (mW β a) (fun T => zz_p1 T) (q := 0) rfl rfl rfl rfl rfl (Nat.le_of_ble_eq_true rfl) dX5_through_27 (fun v3 S4 h => ?_)
    exact zv_iret (pc := 30) g hR dX5_through_30 ⟨_, _, rfl, rfl, h⟩
  · replace h := h.2 c2
    refine zv_iload_n (pc := 8) g dX5_through_8 2 rfl rfl ?_
    refine zv_cSp (pc := 9) g cw_X5_61 (ctX5_isRoom h) (by decide) (by decide) zz_pN rfl rfl (Nat.le_of_ble_eq_true rfl) dX5_through_9 (fun v5 h => ?_)
    refine zv_if_eq (pc := 12) 24 g dX5_through_12 rfl (fun c6 => ?_) (fun c6 => ?_)
    · replace h := h.1 c6
      refine zv_aload_n (pc := 24) g dX5_through_24 0 rfl rfl ?_
      refine zv_ldc (pc := 25) g wd_744 dX5_through_25 ?_
      refine zv_cVi (pc := 27) g cw_X5_57 (ctX5_finds h) (by decide) (by decide) zz_p0 (mW β a) (fun T => zz_p1 T) (q := 0) rfl rfl rfl rfl rfl (Nat.le_of_ble_eq_true rfl) dX5_through_27 (fun v7 S8 h => ?_)
      exact zv_iret (pc := 30) g hR dX5_through_30 ⟨_, _, rfl, rfl, h⟩
    · replace h := h.2 c6
      refine zv_aload_n (pc := 15) g dX5_through_15 0 rfl rfl ?_
      refine zv_iload_n (pc := 16) g dX5_through_16 1 rfl rfl ?_
      refine zv_iload_n (pc := 17) g dX5_through_17 2 rfl rfl ?_
      refine zv_cVi (pc := 18) g cw_X5_130 (ctX5_goes h) (by decide) (by decide) zz_p0 (mW β a) (fun T => zz_p1 T) (q := 0) rfl rfl rfl rfl rfl (Nat.le_of_ble_eq_true rfl) dX5_through_18 (fun v9 S10 h => ?_)
      refine zv_goto (pc := 21) 30 g dX5_through_21 rfl ?_
      exact zv_iret (pc := 30) g hR dX5_through_30 ⟨_, _, rfl, rfl, h⟩
def wX5_washes_9 (post : Int32 → (MSt) → Prop) : Nat → (MSt) → (Int32) → (Int32) → (Int32) → Prop
  | 0, _, _, _, _ => False
  | f0 + 1, S, x1, x2, x3 => ((8 : Int32) ≤ x3 → wX5_puts (fun S3 => wX5_puts (fun S4 => post x2 S4) S3 x1 2 0) S x1 1 0) ∧ (¬ (8 : Int32) ≤ x3 → wX5_there (fun v5 => wX5_places (fun S6 => wX5_washes_9 post f0 S6 x1 x2 (x3 + 1)) S x3 1 (v5 ||| x2)) S x3 1)
set_option maxRecDepth 100000 in
set_option maxHeartbeats 4000000 in
theorem lX5_washes_9 {β : zz_B} {Γ : zz_X} {a : Nat → Nat} {post : Int32 → (MSt) → Prop} (g : zG β 4 Γ cX5_washes RX5 1 23) (hR : zR β Γ (some .int) (fun r w => ∃ (v : Int32) (T : MSt), r = some (.int v) ∧ w = (mW β a) T ∧ post v T)) : ∀ (f0 : Nat) (S : MSt) (x1 : Int32) (x2 : Int32) (x3 : Int32) , wX5_washes_9 post f0 S x1 x2 x3 → zV β 4 Γ ((mW β a) S) 9 [(0, .ref (a 0)), (1, .int x1), (2, .int x2), (3, .int x3)] [] := by
  intro f0
  induction f0 with
  | zero => intro S x1 x2 x3 h; exact h.elim
  | succ f0 ih0 =>
    intro S x1 x2 x3 h
    rw [wX5_washes_9] at h
    refine zv_iload_n (pc := 9) g dX5_washes_9 3 rfl rfl ?_
    refine zv_bipush (pc := 10) g dX5_washes_10 (v := 8) (by decide) ?_
    refine zv_icmp_ge (pc := 12) 35 g dX5_washes_12 rfl (fun c2 => ?_) (fun c2 => ?_)
    · replace h := h.1 c2
      refine zv_aload_n (pc := 35) g dX5_washes_35 0 rfl rfl ?_
      refine zv_iload_n (pc := 36) g dX5_washes_36 1 rfl rfl ?_
      refine zv_iconst (pc := 37) g dX5_washes_37 (v := 1) (by decide) ?_
      refine zv_iconst (pc := 38) g dX5_washes_38 (v := 0) (by decide) ?_
      refine zv_cVv (pc := 39) g cw_X5_93 (ctX5_puts h) (by decide) (by decide) zz_p0 (mW β a) (fun T => zz_p1 T) (q := 0) rfl rfl rfl rfl rfl (Nat.le_of_ble_eq_true rfl) dX5_washes_39 (fun S3 h => ?_)
      refine zv_aload_n (pc := 42) g dX5_washes_42 0 rfl rfl ?_
      refine zv_iload_n (pc := 43) g dX5_washes_43 1 rfl rfl ?_
      refine zv_iconst (pc := 44) g dX5_washes_44 (v := 2) (by decide) ?_
      refine zv_iconst (pc := 45) g dX5_washes_45 (v := 0) (by decide) ?_
      refine zv_cVv (pc := 46) g cw_X5_93 (ctX5_puts h) (by decide) (by decide) zz_p0 (mW β a) (fun T => zz_p1 T) (q := 0) rfl rfl rfl rfl rfl (Nat.le_of_ble_eq_true rfl) dX5_washes_46 (fun S4 h => ?_)
      refine zv_iload_n (pc := 49) g dX5_washes_49 2 rfl rfl ?_
      exact zv_iret (pc := 50) g hR dX5_washes_50 ⟨_, _, rfl, rfl, h⟩
    · replace h := h.2 c2
      refine zv_aload_n (pc := 15) g dX5_washes_15 0 rfl rfl ?_
      refine zv_iload_n (pc := 16) g dX5_washes_16 3 rfl rfl ?_
      refine zv_iconst (pc := 17) g dX5_washes_17 (v := 1) (by decide) ?_
      refine zv_aload_n (pc := 18) g dX5_washes_18 0 rfl rfl ?_
      refine zv_iload_n (pc := 19) g dX5_washes_19 3 rfl rfl ?_
      refine zv_iconst (pc := 20) g dX5_washes_20 (v := 1) (by decide) ?_
      refine zv_cVp (pc := 21) g cw_X5_71 (ctX5_there h) (by decide) (by decide) zz_p0 (q := 0) rfl rfl rfl rfl rfl (Nat.le_of_ble_eq_true rfl) dX5_washes_21 (fun v5 h => ?_)
      refine zv_iload_n (pc := 24) g dX5_washes_24 2 rfl rfl ?_
      refine zv_ior (pc := 25) g dX5_washes_25 ?_
      refine zv_cVv (pc := 26) g cw_X5_44 (ctX5_places h) (by decide) (by decide) zz_p0 (mW β a) (fun T => zz_p1 T) (q := 0) rfl rfl rfl rfl rfl (Nat.le_of_ble_eq_true rfl) dX5_washes_26 (fun S6 h => ?_)
      refine zv_iinc (pc := 29) 1 [(3, .int (x3 + 1)), (0, .ref (a 0)), (1, .int x1), (2, .int x2)] g dX5_washes_29 3 rfl (by decide) (by decide) rfl ?_
      refine zv_goto (pc := 32) 9 g dX5_washes_32 rfl ?_
      refine zv_sub [1, 2, 3, 0] rfl ?_
      exact ih0 _ _ _ _ h
def wX5_washes (post : Int32 → (MSt) → Prop) (S : MSt) (x1 : Int32) : Prop := wX5_its (fun v1 => ∃ f7 : Nat, wX5_washes_9 post f7 S x1 v1 0) S x1 1
set_option maxRecDepth 100000 in
set_option maxHeartbeats 4000000 in
theorem ctX5_washes {β : zz_B} {a : Nat → Nat} {post : Int32 → (MSt) → Prop} {S : MSt} {x1 : Int32} (h : wX5_washes post S x1) : zCi β yX5_washes cX5_washes 4 (some .int) 1 23 [.ref (a 0), .int x1] (mW β a) S post := by
  unfold wX5_washes at h
  unfold zCi
  refine zC.of (by decide) (Nat.le_of_ble_eq_true rfl) ?_
  intro Γ g hR
  show zV β 4 Γ ((mW β a) S) 0 [(0, .ref (a 0)), (1, .int x1)] []
  refine zv_aload_n (pc := 0) g dX5_washes_0 0 rfl rfl ?_
  refine zv_iload_n (pc := 1) g dX5_washes_1 1 rfl rfl ?_
  refine zv_iconst (pc := 2) g dX5_washes_2 (v := 1) (by decide) ?_
  refine zv_cVp (pc := 3) g cw_X5_65 (ctX5_its h) (by decide) (by decide) zz_p0 (q := 0) rfl rfl rfl rfl rfl (Nat.le_of_ble_eq_true rfl) dX5_washes_3 (fun v1 h => ?_)
  refine zv_istore_n (pc := 6) 2 [(2, .int v1), (0, .ref (a 0)), (1, .int x1)] g dX5_washes_6 rfl (by decide) rfl ?_
  refine zv_iconst (pc := 7) g dX5_washes_7 (v := 0) (by decide) ?_
  refine zv_istore_n (pc := 8) 3 [(3, .int 0), (2, .int v1), (0, .ref (a 0)), (1, .int x1)] g dX5_washes_8 rfl (by decide) rfl ?_
  obtain ⟨f7, h⟩ := h
  refine zv_sub [2, 3, 1, 0] rfl ?_
  exact lX5_washes_9 g hR f7 _ _ _ _ h
def wX5_wash (post : Int32 → (MSt) → Prop) (S : MSt) (x1 : Int32) : Prop := wX5_isOne (fun v1 => (v1 = 0 → wX5_finds (fun v3 S4 => post v3 S4) S (-1000000001)) ∧ (¬ v1 = 0 → wX5_washes (fun v5 S6 => post v5 S6) S x1)) S x1
set_option maxRecDepth 100000 in
set_option maxHeartbeats 4000000 in
theorem ctX5_wash {β : zz_B} {a : Nat → Nat} {post : Int32 → (MSt) → Prop} {S : MSt} {x1 : Int32} (h : wX5_wash post S x1) : zCi β yX5_wash cX5_wash 2 (some .int) 2 46 [.ref (a 0), .int x1] (mW β a) S post := by
  unfold wX5_wash at h
  unfold zCi
  refine zC.of (by decide) (Nat.le_of_ble_eq_true rfl) ?_
  intro Γ g hR
  show zV β 2 Γ ((mW β a) S) 0 [(0, .ref (a 0)), (1, .int x1)] []
  refine zv_aload_n (pc := 0) g dX5_wash_0 0 rfl rfl ?_
  refine zv_iload_n (pc := 1) g dX5_wash_1 1 rfl rfl ?_
  refine zv_cVp (pc := 2) g cw_X5_103 (ctX5_isOne h) (by decide) (by decide) zz_p0 (q := 0) rfl rfl rfl rfl rfl (Nat.le_of_ble_eq_true rfl) dX5_wash_2 (fun v1 h => ?_)
  refine zv_if_eq (pc := 5) 16 g dX5_wash_5 rfl (fun c2 => ?_) (fun c2 => ?_)
  · replace h := h.1 c2
    refine zv_aload_n (pc := 16) g dX5_wash_16 0 rfl rfl ?_
    refine zv_ldc (pc := 17) g wd_744 dX5_wash_17 ?_
    refine zv_cVi (pc := 19) g cw_X5_57 (ctX5_finds h) (by decide) (by decide) zz_p0 (mW β a) (fun T => zz_p1 T) (q := 0) rfl rfl rfl rfl rfl (Nat.le_of_ble_eq_true rfl) dX5_wash_19 (fun v3 S4 h => ?_)
    exact zv_iret (pc := 22) g hR dX5_wash_22 ⟨_, _, rfl, rfl, h⟩
  · replace h := h.2 c2
    refine zv_aload_n (pc := 8) g dX5_wash_8 0 rfl rfl ?_
    refine zv_iload_n (pc := 9) g dX5_wash_9 1 rfl rfl ?_
    refine zv_cVi (pc := 10) g cw_X5_133 (ctX5_washes h) (by decide) (by decide) zz_p0 (mW β a) (fun T => zz_p1 T) (q := 0) rfl rfl rfl rfl rfl (Nat.le_of_ble_eq_true rfl) dX5_wash_10 (fun v5 S6 h => ?_)
    refine zv_goto (pc := 13) 22 g dX5_wash_13 rfl ?_
    exact zv_iret (pc := 22) g hR dX5_wash_22 ⟨_, _, rfl, rfl, h⟩
def wX5_shakes (post : Int32 → (MSt) → Prop) (S : MSt) (x1 : Int32) : Prop := wX5_its (fun v1 => wX5_roomOfOne (fun v2 => ∀ y3 : Int32, y3 = ((v2 + 1) - (v2 + 1) / 8 * 8) → (wX5_there (fun v4 => wX5_places (fun S5 => wX5_puts (fun S6 => wX5_its (fun v7 => wX5_puts (fun S8 => post v1 S8) S6 x1 2 (v7 / 2)) S6 x1 2) S5 x1 1 0) S y3 1 (v4 ||| v1)) S y3 1)) S x1) S x1 1
set_option maxRecDepth 100000 in
set_option maxHeartbeats 4000000 in
theorem ctX5_shakes {β : zz_B} {a : Nat → Nat} {post : Int32 → (MSt) → Prop} {S : MSt} {x1 : Int32} (h : wX5_shakes post S x1) : zCi β yX5_shakes cX5_shakes 4 (some .int) 2 43 [.ref (a 0), .int x1] (mW β a) S post := by
  unfold wX5_shakes at h
  unfold zCi
  refine zC.of (by decide) (Nat.le_of_ble_eq_true rfl) ?_
  intro Γ g hR
  show zV β 4 Γ ((mW β a) S) 0 [(0, .ref (a 0)), (1, .int x1)] []
  refine zv_aload_n (pc := 0) g dX5_shakes_0 0 rfl rfl ?_
  refine zv_iload_n (pc := 1) g dX5_shakes_1 1 rfl rfl ?_
  refine zv_iconst (pc := 2) g dX5_shakes_2 (v := 1) (by decide) ?_
  refine zv_cVp (pc := 3) g cw_X5_65 (ctX5_its h) (by decide) (by decide) zz_p0 (q := 0) rfl rfl rfl rfl rfl (Nat.le_of_ble_eq_true rfl) dX5_shakes_3 (fun v1 h => ?_)
  refine zv_istore_n (pc := 6) 2 [(2, .int v1), (0, .ref (a 0)), (1, .int x1)] g dX5_shakes_6 rfl (by decide) rfl ?_
  refine zv_aload_n (pc := 7) g dX5_shakes_7 1 rfl rfl ?_
  refine zv_iload_n (pc := 8) g dX5_shakes_8 2 rfl rfl ?_
  refine zv_cVp (pc := 9) g cw_X5_68 (ctX5_roomOfOne h) (by decide) (by decide) zz_p0 (q := 0) rfl rfl rfl rfl rfl (Nat.le_of_ble_eq_true rfl) dX5_shakes_9 (fun v2 h => ?_)
  refine zv_iconst (pc := 12) g dX5_shakes_12 (v := 1) (by decide) ?_
  refine zv_iadd (pc := 13) g dX5_shakes_13 ?_
  refine zv_bipush (pc := 14) g dX5_shakes_14 (v := 8) (by decide) ?_
  refine zv_irem (pc := 16) g dX5_shakes_16 (by decide) ?_
  refine zv_topi (fun y3 ey3 => ?_)
  replace h := h y3 ey3
  refine zv_istore_n (pc := 17) 3 [(3, .int y3), (2, .int v1), (0, .ref (a 0)), (1, .int x1)] g dX5_shakes_17 rfl (by decide) rfl ?_
  refine zv_aload_n (pc := 18) g dX5_shakes_18 2 rfl rfl ?_
  refine zv_iload_n (pc := 19) g dX5_shakes_19 0 rfl rfl ?_
  refine zv_iconst (pc := 20) g dX5_shakes_20 (v := 1) (by decide) ?_
  refine zv_aload_n (pc := 21) g dX5_shakes_21 2 rfl rfl ?_
  refine zv_iload_n (pc := 22) g dX5_shakes_22 0 rfl rfl ?_
  refine zv_iconst (pc := 23) g dX5_shakes_23 (v := 1) (by decide) ?_
  refine zv_cVp (pc := 24) g cw_X5_71 (ctX5_there h) (by decide) (by decide) zz_p0 (q := 0) rfl rfl rfl rfl rfl (Nat.le_of_ble_eq_true rfl) dX5_shakes_24 (fun v4 h => ?_)
  refine zv_iload_n (pc := 27) g dX5_shakes_27 1 rfl rfl ?_
  refine zv_ior (pc := 28) g dX5_shakes_28 ?_
  refine zv_cVv (pc := 29) g cw_X5_44 (ctX5_places h) (by decide) (by decide) zz_p0 (mW β a) (fun T => zz_p1 T) (q := 0) rfl rfl rfl rfl rfl (Nat.le_of_ble_eq_true rfl) dX5_shakes_29 (fun S5 h => ?_)
  refine zv_aload_n (pc := 32) g dX5_shakes_32 2 rfl rfl ?_
  refine zv_iload_n (pc := 33) g dX5_shakes_33 3 rfl rfl ?_
  refine zv_iconst (pc := 34) g dX5_shakes_34 (v := 1) (by decide) ?_
  refine zv_iconst (pc := 35) g dX5_shakes_35 (v := 0) (by decide) ?_
  refine zv_cVv (pc := 36) g cw_X5_93 (ctX5_puts h) (by decide) (by decide) zz_p0 (mW β a) (fun T => zz_p1 T) (q := 0) rfl rfl rfl rfl rfl (Nat.le_of_ble_eq_true rfl) dX5_shakes_36 (fun S6 h => ?_)
  refine zv_aload_n (pc := 39) g dX5_shakes_39 2 rfl rfl ?_
  refine zv_iload_n (pc := 40) g dX5_shakes_40 3 rfl rfl ?_
  refine zv_iconst (pc := 41) g dX5_shakes_41 (v := 2) (by decide) ?_
  refine zv_aload_n (pc := 42) g dX5_shakes_42 2 rfl rfl ?_
  refine zv_iload_n (pc := 43) g dX5_shakes_43 3 rfl rfl ?_
  refine zv_iconst (pc := 44) g dX5_shakes_44 (v := 2) (by decide) ?_
  refine zv_cVp (pc := 45) g cw_X5_65 (ctX5_its h) (by decide) (by decide) zz_p0 (q := 0) rfl rfl rfl rfl rfl (Nat.le_of_ble_eq_true rfl) dX5_shakes_45 (fun v7 h => ?_)
  refine zv_iconst (pc := 48) g dX5_shakes_48 (v := 2) (by decide) ?_
  refine zv_idiv (pc := 49) g dX5_shakes_49 (by decide) ?_
  refine zv_cVv (pc := 50) g cw_X5_93 (ctX5_puts h) (by decide) (by decide) zz_p0 (mW β a) (fun T => zz_p1 T) (q := 0) rfl rfl rfl rfl rfl (Nat.le_of_ble_eq_true rfl) dX5_shakes_50 (fun S8 h => ?_)
  refine zv_iload_n (pc := 53) g dX5_shakes_53 1 rfl rfl ?_
  exact zv_iret (pc := 54) g hR dX5_shakes_54 ⟨_, _, rfl, rfl, h⟩
def wX5_shake (post : Int32 → (MSt) → Prop) (S : MSt) (x1 : Int32) : Prop := wX5_isOne (fun v1 => (v1 = 0 → wX5_finds (fun v3 S4 => post v3 S4) S (-1000000001)) ∧ (¬ v1 = 0 → wX5_shakes (fun v5 S6 => post v5 S6) S x1)) S x1
set_option maxRecDepth 100000 in
set_option maxHeartbeats 4000000 in
theorem ctX5_shake {β : zz_B} {a : Nat → Nat} {post : Int32 → (MSt) → Prop} {S : MSt} {x1 : Int32} (h : wX5_shake post S x1) : zCi β yX5_shake cX5_shake 2 (some .int) 3 66 [.ref (a 0), .int x1] (mW β a) S post := by
  unfold wX5_shake at h
  unfold zCi
  refine zC.of (by decide) (Nat.le_of_ble_eq_true rfl) ?_
  intro Γ g hR
  show zV β 2 Γ ((mW β a) S) 0 [(0, .ref (a 0)), (1, .int x1)] []
  refine zv_aload_n (pc := 0) g dX5_shake_0 0 rfl rfl ?_
  refine zv_iload_n (pc := 1) g dX5_shake_1 1 rfl rfl ?_
  refine zv_cVp (pc := 2) g cw_X5_103 (ctX5_isOne h) (by decide) (by decide) zz_p0 (q := 0) rfl rfl rfl rfl rfl (Nat.le_of_ble_eq_true rfl) dX5_shake_2 (fun v1 h => ?_)
  refine zv_if_eq (pc := 5) 16 g dX5_shake_5 rfl (fun c2 => ?_) (fun c2 => ?_)
  · replace h := h.1 c2
    refine zv_aload_n (pc := 16) g dX5_shake_16 0 rfl rfl ?_
    refine zv_ldc (pc := 17) g wd_744 dX5_shake_17 ?_
    refine zv_cVi (pc := 19) g cw_X5_57 (ctX5_finds h) (by decide) (by decide) zz_p0 (mW β a) (fun T => zz_p1 T) (q := 0) rfl rfl rfl rfl rfl (Nat.le_of_ble_eq_true rfl) dX5_shake_19 (fun v3 S4 h => ?_)
    exact zv_iret (pc := 22) g hR dX5_shake_22 ⟨_, _, rfl, rfl, h⟩
  · replace h := h.2 c2
    refine zv_aload_n (pc := 8) g dX5_shake_8 0 rfl rfl ?_
    refine zv_iload_n (pc := 9) g dX5_shake_9 1 rfl rfl ?_
    refine zv_cVi (pc := 10) g cw_X5_136 (ctX5_shakes h) (by decide) (by decide) zz_p0 (mW β a) (fun T => zz_p1 T) (q := 0) rfl rfl rfl rfl rfl (Nat.le_of_ble_eq_true rfl) dX5_shake_10 (fun v5 S6 h => ?_)
    refine zv_goto (pc := 13) 22 g dX5_shake_13 rfl ?_
    exact zv_iret (pc := 22) g hR dX5_shake_22 ⟨_, _, rfl, rfl, h⟩
def wX5_oneDay_31 (post : (MSt) → Prop) : Nat → (MSt) → (Int32) → Prop
  | 0, _, _ => False
  | f0 + 1, S, x1 => ((8 : Int32) ≤ x1 → vp_in 0 51 ∧ (vp_in 0 51 ∧ (∀ S3 : MSt, S3 = (m_row_s S (upd (m_row S) (Int32.toNatClampNeg 0) ((m_row S (Int32.toNatClampNeg 0)) + 1))) → (post S3)))) ∧ (¬ (8 : Int32) ≤ x1 → wX5_there (fun v4 => vp_in 1 51 ∧ (wX5_held (fun v5 => wX5_places (fun S6 => wX5_oneDay_31 post f0 S6 (x1 + 1)) S x1 0 v5) (v4 + (m_row S (Int32.toNatClampNeg 1))) 0 99)) S x1 0)
set_option maxRecDepth 100000 in
set_option maxHeartbeats 4000000 in
theorem lX5_oneDay_31 {β : zz_B} {Γ : zz_X} {a : Nat → Nat} {post : (MSt) → Prop} (g : zG β 2 Γ cX5_oneDay RX5 3 74) (hR : zR β Γ none (fun r w => ∃ T : MSt, r = none ∧ w = (mW β a) T ∧ post T)) : ∀ (f0 : Nat) (S : MSt) (x1 : Int32) , wX5_oneDay_31 post f0 S x1 → zV β 2 Γ ((mW β a) S) 31 [(0, .ref (a 0)), (1, .int x1)] [] := by
  intro f0
  induction f0 with
  | zero => intro S x1 h; exact h.elim
  | succ f0 ih0 =>
    intro S x1 h
    rw [wX5_oneDay_31] at h
    refine zv_iload_n (pc := 31) g dX5_oneDay_31 1 rfl rfl ?_
    refine zv_bipush (pc := 32) g dX5_oneDay_32 (v := 8) (by decide) ?_
    refine zv_icmp_ge (pc := 34) 68 g dX5_oneDay_34 rfl (fun c2 => ?_) (fun c2 => ?_)
    · replace h := h.1 c2
      refine zv_aload_n (pc := 68) g dX5_oneDay_68 0 rfl rfl ?_
      refine zv_get (pc := 69) g fl_X5_7 0 rfl rfl dX5_oneDay_69 ?_
      refine zv_iconst (pc := 72) g dX5_oneDay_72 (v := 0) (by decide) ?_
      refine zv_dup2 (pc := 73) g dX5_oneDay_73 rfl rfl ?_
      obtain ⟨hi, h⟩ := h
      refine zv_iald (pc := 74) g 1 rfl hi dX5_oneDay_74 ?_
      refine zv_iconst (pc := 75) g dX5_oneDay_75 (v := 1) (by decide) ?_
      refine zv_iadd (pc := 76) g dX5_oneDay_76 ?_
      obtain ⟨hi, h⟩ := h
      refine zv_ials (pc := 77) ((mW β a) (m_row_s S (upd (m_row S) (Int32.toNatClampNeg 0) ((m_row S (Int32.toNatClampNeg 0)) + 1)))) g 1 rfl hi rfl dX5_oneDay_77 ?_
      refine zv_nmS (wf := (mW β a)) (fun S3 eS3 => ?_)
      replace h := h S3 eS3
      exact zv_vret (pc := 78) g hR dX5_oneDay_78 ⟨_, rfl, rfl, h⟩
    · replace h := h.2 c2
      refine zv_aload_n (pc := 37) g dX5_oneDay_37 0 rfl rfl ?_
      refine zv_iload_n (pc := 38) g dX5_oneDay_38 1 rfl rfl ?_
      refine zv_iconst (pc := 39) g dX5_oneDay_39 (v := 0) (by decide) ?_
      refine zv_aload_n (pc := 40) g dX5_oneDay_40 0 rfl rfl ?_
      refine zv_iload_n (pc := 41) g dX5_oneDay_41 1 rfl rfl ?_
      refine zv_iconst (pc := 42) g dX5_oneDay_42 (v := 0) (by decide) ?_
      refine zv_cVp (pc := 43) g cw_X5_71 (ctX5_there h) (by decide) (by decide) zz_p0 (q := 0) rfl rfl rfl rfl rfl (Nat.le_of_ble_eq_true rfl) dX5_oneDay_43 (fun v4 h => ?_)
      refine zv_aload_n (pc := 46) g dX5_oneDay_46 0 rfl rfl ?_
      refine zv_get (pc := 47) g fl_X5_7 0 rfl rfl dX5_oneDay_47 ?_
      refine zv_iconst (pc := 50) g dX5_oneDay_50 (v := 1) (by decide) ?_
      obtain ⟨hi, h⟩ := h
      refine zv_iald (pc := 51) g 1 rfl hi dX5_oneDay_51 ?_
      refine zv_iadd (pc := 52) g dX5_oneDay_52 ?_
      refine zv_iconst (pc := 53) g dX5_oneDay_53 (v := 0) (by decide) ?_
      refine zv_bipush (pc := 54) g dX5_oneDay_54 (v := 99) (by decide) ?_
      refine zv_cSp (pc := 56) g cw_X5_126 (ctX5_held h) (by decide) (by decide) zz_pN rfl rfl (Nat.le_of_ble_eq_true rfl) dX5_oneDay_56 (fun v5 h => ?_)
      refine zv_cVv (pc := 59) g cw_X5_44 (ctX5_places h) (by decide) (by decide) zz_p0 (mW β a) (fun T => zz_p1 T) (q := 0) rfl rfl rfl rfl rfl (Nat.le_of_ble_eq_true rfl) dX5_oneDay_59 (fun S6 h => ?_)
      refine zv_iinc (pc := 62) 1 [(1, .int (x1 + 1)), (0, .ref (a 0))] g dX5_oneDay_62 1 rfl (by decide) (by decide) rfl ?_
      refine zv_goto (pc := 65) 31 g dX5_oneDay_65 rfl ?_
      refine zv_sub [1, 0] rfl ?_
      exact ih0 _ _ h
def wX5_oneDay_2 (post : (MSt) → Prop) : Nat → (MSt) → (Int32) → Prop
  | 0, _, _ => False
  | f0 + 1, S, x1 => vp_in 2 51 ∧ (((m_row S (Int32.toNatClampNeg 2)) ≤ x1 → ∃ f7 : Nat, wX5_oneDay_31 post f7 S 0) ∧ (¬ (m_row S (Int32.toNatClampNeg 2)) ≤ x1 → wX5_roomOfOne (fun v8 => wX5_goes (fun v9 S10 => wX5_oneDay_2 post f0 S10 (x1 + 1)) S x1 v8) S x1))
set_option maxRecDepth 100000 in
set_option maxHeartbeats 4000000 in
theorem lX5_oneDay_2 {β : zz_B} {Γ : zz_X} {a : Nat → Nat} {post : (MSt) → Prop} (g : zG β 2 Γ cX5_oneDay RX5 3 74) (hR : zR β Γ none (fun r w => ∃ T : MSt, r = none ∧ w = (mW β a) T ∧ post T)) : ∀ (f0 : Nat) (S : MSt) (x1 : Int32) , wX5_oneDay_2 post f0 S x1 → zV β 2 Γ ((mW β a) S) 2 [(0, .ref (a 0)), (1, .int x1)] [] := by
  intro f0
  induction f0 with
  | zero => intro S x1 h; exact h.elim
  | succ f0 ih0 =>
    intro S x1 h
    rw [wX5_oneDay_2] at h
    refine zv_iload_n (pc := 2) g dX5_oneDay_2 1 rfl rfl ?_
    refine zv_aload_n (pc := 3) g dX5_oneDay_3 0 rfl rfl ?_
    refine zv_get (pc := 4) g fl_X5_7 0 rfl rfl dX5_oneDay_4 ?_
    refine zv_iconst (pc := 7) g dX5_oneDay_7 (v := 2) (by decide) ?_
    obtain ⟨hi, h⟩ := h
    refine zv_iald (pc := 8) g 1 rfl hi dX5_oneDay_8 ?_
    refine zv_icmp_ge (pc := 9) 29 g dX5_oneDay_9 rfl (fun c1 => ?_) (fun c1 => ?_)
    · replace h := h.1 c1
      refine zv_iconst (pc := 29) g dX5_oneDay_29 (v := 0) (by decide) ?_
      refine zv_istore_n (pc := 30) 1 [(1, .int 0), (0, .ref (a 0))] g dX5_oneDay_30 rfl (by decide) rfl ?_
      obtain ⟨f7, h⟩ := h
      refine zv_sub [1, 0] rfl ?_
      exact lX5_oneDay_31 g hR f7 _ _ h
    · replace h := h.2 c1
      refine zv_aload_n (pc := 12) g dX5_oneDay_12 0 rfl rfl ?_
      refine zv_iload_n (pc := 13) g dX5_oneDay_13 1 rfl rfl ?_
      refine zv_aload_n (pc := 14) g dX5_oneDay_14 0 rfl rfl ?_
      refine zv_iload_n (pc := 15) g dX5_oneDay_15 1 rfl rfl ?_
      refine zv_cVp (pc := 16) g cw_X5_68 (ctX5_roomOfOne h) (by decide) (by decide) zz_p0 (q := 0) rfl rfl rfl rfl rfl (Nat.le_of_ble_eq_true rfl) dX5_oneDay_16 (fun v8 h => ?_)
      refine zv_cVi (pc := 19) g cw_X5_130 (ctX5_goes h) (by decide) (by decide) zz_p0 (mW β a) (fun T => zz_p1 T) (q := 0) rfl rfl rfl rfl rfl (Nat.le_of_ble_eq_true rfl) dX5_oneDay_19 (fun v9 S10 h => ?_)
      refine zv_pop (pc := 22) g dX5_oneDay_22 rfl ?_
      refine zv_iinc (pc := 23) 1 [(1, .int (x1 + 1)), (0, .ref (a 0))] g dX5_oneDay_23 1 rfl (by decide) (by decide) rfl ?_
      refine zv_goto (pc := 26) 2 g dX5_oneDay_26 rfl ?_
      refine zv_sub [1, 0] rfl ?_
      exact ih0 _ _ h
def wX5_oneDay (post : (MSt) → Prop) (S : MSt) : Prop := ∃ f11 : Nat, wX5_oneDay_2 post f11 S 0
set_option maxRecDepth 100000 in
set_option maxHeartbeats 4000000 in
theorem ctX5_oneDay {β : zz_B} {a : Nat → Nat} {post : (MSt) → Prop} {S : MSt} (h : wX5_oneDay post S) : zCv β yX5_oneDay cX5_oneDay 2 none 3 74 [.ref (a 0)] (mW β a) S post := by
  unfold wX5_oneDay at h
  unfold zCv
  refine zC.of (by decide) (Nat.le_of_ble_eq_true rfl) ?_
  intro Γ g hR
  show zV β 2 Γ ((mW β a) S) 0 [(0, .ref (a 0))] []
  refine zv_iconst (pc := 0) g dX5_oneDay_0 (v := 0) (by decide) ?_
  refine zv_istore_n (pc := 1) 1 [(1, .int 0), (0, .ref (a 0))] g dX5_oneDay_1 rfl (by decide) rfl ?_
  obtain ⟨f11, h⟩ := h
  refine zv_sub [1, 0] rfl ?_
  exact lX5_oneDay_2 g hR f11 _ _ h
def wX5_passes_2 (post : (MSt) → Prop) : Nat → (MSt) → (Int32) → (Int32) → Prop
  | 0, _, _, _ => False
  | f0 + 1, S, x1, x2 => (x1 ≤ x2 → post S) ∧ (¬ x1 ≤ x2 → wX5_oneDay (fun S2 => wX5_passes_2 post f0 S2 x1 (x2 + 1)) S)
set_option maxRecDepth 100000 in
set_option maxHeartbeats 4000000 in
theorem lX5_passes_2 {β : zz_B} {Γ : zz_X} {a : Nat → Nat} {post : (MSt) → Prop} (g : zG β 3 Γ cX5_passes RX5 4 95) (hR : zR β Γ none (fun r w => ∃ T : MSt, r = none ∧ w = (mW β a) T ∧ post T)) : ∀ (f0 : Nat) (S : MSt) (x1 : Int32) (x2 : Int32) , wX5_passes_2 post f0 S x1 x2 → zV β 3 Γ ((mW β a) S) 2 [(0, .ref (a 0)), (1, .int x1), (2, .int x2)] [] := by
  intro f0
  induction f0 with
  | zero => intro S x1 x2 h; exact h.elim
  | succ f0 ih0 =>
    intro S x1 x2 h
    rw [wX5_passes_2] at h
    refine zv_iload_n (pc := 2) g dX5_passes_2 2 rfl rfl ?_
    refine zv_iload_n (pc := 3) g dX5_passes_3 1 rfl rfl ?_
    refine zv_icmp_ge (pc := 4) 17 g dX5_passes_4 rfl (fun c1 => ?_) (fun c1 => ?_)
    · replace h := h.1 c1
      exact zv_vret (pc := 17) g hR dX5_passes_17 ⟨_, rfl, rfl, h⟩
    · replace h := h.2 c1
      refine zv_aload_n (pc := 7) g dX5_passes_7 0 rfl rfl ?_
      refine zv_cVv (pc := 8) g cw_X5_139 (ctX5_oneDay h) (by decide) (by decide) zz_p0 (mW β a) (fun T => zz_p1 T) (q := 0) rfl rfl rfl rfl rfl (Nat.le_of_ble_eq_true rfl) dX5_passes_8 (fun S2 h => ?_)
      refine zv_iinc (pc := 11) 1 [(2, .int (x2 + 1)), (0, .ref (a 0)), (1, .int x1)] g dX5_passes_11 2 rfl (by decide) (by decide) rfl ?_
      refine zv_goto (pc := 14) 2 g dX5_passes_14 rfl ?_
      refine zv_sub [1, 2, 0] rfl ?_
      exact ih0 _ _ _ h
def wX5_passes (post : (MSt) → Prop) (S : MSt) (x1 : Int32) : Prop := ∃ f3 : Nat, wX5_passes_2 post f3 S x1 0
set_option maxRecDepth 100000 in
set_option maxHeartbeats 4000000 in
theorem ctX5_passes {β : zz_B} {a : Nat → Nat} {post : (MSt) → Prop} {S : MSt} {x1 : Int32} (h : wX5_passes post S x1) : zCv β yX5_passes cX5_passes 3 none 4 95 [.ref (a 0), .int x1] (mW β a) S post := by
  unfold wX5_passes at h
  unfold zCv
  refine zC.of (by decide) (Nat.le_of_ble_eq_true rfl) ?_
  intro Γ g hR
  show zV β 3 Γ ((mW β a) S) 0 [(0, .ref (a 0)), (1, .int x1)] []
  refine zv_iconst (pc := 0) g dX5_passes_0 (v := 0) (by decide) ?_
  refine zv_istore_n (pc := 1) 2 [(2, .int 0), (0, .ref (a 0)), (1, .int x1)] g dX5_passes_1 rfl (by decide) rfl ?_
  obtain ⟨f3, h⟩ := h
  refine zv_sub [1, 2, 0] rfl ?_
  exact lX5_passes_2 g hR f3 _ _ _ h
def wX5_days (post : Int32 → (MSt) → Prop) (S : MSt) (x1 : Int32) : Prop := wX5_in (fun v1 => (¬ v1 = 0 → vp_in 0 51 ∧ ((((m_row S (Int32.toNatClampNeg 0)) + x1) ≤ (9999 : Int32) → wX5_passes (fun S4 => wX5_dustOfAll (fun v5 => post v5 S4) S4) S x1) ∧ (¬ ((m_row S (Int32.toNatClampNeg 0)) + x1) ≤ (9999 : Int32) → wX5_finds (fun v6 S7 => post v6 S7) S (-1000000005)))) ∧ (v1 = 0 → wX5_finds (fun v8 S9 => post v8 S9) S (-1000000001))) x1 1 60
set_option maxRecDepth 100000 in
set_option maxHeartbeats 4000000 in
theorem ctX5_days {β : zz_B} {a : Nat → Nat} {post : Int32 → (MSt) → Prop} {S : MSt} {x1 : Int32} (h : wX5_days post S x1) : zCi β yX5_days cX5_days 2 (some .int) 5 117 [.ref (a 0), .int x1] (mW β a) S post := by
  unfold wX5_days at h
  unfold zCi
  refine zC.of (by decide) (Nat.le_of_ble_eq_true rfl) ?_
  intro Γ g hR
  show zV β 2 Γ ((mW β a) S) 0 [(0, .ref (a 0)), (1, .int x1)] []
  refine zv_iload_n (pc := 0) g dX5_days_0 1 rfl rfl ?_
  refine zv_iconst (pc := 1) g dX5_days_1 (v := 1) (by decide) ?_
  refine zv_bipush (pc := 2) g dX5_days_2 (v := 60) (by decide) ?_
  refine zv_cSp (pc := 4) g cw_X5_49 (ctX5_in h) (by decide) (by decide) zz_pN rfl rfl (Nat.le_of_ble_eq_true rfl) dX5_days_4 (fun v1 h => ?_)
  refine zv_if_ne (pc := 7) 17 g dX5_days_7 rfl (fun c2 => ?_) (fun c2 => ?_)
  · replace h := h.1 c2
    refine zv_aload_n (pc := 17) g dX5_days_17 0 rfl rfl ?_
    refine zv_get (pc := 18) g fl_X5_7 0 rfl rfl dX5_days_18 ?_
    refine zv_iconst (pc := 21) g dX5_days_21 (v := 0) (by decide) ?_
    obtain ⟨hi, h⟩ := h
    refine zv_iald (pc := 22) g 1 rfl hi dX5_days_22 ?_
    refine zv_iload_n (pc := 23) g dX5_days_23 1 rfl rfl ?_
    refine zv_iadd (pc := 24) g dX5_days_24 ?_
    refine zv_sipush (pc := 25) g dX5_days_25 (v := 9999) (by decide) ?_
    refine zv_icmp_le (pc := 28) 38 g dX5_days_28 rfl (fun c3 => ?_) (fun c3 => ?_)
    · replace h := h.1 c3
      refine zv_aload_n (pc := 38) g dX5_days_38 0 rfl rfl ?_
      refine zv_iload_n (pc := 39) g dX5_days_39 1 rfl rfl ?_
      refine zv_cVv (pc := 40) g cw_X5_143 (ctX5_passes h) (by decide) (by decide) zz_p0 (mW β a) (fun T => zz_p1 T) (q := 0) rfl rfl rfl rfl rfl (Nat.le_of_ble_eq_true rfl) dX5_days_40 (fun S4 h => ?_)
      refine zv_aload_n (pc := 43) g dX5_days_43 0 rfl rfl ?_
      refine zv_cVp (pc := 44) g cw_X5_80 (ctX5_dustOfAll h) (by decide) (by decide) zz_p0 (q := 0) rfl rfl rfl rfl rfl (Nat.le_of_ble_eq_true rfl) dX5_days_44 (fun v5 h => ?_)
      exact zv_iret (pc := 47) g hR dX5_days_47 ⟨_, _, rfl, rfl, h⟩
    · replace h := h.2 c3
      refine zv_aload_n (pc := 31) g dX5_days_31 0 rfl rfl ?_
      refine zv_ldc (pc := 32) g wd_889 dX5_days_32 ?_
      refine zv_cVi (pc := 34) g cw_X5_57 (ctX5_finds h) (by decide) (by decide) zz_p0 (mW β a) (fun T => zz_p1 T) (q := 0) rfl rfl rfl rfl rfl (Nat.le_of_ble_eq_true rfl) dX5_days_34 (fun v6 S7 h => ?_)
      exact zv_iret (pc := 37) g hR dX5_days_37 ⟨_, _, rfl, rfl, h⟩
  · replace h := h.2 c2
    refine zv_aload_n (pc := 10) g dX5_days_10 0 rfl rfl ?_
    refine zv_ldc (pc := 11) g wd_744 dX5_days_11 ?_
    refine zv_cVi (pc := 13) g cw_X5_57 (ctX5_finds h) (by decide) (by decide) zz_p0 (mW β a) (fun T => zz_p1 T) (q := 0) rfl rfl rfl rfl rfl (Nat.le_of_ble_eq_true rfl) dX5_days_13 (fun v8 S9 h => ?_)
    exact zv_iret (pc := 16) g hR dX5_days_16 ⟨_, _, rfl, rfl, h⟩
def wX5_moveAll_tried_2 (post : (MSt) → Prop) : Nat → (MSt) → (Int32) → (Int32) → Prop
  | 0, _, _, _ => False
  | f0 + 1, S, x1, x3 => ((51 : Int32) ≤ x3 → post S) ∧ (¬ (51 : Int32) ≤ x3 → (x1 = 0 → vp_in x3 51 ∧ (vp_in x3 51 ∧ (∀ S3 : MSt, S3 = (m_row_s S (upd (m_row S) (Int32.toNatClampNeg x3) (m_tried S (Int32.toNatClampNeg x3)))) → (wX5_moveAll_tried_2 post f0 S3 x1 (x3 + 1))))) ∧ (¬ x1 = 0 → vp_in x3 51 ∧ (vp_in x3 51 ∧ (∀ S4 : MSt, S4 = (m_tried_s S (upd (m_tried S) (Int32.toNatClampNeg x3) (m_row S (Int32.toNatClampNeg x3)))) → (wX5_moveAll_tried_2 post f0 S4 x1 (x3 + 1))))))
set_option maxRecDepth 100000 in
set_option maxHeartbeats 4000000 in
theorem lX5_moveAll_tried_2 {β : zz_B} {Γ : zz_X} {a : Nat → Nat} {post : (MSt) → Prop} (g : zG β 4 Γ cX5_moveAll RX5 0 0) (hR : zR β Γ none (fun r w => ∃ T : MSt, r = none ∧ w = (mW β a) T ∧ post T)) : ∀ (f0 : Nat) (S : MSt) (x1 : Int32) (x3 : Int32) , wX5_moveAll_tried_2 post f0 S x1 x3 → zV β 4 Γ ((mW β a) S) 2 [(0, .ref (a 0)), (1, .int x1), (2, .ref (a 3)), (3, .int x3)] [] := by
  intro f0
  induction f0 with
  | zero => intro S x1 x3 h; exact h.elim
  | succ f0 ih0 =>
    intro S x1 x3 h
    rw [wX5_moveAll_tried_2] at h
    refine zv_iload_n (pc := 2) g dX5_moveAll_2 3 rfl rfl ?_
    refine zv_bipush (pc := 3) g dX5_moveAll_3 (v := 51) (by decide) ?_
    refine zv_icmp_ge (pc := 5) 39 g dX5_moveAll_5 rfl (fun c1 => ?_) (fun c1 => ?_)
    · replace h := h.1 c1
      exact zv_vret (pc := 39) g hR dX5_moveAll_39 ⟨_, rfl, rfl, h⟩
    · replace h := h.2 c1
      refine zv_iload_n (pc := 8) g dX5_moveAll_8 1 rfl rfl ?_
      refine zv_if_eq (pc := 9) 24 g dX5_moveAll_9 rfl (fun c2 => ?_) (fun c2 => ?_)
      · replace h := h.1 c2
        refine zv_aload_n (pc := 24) g dX5_moveAll_24 0 rfl rfl ?_
        refine zv_get (pc := 25) g fl_X5_7 0 rfl rfl dX5_moveAll_25 ?_
        refine zv_iload_n (pc := 28) g dX5_moveAll_28 3 rfl rfl ?_
        refine zv_aload_n (pc := 29) g dX5_moveAll_29 2 rfl rfl ?_
        refine zv_iload_n (pc := 30) g dX5_moveAll_30 3 rfl rfl ?_
        obtain ⟨hi, h⟩ := h
        refine zv_iald (pc := 31) g 3 rfl hi dX5_moveAll_31 ?_
        obtain ⟨hi, h⟩ := h
        refine zv_ials (pc := 32) ((mW β a) (m_row_s S (upd (m_row S) (Int32.toNatClampNeg x3) (m_tried S (Int32.toNatClampNeg x3))))) g 1 rfl hi rfl dX5_moveAll_32 ?_
        refine zv_nmS (wf := (mW β a)) (fun S3 eS3 => ?_)
        replace h := h S3 eS3
        refine zv_iinc (pc := 33) 1 [(3, .int (x3 + 1)), (0, .ref (a 0)), (1, .int x1), (2, .ref (a 3))] g dX5_moveAll_33 3 rfl (by decide) (by decide) rfl ?_
        refine zv_goto (pc := 36) 2 g dX5_moveAll_36 rfl ?_
        refine zv_sub [1, 2, 3, 0] rfl ?_
        exact ih0 _ _ _ h
      · replace h := h.2 c2
        refine zv_aload_n (pc := 12) g dX5_moveAll_12 2 rfl rfl ?_
        refine zv_iload_n (pc := 13) g dX5_moveAll_13 3 rfl rfl ?_
        refine zv_aload_n (pc := 14) g dX5_moveAll_14 0 rfl rfl ?_
        refine zv_get (pc := 15) g fl_X5_7 0 rfl rfl dX5_moveAll_15 ?_
        refine zv_iload_n (pc := 18) g dX5_moveAll_18 3 rfl rfl ?_
        obtain ⟨hi, h⟩ := h
        refine zv_iald (pc := 19) g 1 rfl hi dX5_moveAll_19 ?_
        obtain ⟨hi, h⟩ := h
        refine zv_ials (pc := 20) ((mW β a) (m_tried_s S (upd (m_tried S) (Int32.toNatClampNeg x3) (m_row S (Int32.toNatClampNeg x3))))) g 3 rfl hi rfl dX5_moveAll_20 ?_
        refine zv_nmS (wf := (mW β a)) (fun S4 eS4 => ?_)
        replace h := h S4 eS4
        refine zv_goto (pc := 21) 33 g dX5_moveAll_21 rfl ?_
        refine zv_iinc (pc := 33) 1 [(3, .int (x3 + 1)), (0, .ref (a 0)), (1, .int x1), (2, .ref (a 3))] g dX5_moveAll_33 3 rfl (by decide) (by decide) rfl ?_
        refine zv_goto (pc := 36) 2 g dX5_moveAll_36 rfl ?_
        refine zv_sub [1, 2, 3, 0] rfl ?_
        exact ih0 _ _ _ h
def wX5_moveAll_tried (post : (MSt) → Prop) (S : MSt) (x1 : Int32) : Prop := ∃ f5 : Nat, wX5_moveAll_tried_2 post f5 S x1 0
set_option maxRecDepth 100000 in
set_option maxHeartbeats 4000000 in
theorem ctX5_moveAll_tried {β : zz_B} {a : Nat → Nat} {post : (MSt) → Prop} {S : MSt} {x1 : Int32} (h : wX5_moveAll_tried post S x1) : zCv β yX5_moveAll cX5_moveAll 4 none 0 0 [.ref (a 0), .int x1, .ref (a 3)] (mW β a) S post := by
  unfold wX5_moveAll_tried at h
  unfold zCv
  refine zC.of (by decide) (Nat.le_of_ble_eq_true rfl) ?_
  intro Γ g hR
  show zV β 4 Γ ((mW β a) S) 0 [(0, .ref (a 0)), (1, .int x1), (2, .ref (a 3))] []
  refine zv_iconst (pc := 0) g dX5_moveAll_0 (v := 0) (by decide) ?_
  refine zv_istore_n (pc := 1) 3 [(3, .int 0), (0, .ref (a 0)), (1, .int x1), (2, .ref (a 3))] g dX5_moveAll_1 rfl (by decide) rfl ?_
  obtain ⟨f5, h⟩ := h
  refine zv_sub [1, 2, 3, 0] rfl ?_
  exact lX5_moveAll_tried_2 g hR f5 _ _ _ h
def wX5_moveAll_before1_2 (post : (MSt) → Prop) : Nat → (MSt) → (Int32) → (Int32) → Prop
  | 0, _, _, _ => False
  | f0 + 1, S, x1, x3 => ((51 : Int32) ≤ x3 → post S) ∧ (¬ (51 : Int32) ≤ x3 → (x1 = 0 → vp_in x3 51 ∧ (vp_in x3 51 ∧ (∀ S3 : MSt, S3 = (m_row_s S (upd (m_row S) (Int32.toNatClampNeg x3) (m_before1 S (Int32.toNatClampNeg x3)))) → (wX5_moveAll_before1_2 post f0 S3 x1 (x3 + 1))))) ∧ (¬ x1 = 0 → vp_in x3 51 ∧ (vp_in x3 51 ∧ (∀ S4 : MSt, S4 = (m_before1_s S (upd (m_before1 S) (Int32.toNatClampNeg x3) (m_row S (Int32.toNatClampNeg x3)))) → (wX5_moveAll_before1_2 post f0 S4 x1 (x3 + 1))))))
set_option maxRecDepth 100000 in
set_option maxHeartbeats 4000000 in
theorem lX5_moveAll_before1_2 {β : zz_B} {Γ : zz_X} {a : Nat → Nat} {post : (MSt) → Prop} (g : zG β 4 Γ cX5_moveAll RX5 0 0) (hR : zR β Γ none (fun r w => ∃ T : MSt, r = none ∧ w = (mW β a) T ∧ post T)) : ∀ (f0 : Nat) (S : MSt) (x1 : Int32) (x3 : Int32) , wX5_moveAll_before1_2 post f0 S x1 x3 → zV β 4 Γ ((mW β a) S) 2 [(0, .ref (a 0)), (1, .int x1), (2, .ref (a 4)), (3, .int x3)] [] := by
  intro f0
  induction f0 with
  | zero => intro S x1 x3 h; exact h.elim
  | succ f0 ih0 =>
    intro S x1 x3 h
    rw [wX5_moveAll_before1_2] at h
    refine zv_iload_n (pc := 2) g dX5_moveAll_2 3 rfl rfl ?_
    refine zv_bipush (pc := 3) g dX5_moveAll_3 (v := 51) (by decide) ?_
    refine zv_icmp_ge (pc := 5) 39 g dX5_moveAll_5 rfl (fun c1 => ?_) (fun c1 => ?_)
    · replace h := h.1 c1
      exact zv_vret (pc := 39) g hR dX5_moveAll_39 ⟨_, rfl, rfl, h⟩
    · replace h := h.2 c1
      refine zv_iload_n (pc := 8) g dX5_moveAll_8 1 rfl rfl ?_
      refine zv_if_eq (pc := 9) 24 g dX5_moveAll_9 rfl (fun c2 => ?_) (fun c2 => ?_)
      · replace h := h.1 c2
        refine zv_aload_n (pc := 24) g dX5_moveAll_24 0 rfl rfl ?_
        refine zv_get (pc := 25) g fl_X5_7 0 rfl rfl dX5_moveAll_25 ?_
        refine zv_iload_n (pc := 28) g dX5_moveAll_28 3 rfl rfl ?_
        refine zv_aload_n (pc := 29) g dX5_moveAll_29 2 rfl rfl ?_
        refine zv_iload_n (pc := 30) g dX5_moveAll_30 3 rfl rfl ?_
        obtain ⟨hi, h⟩ := h
        refine zv_iald (pc := 31) g 4 rfl hi dX5_moveAll_31 ?_
        obtain ⟨hi, h⟩ := h
        refine zv_ials (pc := 32) ((mW β a) (m_row_s S (upd (m_row S) (Int32.toNatClampNeg x3) (m_before1 S (Int32.toNatClampNeg x3))))) g 1 rfl hi rfl dX5_moveAll_32 ?_
        refine zv_nmS (wf := (mW β a)) (fun S3 eS3 => ?_)
        replace h := h S3 eS3
        refine zv_iinc (pc := 33) 1 [(3, .int (x3 + 1)), (0, .ref (a 0)), (1, .int x1), (2, .ref (a 4))] g dX5_moveAll_33 3 rfl (by decide) (by decide) rfl ?_
        refine zv_goto (pc := 36) 2 g dX5_moveAll_36 rfl ?_
        refine zv_sub [1, 2, 3, 0] rfl ?_
        exact ih0 _ _ _ h
      · replace h := h.2 c2
        refine zv_aload_n (pc := 12) g dX5_moveAll_12 2 rfl rfl ?_
        refine zv_iload_n (pc := 13) g dX5_moveAll_13 3 rfl rfl ?_
        refine zv_aload_n (pc := 14) g dX5_moveAll_14 0 rfl rfl ?_
        refine zv_get (pc := 15) g fl_X5_7 0 rfl rfl dX5_moveAll_15 ?_
        refine zv_iload_n (pc := 18) g dX5_moveAll_18 3 rfl rfl ?_
        obtain ⟨hi, h⟩ := h
        refine zv_iald (pc := 19) g 1 rfl hi dX5_moveAll_19 ?_
        obtain ⟨hi, h⟩ := h
        refine zv_ials (pc := 20) ((mW β a) (m_before1_s S (upd (m_before1 S) (Int32.toNatClampNeg x3) (m_row S (Int32.toNatClampNeg x3))))) g 4 rfl hi rfl dX5_moveAll_20 ?_
        refine zv_nmS (wf := (mW β a)) (fun S4 eS4 => ?_)
        replace h := h S4 eS4
        refine zv_goto (pc := 21) 33 g dX5_moveAll_21 rfl ?_
        refine zv_iinc (pc := 33) 1 [(3, .int (x3 + 1)), (0, .ref (a 0)), (1, .int x1), (2, .ref (a 4))] g dX5_moveAll_33 3 rfl (by decide) (by decide) rfl ?_
        refine zv_goto (pc := 36) 2 g dX5_moveAll_36 rfl ?_
        refine zv_sub [1, 2, 3, 0] rfl ?_
        exact ih0 _ _ _ h
def wX5_moveAll_before1 (post : (MSt) → Prop) (S : MSt) (x1 : Int32) : Prop := ∃ f5 : Nat, wX5_moveAll_before1_2 post f5 S x1 0
set_option maxRecDepth 100000 in
set_option maxHeartbeats 4000000 in
theorem ctX5_moveAll_before1 {β : zz_B} {a : Nat → Nat} {post : (MSt) → Prop} {S : MSt} {x1 : Int32} (h : wX5_moveAll_before1 post S x1) : zCv β yX5_moveAll cX5_moveAll 4 none 0 0 [.ref (a 0), .int x1, .ref (a 4)] (mW β a) S post := by
  unfold wX5_moveAll_before1 at h
  unfold zCv
  refine zC.of (by decide) (Nat.le_of_ble_eq_true rfl) ?_
  intro Γ g hR
  show zV β 4 Γ ((mW β a) S) 0 [(0, .ref (a 0)), (1, .int x1), (2, .ref (a 4))] []
  refine zv_iconst (pc := 0) g dX5_moveAll_0 (v := 0) (by decide) ?_
  refine zv_istore_n (pc := 1) 3 [(3, .int 0), (0, .ref (a 0)), (1, .int x1), (2, .ref (a 4))] g dX5_moveAll_1 rfl (by decide) rfl ?_
  obtain ⟨f5, h⟩ := h
  refine zv_sub [1, 2, 3, 0] rfl ?_
  exact lX5_moveAll_before1_2 g hR f5 _ _ _ h
def wX5_moveAll_before_2 (post : (MSt) → Prop) : Nat → (MSt) → (Int32) → (Int32) → Prop
  | 0, _, _, _ => False
  | f0 + 1, S, x1, x3 => ((51 : Int32) ≤ x3 → post S) ∧ (¬ (51 : Int32) ≤ x3 → (x1 = 0 → vp_in x3 51 ∧ (vp_in x3 51 ∧ (∀ S3 : MSt, S3 = (m_row_s S (upd (m_row S) (Int32.toNatClampNeg x3) (m_before S (Int32.toNatClampNeg x3)))) → (wX5_moveAll_before_2 post f0 S3 x1 (x3 + 1))))) ∧ (¬ x1 = 0 → vp_in x3 51 ∧ (vp_in x3 51 ∧ (∀ S4 : MSt, S4 = (m_before_s S (upd (m_before S) (Int32.toNatClampNeg x3) (m_row S (Int32.toNatClampNeg x3)))) → (wX5_moveAll_before_2 post f0 S4 x1 (x3 + 1))))))
set_option maxRecDepth 100000 in
set_option maxHeartbeats 4000000 in
theorem lX5_moveAll_before_2 {β : zz_B} {Γ : zz_X} {a : Nat → Nat} {post : (MSt) → Prop} (g : zG β 4 Γ cX5_moveAll RX5 0 0) (hR : zR β Γ none (fun r w => ∃ T : MSt, r = none ∧ w = (mW β a) T ∧ post T)) : ∀ (f0 : Nat) (S : MSt) (x1 : Int32) (x3 : Int32) , wX5_moveAll_before_2 post f0 S x1 x3 → zV β 4 Γ ((mW β a) S) 2 [(0, .ref (a 0)), (1, .int x1), (2, .ref (a 11)), (3, .int x3)] [] := by
  intro f0
  induction f0 with
  | zero => intro S x1 x3 h; exact h.elim
  | succ f0 ih0 =>
    intro S x1 x3 h
    rw [wX5_moveAll_before_2] at h
    refine zv_iload_n (pc := 2) g dX5_moveAll_2 3 rfl rfl ?_
    refine zv_bipush (pc := 3) g dX5_moveAll_3 (v := 51) (by decide) ?_
    refine zv_icmp_ge (pc := 5) 39 g dX5_moveAll_5 rfl (fun c1 => ?_) (fun c1 => ?_)
    · replace h := h.1 c1
      exact zv_vret (pc := 39) g hR dX5_moveAll_39 ⟨_, rfl, rfl, h⟩
    · replace h := h.2 c1
      refine zv_iload_n (pc := 8) g dX5_moveAll_8 1 rfl rfl ?_
      refine zv_if_eq (pc := 9) 24 g dX5_moveAll_9 rfl (fun c2 => ?_) (fun c2 => ?_)
      · replace h := h.1 c2
        refine zv_aload_n (pc := 24) g dX5_moveAll_24 0 rfl rfl ?_
        refine zv_get (pc := 25) g fl_X5_7 0 rfl rfl dX5_moveAll_25 ?_
        refine zv_iload_n (pc := 28) g dX5_moveAll_28 3 rfl rfl ?_
        refine zv_aload_n (pc := 29) g dX5_moveAll_29 2 rfl rfl ?_
        refine zv_iload_n (pc := 30) g dX5_moveAll_30 3 rfl rfl ?_
        obtain ⟨hi, h⟩ := h
        refine zv_iald (pc := 31) g 11 rfl hi dX5_moveAll_31 ?_
        obtain ⟨hi, h⟩ := h
        refine zv_ials (pc := 32) ((mW β a) (m_row_s S (upd (m_row S) (Int32.toNatClampNeg x3) (m_before S (Int32.toNatClampNeg x3))))) g 1 rfl hi rfl dX5_moveAll_32 ?_
        refine zv_nmS (wf := (mW β a)) (fun S3 eS3 => ?_)
        replace h := h S3 eS3
        refine zv_iinc (pc := 33) 1 [(3, .int (x3 + 1)), (0, .ref (a 0)), (1, .int x1), (2, .ref (a 11))] g dX5_moveAll_33 3 rfl (by decide) (by decide) rfl ?_
        refine zv_goto (pc := 36) 2 g dX5_moveAll_36 rfl ?_
        refine zv_sub [1, 2, 3, 0] rfl ?_
        exact ih0 _ _ _ h
      · replace h := h.2 c2
        refine zv_aload_n (pc := 12) g dX5_moveAll_12 2 rfl rfl ?_
        refine zv_iload_n (pc := 13) g dX5_moveAll_13 3 rfl rfl ?_
        refine zv_aload_n (pc := 14) g dX5_moveAll_14 0 rfl rfl ?_
        refine zv_get (pc := 15) g fl_X5_7 0 rfl rfl dX5_moveAll_15 ?_
        refine zv_iload_n (pc := 18) g dX5_moveAll_18 3 rfl rfl ?_
        obtain ⟨hi, h⟩ := h
        refine zv_iald (pc := 19) g 1 rfl hi dX5_moveAll_19 ?_
        obtain ⟨hi, h⟩ := h
        refine zv_ials (pc := 20) ((mW β a) (m_before_s S (upd (m_before S) (Int32.toNatClampNeg x3) (m_row S (Int32.toNatClampNeg x3))))) g 11 rfl hi rfl dX5_moveAll_20 ?_
        refine zv_nmS (wf := (mW β a)) (fun S4 eS4 => ?_)
        replace h := h S4 eS4
        refine zv_goto (pc := 21) 33 g dX5_moveAll_21 rfl ?_
        refine zv_iinc (pc := 33) 1 [(3, .int (x3 + 1)), (0, .ref (a 0)), (1, .int x1), (2, .ref (a 11))] g dX5_moveAll_33 3 rfl (by decide) (by decide) rfl ?_
        refine zv_goto (pc := 36) 2 g dX5_moveAll_36 rfl ?_
        refine zv_sub [1, 2, 3, 0] rfl ?_
        exact ih0 _ _ _ h
def wX5_moveAll_before (post : (MSt) → Prop) (S : MSt) (x1 : Int32) : Prop := ∃ f5 : Nat, wX5_moveAll_before_2 post f5 S x1 0
set_option maxRecDepth 100000 in
set_option maxHeartbeats 4000000 in
theorem ctX5_moveAll_before {β : zz_B} {a : Nat → Nat} {post : (MSt) → Prop} {S : MSt} {x1 : Int32} (h : wX5_moveAll_before post S x1) : zCv β yX5_moveAll cX5_moveAll 4 none 0 0 [.ref (a 0), .int x1, .ref (a 11)] (mW β a) S post := by
  unfold wX5_moveAll_before at h
  unfold zCv
  refine zC.of (by decide) (Nat.le_of_ble_eq_true rfl) ?_
  intro Γ g hR
  show zV β 4 Γ ((mW β a) S) 0 [(0, .ref (a 0)), (1, .int x1), (2, .ref (a 11))] []
  refine zv_iconst (pc := 0) g dX5_moveAll_0 (v := 0) (by decide) ?_
  refine zv_istore_n (pc := 1) 3 [(3, .int 0), (0, .ref (a 0)), (1, .int x1), (2, .ref (a 11))] g dX5_moveAll_1 rfl (by decide) rfl ?_
  obtain ⟨f5, h⟩ := h
  refine zv_sub [1, 2, 3, 0] rfl ?_
  exact lX5_moveAll_before_2 g hR f5 _ _ _ h
def wX5_moveAll_image_2 (post : (MSt) → Prop) : Nat → (MSt) → (Int32) → (Int32) → Prop
  | 0, _, _, _ => False
  | f0 + 1, S, x1, x3 => ((51 : Int32) ≤ x3 → post S) ∧ (¬ (51 : Int32) ≤ x3 → (x1 = 0 → vp_in x3 51 ∧ (vp_in x3 51 ∧ (∀ S3 : MSt, S3 = (m_row_s S (upd (m_row S) (Int32.toNatClampNeg x3) (m_image S (Int32.toNatClampNeg x3)))) → (wX5_moveAll_image_2 post f0 S3 x1 (x3 + 1))))) ∧ (¬ x1 = 0 → vp_in x3 51 ∧ (vp_in x3 51 ∧ (∀ S4 : MSt, S4 = (m_image_s S (upd (m_image S) (Int32.toNatClampNeg x3) (m_row S (Int32.toNatClampNeg x3)))) → (wX5_moveAll_image_2 post f0 S4 x1 (x3 + 1))))))
set_option maxRecDepth 100000 in
set_option maxHeartbeats 4000000 in
theorem lX5_moveAll_image_2 {β : zz_B} {Γ : zz_X} {a : Nat → Nat} {post : (MSt) → Prop} (g : zG β 4 Γ cX5_moveAll RX5 0 0) (hR : zR β Γ none (fun r w => ∃ T : MSt, r = none ∧ w = (mW β a) T ∧ post T)) : ∀ (f0 : Nat) (S : MSt) (x1 : Int32) (x3 : Int32) , wX5_moveAll_image_2 post f0 S x1 x3 → zV β 4 Γ ((mW β a) S) 2 [(0, .ref (a 0)), (1, .int x1), (2, .ref (a 10)), (3, .int x3)] [] := by
  intro f0
  induction f0 with
  | zero => intro S x1 x3 h; exact h.elim
  | succ f0 ih0 =>
    intro S x1 x3 h
    rw [wX5_moveAll_image_2] at h
    refine zv_iload_n (pc := 2) g dX5_moveAll_2 3 rfl rfl ?_
    refine zv_bipush (pc := 3) g dX5_moveAll_3 (v := 51) (by decide) ?_
    refine zv_icmp_ge (pc := 5) 39 g dX5_moveAll_5 rfl (fun c1 => ?_) (fun c1 => ?_)
    · replace h := h.1 c1
      exact zv_vret (pc := 39) g hR dX5_moveAll_39 ⟨_, rfl, rfl, h⟩
    · replace h := h.2 c1
      refine zv_iload_n (pc := 8) g dX5_moveAll_8 1 rfl rfl ?_
      refine zv_if_eq (pc := 9) 24 g dX5_moveAll_9 rfl (fun c2 => ?_) (fun c2 => ?_)
      · replace h := h.1 c2
        refine zv_aload_n (pc := 24) g dX5_moveAll_24 0 rfl rfl ?_
        refine zv_get (pc := 25) g fl_X5_7 0 rfl rfl dX5_moveAll_25 ?_
        refine zv_iload_n (pc := 28) g dX5_moveAll_28 3 rfl rfl ?_
        refine zv_aload_n (pc := 29) g dX5_moveAll_29 2 rfl rfl ?_
        refine zv_iload_n (pc := 30) g dX5_moveAll_30 3 rfl rfl ?_
        obtain ⟨hi, h⟩ := h
        refine zv_iald (pc := 31) g 10 rfl hi dX5_moveAll_31 ?_
        obtain ⟨hi, h⟩ := h
        refine zv_ials (pc := 32) ((mW β a) (m_row_s S (upd (m_row S) (Int32.toNatClampNeg x3) (m_image S (Int32.toNatClampNeg x3))))) g 1 rfl hi rfl dX5_moveAll_32 ?_
        refine zv_nmS (wf := (mW β a)) (fun S3 eS3 => ?_)
        replace h := h S3 eS3
        refine zv_iinc (pc := 33) 1 [(3, .int (x3 + 1)), (0, .ref (a 0)), (1, .int x1), (2, .ref (a 10))] g dX5_moveAll_33 3 rfl (by decide) (by decide) rfl ?_
        refine zv_goto (pc := 36) 2 g dX5_moveAll_36 rfl ?_
        refine zv_sub [1, 2, 3, 0] rfl ?_
        exact ih0 _ _ _ h
      · replace h := h.2 c2
        refine zv_aload_n (pc := 12) g dX5_moveAll_12 2 rfl rfl ?_
        refine zv_iload_n (pc := 13) g dX5_moveAll_13 3 rfl rfl ?_
        refine zv_aload_n (pc := 14) g dX5_moveAll_14 0 rfl rfl ?_
        refine zv_get (pc := 15) g fl_X5_7 0 rfl rfl dX5_moveAll_15 ?_
        refine zv_iload_n (pc := 18) g dX5_moveAll_18 3 rfl rfl ?_
        obtain ⟨hi, h⟩ := h
        refine zv_iald (pc := 19) g 1 rfl hi dX5_moveAll_19 ?_
        obtain ⟨hi, h⟩ := h
        refine zv_ials (pc := 20) ((mW β a) (m_image_s S (upd (m_image S) (Int32.toNatClampNeg x3) (m_row S (Int32.toNatClampNeg x3))))) g 10 rfl hi rfl dX5_moveAll_20 ?_
        refine zv_nmS (wf := (mW β a)) (fun S4 eS4 => ?_)
        replace h := h S4 eS4
        refine zv_goto (pc := 21) 33 g dX5_moveAll_21 rfl ?_
        refine zv_iinc (pc := 33) 1 [(3, .int (x3 + 1)), (0, .ref (a 0)), (1, .int x1), (2, .ref (a 10))] g dX5_moveAll_33 3 rfl (by decide) (by decide) rfl ?_
        refine zv_goto (pc := 36) 2 g dX5_moveAll_36 rfl ?_
        refine zv_sub [1, 2, 3, 0] rfl ?_
        exact ih0 _ _ _ h
def wX5_moveAll_image (post : (MSt) → Prop) (S : MSt) (x1 : Int32) : Prop := ∃ f5 : Nat, wX5_moveAll_image_2 post f5 S x1 0
set_option maxRecDepth 100000 in
set_option maxHeartbeats 4000000 in
theorem ctX5_moveAll_image {β : zz_B} {a : Nat → Nat} {post : (MSt) → Prop} {S : MSt} {x1 : Int32} (h : wX5_moveAll_image post S x1) : zCv β yX5_moveAll cX5_moveAll 4 none 0 0 [.ref (a 0), .int x1, .ref (a 10)] (mW β a) S post := by
  unfold wX5_moveAll_image at h
  unfold zCv
  refine zC.of (by decide) (Nat.le_of_ble_eq_true rfl) ?_
  intro Γ g hR
  show zV β 4 Γ ((mW β a) S) 0 [(0, .ref (a 0)), (1, .int x1), (2, .ref (a 10))] []
  refine zv_iconst (pc := 0) g dX5_moveAll_0 (v := 0) (by decide) ?_
  refine zv_istore_n (pc := 1) 3 [(3, .int 0), (0, .ref (a 0)), (1, .int x1), (2, .ref (a 10))] g dX5_moveAll_1 rfl (by decide) rfl ?_
  obtain ⟨f5, h⟩ := h
  refine zv_sub [1, 2, 3, 0] rfl ?_
  exact lX5_moveAll_image_2 g hR f5 _ _ _ h
def wX5_behind (post : Int32 → (MSt) → Prop) (S : MSt) (x1 : Int32) (x2 : Int32) : Prop := wX5_moveAll_tried (fun S1 => wX5_passes (fun S2 => vp_in x2 51 ∧ (∀ y3 : Int32, y3 = (m_row S2 (Int32.toNatClampNeg x2)) → (wX5_moveAll_tried (fun S4 => post y3 S4) S2 0))) S1 x1) S 1
set_option maxRecDepth 100000 in
set_option maxHeartbeats 4000000 in
theorem ctX5_behind {β : zz_B} {a : Nat → Nat} {post : Int32 → (MSt) → Prop} {S : MSt} {x1 : Int32} {x2 : Int32} (h : wX5_behind post S x1 x2) : zCi β yX5_behind cX5_behind 4 (some .int) 5 117 [.ref (a 0), .int x1, .int x2] (mW β a) S post := by
  unfold wX5_behind at h
  unfold zCi
  refine zC.of (by decide) (Nat.le_of_ble_eq_true rfl) ?_
  intro Γ g hR
  show zV β 4 Γ ((mW β a) S) 0 [(0, .ref (a 0)), (1, .int x1), (2, .int x2)] []
  refine zv_aload_n (pc := 0) g dX5_behind_0 0 rfl rfl ?_
  refine zv_iconst (pc := 1) g dX5_behind_1 (v := 1) (by decide) ?_
  refine zv_aload_n (pc := 2) g dX5_behind_2 0 rfl rfl ?_
  refine zv_get (pc := 3) g fl_X5_16 0 rfl rfl dX5_behind_3 ?_
  refine zv_cVv (pc := 6) g cw_X5_147 (ctX5_moveAll_tried h) (by decide) (by decide) zz_p0 (mW β a) (fun T => zz_p1 T) (q := 0) rfl rfl rfl rfl rfl (Nat.le_of_ble_eq_true rfl) dX5_behind_6 (fun S1 h => ?_)
  refine zv_aload_n (pc := 9) g dX5_behind_9 0 rfl rfl ?_
  refine zv_iload_n (pc := 10) g dX5_behind_10 1 rfl rfl ?_
  refine zv_cVv (pc := 11) g cw_X5_143 (ctX5_passes h) (by decide) (by decide) zz_p0 (mW β a) (fun T => zz_p1 T) (q := 0) rfl rfl rfl rfl rfl (Nat.le_of_ble_eq_true rfl) dX5_behind_11 (fun S2 h => ?_)
  refine zv_aload_n (pc := 14) g dX5_behind_14 0 rfl rfl ?_
  refine zv_get (pc := 15) g fl_X5_7 0 rfl rfl dX5_behind_15 ?_
  refine zv_iload_n (pc := 18) g dX5_behind_18 2 rfl rfl ?_
  obtain ⟨hi, h⟩ := h
  refine zv_iald (pc := 19) g 1 rfl hi dX5_behind_19 ?_
  refine zv_topi (fun y3 ey3 => ?_)
  replace h := h y3 ey3
  refine zv_istore_n (pc := 20) 3 [(3, .int y3), (0, .ref (a 0)), (1, .int x1), (2, .int x2)] g dX5_behind_20 rfl (by decide) rfl ?_
  refine zv_aload_n (pc := 21) g dX5_behind_21 1 rfl rfl ?_
  refine zv_iconst (pc := 22) g dX5_behind_22 (v := 0) (by decide) ?_
  refine zv_aload_n (pc := 23) g dX5_behind_23 1 rfl rfl ?_
  refine zv_get (pc := 24) g fl_X5_16 0 rfl rfl dX5_behind_24 ?_
  refine zv_cVv (pc := 27) g cw_X5_147 (ctX5_moveAll_tried h) (by decide) (by decide) zz_p0 (mW β a) (fun T => zz_p1 T) (q := 0) rfl rfl rfl rfl rfl (Nat.le_of_ble_eq_true rfl) dX5_behind_27 (fun S4 h => ?_)
  refine zv_iload_n (pc := 30) g dX5_behind_30 0 rfl rfl ?_
  exact zv_iret (pc := 31) g hR dX5_behind_31 ⟨_, _, rfl, rfl, h⟩
def wX5_on (post : Int32 → (MSt) → Prop) (S : MSt) (x1 : Int32) (x2 : Int32) (x3 : Int32) : Prop := wX5_isRoom (fun v1 => (v1 = 0 → wX5_finds (fun v3 S4 => post v3 S4) S (-1000000001)) ∧ (¬ v1 = 0 → wX5_in (fun v5 => (v5 = 0 → wX5_finds (fun v7 S8 => post v7 S8) S (-1000000001)) ∧ (¬ v5 = 0 → wX5_in (fun v9 => (v9 = 0 → wX5_finds (fun v11 S12 => post v11 S12) S (-1000000001)) ∧ (¬ v9 = 0 → wX5_behind (fun v13 S14 => post v13 S14) S x2 ((3 + (2 * x1)) + x3))) x3 0 1)) x2 0 100)) x1
set_option maxRecDepth 100000 in
set_option maxHeartbeats 4000000 in
theorem ctX5_on {β : zz_B} {a : Nat → Nat} {post : Int32 → (MSt) → Prop} {S : MSt} {x1 : Int32} {x2 : Int32} {x3 : Int32} (h : wX5_on post S x1 x2 x3) : zCi β yX5_on cX5_on 4 (some .int) 6 140 [.ref (a 0), .int x1, .int x2, .int x3] (mW β a) S post := by
  unfold wX5_on at h
  unfold zCi
  refine zC.of (by decide) (Nat.le_of_ble_eq_true rfl) ?_
  intro Γ g hR
  show zV β 4 Γ ((mW β a) S) 0 [(0, .ref (a 0)), (1, .int x1), (2, .int x2), (3, .int x3)] []
  refine zv_iload_n (pc := 0) g dX5_on_0 1 rfl rfl ?_
  refine zv_cSp (pc := 1) g cw_X5_61 (ctX5_isRoom h) (by decide) (by decide) zz_pN rfl rfl (Nat.le_of_ble_eq_true rfl) dX5_on_1 (fun v1 h => ?_)
  refine zv_if_eq (pc := 4) 41 g dX5_on_4 rfl (fun c2 => ?_) (fun c2 => ?_)
  · replace h := h.1 c2
    refine zv_aload_n (pc := 41) g dX5_on_41 0 rfl rfl ?_
    refine zv_ldc (pc := 42) g wd_744 dX5_on_42 ?_
    refine zv_cVi (pc := 44) g cw_X5_57 (ctX5_finds h) (by decide) (by decide) zz_p0 (mW β a) (fun T => zz_p1 T) (q := 0) rfl rfl rfl rfl rfl (Nat.le_of_ble_eq_true rfl) dX5_on_44 (fun v3 S4 h => ?_)
    exact zv_iret (pc := 47) g hR dX5_on_47 ⟨_, _, rfl, rfl, h⟩
  · replace h := h.2 c2
    refine zv_iload_n (pc := 7) g dX5_on_7 2 rfl rfl ?_
    refine zv_iconst (pc := 8) g dX5_on_8 (v := 0) (by decide) ?_
    refine zv_bipush (pc := 9) g dX5_on_9 (v := 100) (by decide) ?_
    refine zv_cSp (pc := 11) g cw_X5_49 (ctX5_in h) (by decide) (by decide) zz_pN rfl rfl (Nat.le_of_ble_eq_true rfl) dX5_on_11 (fun v5 h => ?_)
    refine zv_if_eq (pc := 14) 41 g dX5_on_14 rfl (fun c6 => ?_) (fun c6 => ?_)
    · replace h := h.1 c6
      refine zv_aload_n (pc := 41) g dX5_on_41 0 rfl rfl ?_
      refine zv_ldc (pc := 42) g wd_744 dX5_on_42 ?_
      refine zv_cVi (pc := 44) g cw_X5_57 (ctX5_finds h) (by decide) (by decide) zz_p0 (mW β a) (fun T => zz_p1 T) (q := 0) rfl rfl rfl rfl rfl (Nat.le_of_ble_eq_true rfl) dX5_on_44 (fun v7 S8 h => ?_)
      exact zv_iret (pc := 47) g hR dX5_on_47 ⟨_, _, rfl, rfl, h⟩
    · replace h := h.2 c6
      refine zv_iload_n (pc := 17) g dX5_on_17 3 rfl rfl ?_
      refine zv_iconst (pc := 18) g dX5_on_18 (v := 0) (by decide) ?_
      refine zv_iconst (pc := 19) g dX5_on_19 (v := 1) (by decide) ?_
      refine zv_cSp (pc := 20) g cw_X5_49 (ctX5_in h) (by decide) (by decide) zz_pN rfl rfl (Nat.le_of_ble_eq_true rfl) dX5_on_20 (fun v9 h => ?_)
      refine zv_if_eq (pc := 23) 41 g dX5_on_23 rfl (fun c10 => ?_) (fun c10 => ?_)
      · replace h := h.1 c10
        refine zv_aload_n (pc := 41) g dX5_on_41 0 rfl rfl ?_
        refine zv_ldc (pc := 42) g wd_744 dX5_on_42 ?_
        refine zv_cVi (pc := 44) g cw_X5_57 (ctX5_finds h) (by decide) (by decide) zz_p0 (mW β a) (fun T => zz_p1 T) (q := 0) rfl rfl rfl rfl rfl (Nat.le_of_ble_eq_true rfl) dX5_on_44 (fun v11 S12 h => ?_)
        exact zv_iret (pc := 47) g hR dX5_on_47 ⟨_, _, rfl, rfl, h⟩
      · replace h := h.2 c10
        refine zv_aload_n (pc := 26) g dX5_on_26 0 rfl rfl ?_
        refine zv_iload_n (pc := 27) g dX5_on_27 2 rfl rfl ?_
        refine zv_iconst (pc := 28) g dX5_on_28 (v := 3) (by decide) ?_
        refine zv_iconst (pc := 29) g dX5_on_29 (v := 2) (by decide) ?_
        refine zv_iload_n (pc := 30) g dX5_on_30 1 rfl rfl ?_
        refine zv_imul (pc := 31) g dX5_on_31 ?_
        refine zv_iadd (pc := 32) g dX5_on_32 ?_
        refine zv_iload_n (pc := 33) g dX5_on_33 3 rfl rfl ?_
        refine zv_iadd (pc := 34) g dX5_on_34 ?_
        refine zv_cVi (pc := 35) g cw_X5_151 (ctX5_behind h) (by decide) (by decide) zz_p0 (mW β a) (fun T => zz_p1 T) (q := 0) rfl rfl rfl rfl rfl (Nat.le_of_ble_eq_true rfl) dX5_on_35 (fun v13 S14 h => ?_)
        refine zv_goto (pc := 38) 47 g dX5_on_38 rfl ?_
        exact zv_iret (pc := 47) g hR dX5_on_47 ⟨_, _, rfl, rfl, h⟩
def wX5_then (post : Int32 → (MSt) → Prop) (S : MSt) (x1 : Int32) (x2 : Int32) (x3 : Int32) : Prop := wX5_isOne (fun v1 => (v1 = 0 → wX5_finds (fun v3 S4 => post v3 S4) S (-1000000001)) ∧ (¬ v1 = 0 → wX5_in (fun v5 => (v5 = 0 → wX5_finds (fun v7 S8 => post v7 S8) S (-1000000001)) ∧ (¬ v5 = 0 → wX5_in (fun v9 => (v9 = 0 → wX5_finds (fun v11 S12 => post v11 S12) S (-1000000001)) ∧ (¬ v9 = 0 → wX5_behind (fun v13 S14 => post v13 S14) S x2 (((19 + (4 * x1)) + 1) + x3))) x3 0 1)) x2 0 100)) S x1
set_option maxRecDepth 100000 in
set_option maxHeartbeats 4000000 in
theorem ctX5_then {β : zz_B} {a : Nat → Nat} {post : Int32 → (MSt) → Prop} {S : MSt} {x1 : Int32} {x2 : Int32} {x3 : Int32} (h : wX5_then post S x1 x2 x3) : zCi β yX5_then cX5_then 4 (some .int) 6 140 [.ref (a 0), .int x1, .int x2, .int x3] (mW β a) S post := by
  unfold wX5_then at h
  unfold zCi
  refine zC.of (by decide) (Nat.le_of_ble_eq_true rfl) ?_
  intro Γ g hR
  show zV β 4 Γ ((mW β a) S) 0 [(0, .ref (a 0)), (1, .int x1), (2, .int x2), (3, .int x3)] []
  refine zv_aload_n (pc := 0) g dX5_then_0 0 rfl rfl ?_
  refine zv_iload_n (pc := 1) g dX5_then_1 1 rfl rfl ?_
  refine zv_cVp (pc := 2) g cw_X5_103 (ctX5_isOne h) (by decide) (by decide) zz_p0 (q := 0) rfl rfl rfl rfl rfl (Nat.le_of_ble_eq_true rfl) dX5_then_2 (fun v1 h => ?_)
  refine zv_if_eq (pc := 5) 45 g dX5_then_5 rfl (fun c2 => ?_) (fun c2 => ?_)
  · replace h := h.1 c2
    refine zv_aload_n (pc := 45) g dX5_then_45 0 rfl rfl ?_
    refine zv_ldc (pc := 46) g wd_744 dX5_then_46 ?_
    refine zv_cVi (pc := 48) g cw_X5_57 (ctX5_finds h) (by decide) (by decide) zz_p0 (mW β a) (fun T => zz_p1 T) (q := 0) rfl rfl rfl rfl rfl (Nat.le_of_ble_eq_true rfl) dX5_then_48 (fun v3 S4 h => ?_)
    exact zv_iret (pc := 51) g hR dX5_then_51 ⟨_, _, rfl, rfl, h⟩
  · replace h := h.2 c2
    refine zv_iload_n (pc := 8) g dX5_then_8 2 rfl rfl ?_
    refine zv_iconst (pc := 9) g dX5_then_9 (v := 0) (by decide) ?_
    refine zv_bipush (pc := 10) g dX5_then_10 (v := 100) (by decide) ?_
    refine zv_cSp (pc := 12) g cw_X5_49 (ctX5_in h) (by decide) (by decide) zz_pN rfl rfl (Nat.le_of_ble_eq_true rfl) dX5_then_12 (fun v5 h => ?_)
    refine zv_if_eq (pc := 15) 45 g dX5_then_15 rfl (fun c6 => ?_) (fun c6 => ?_)
    · replace h := h.1 c6
      refine zv_aload_n (pc := 45) g dX5_then_45 0 rfl rfl ?_
      refine zv_ldc (pc := 46) g wd_744 dX5_then_46 ?_
      refine zv_cVi (pc := 48) g cw_X5_57 (ctX5_finds h) (by decide) (by decide) zz_p0 (mW β a) (fun T => zz_p1 T) (q := 0) rfl rfl rfl rfl rfl (Nat.le_of_ble_eq_true rfl) dX5_then_48 (fun v7 S8 h => ?_)
      exact zv_iret (pc := 51) g hR dX5_then_51 ⟨_, _, rfl, rfl, h⟩
    · replace h := h.2 c6
      refine zv_iload_n (pc := 18) g dX5_then_18 3 rfl rfl ?_
      refine zv_iconst (pc := 19) g dX5_then_19 (v := 0) (by decide) ?_
      refine zv_iconst (pc := 20) g dX5_then_20 (v := 1) (by decide) ?_
      refine zv_cSp (pc := 21) g cw_X5_49 (ctX5_in h) (by decide) (by decide) zz_pN rfl rfl (Nat.le_of_ble_eq_true rfl) dX5_then_21 (fun v9 h => ?_)
      refine zv_if_eq (pc := 24) 45 g dX5_then_24 rfl (fun c10 => ?_) (fun c10 => ?_)
      · replace h := h.1 c10
        refine zv_aload_n (pc := 45) g dX5_then_45 0 rfl rfl ?_
        refine zv_ldc (pc := 46) g wd_744 dX5_then_46 ?_
        refine zv_cVi (pc := 48) g cw_X5_57 (ctX5_finds h) (by decide) (by decide) zz_p0 (mW β a) (fun T => zz_p1 T) (q := 0) rfl rfl rfl rfl rfl (Nat.le_of_ble_eq_true rfl) dX5_then_48 (fun v11 S12 h => ?_)
        exact zv_iret (pc := 51) g hR dX5_then_51 ⟨_, _, rfl, rfl, h⟩
      · replace h := h.2 c10
        refine zv_aload_n (pc := 27) g dX5_then_27 0 rfl rfl ?_
        refine zv_iload_n (pc := 28) g dX5_then_28 2 rfl rfl ?_
        refine zv_bipush (pc := 29) g dX5_then_29 (v := 19) (by decide) ?_
        refine zv_iconst (pc := 31) g dX5_then_31 (v := 4) (by decide) ?_
        refine zv_iload_n (pc := 32) g dX5_then_32 1 rfl rfl ?_
        refine zv_imul (pc := 33) g dX5_then_33 ?_
        refine zv_iadd (pc := 34) g dX5_then_34 ?_
        refine zv_iconst (pc := 35) g dX5_then_35 (v := 1) (by decide) ?_
        refine zv_iadd (pc := 36) g dX5_then_36 ?_
        refine zv_iload_n (pc := 37) g dX5_then_37 3 rfl rfl ?_
        refine zv_iadd (pc := 38) g dX5_then_38 ?_
        refine zv_cVi (pc := 39) g cw_X5_151 (ctX5_behind h) (by decide) (by decide) zz_p0 (mW β a) (fun T => zz_p1 T) (q := 0) rfl rfl rfl rfl rfl (Nat.le_of_ble_eq_true rfl) dX5_then_39 (fun v13 S14 h => ?_)
        refine zv_goto (pc := 42) 51 g dX5_then_42 rfl ?_
        exact zv_iret (pc := 51) g hR dX5_then_51 ⟨_, _, rfl, rfl, h⟩
def wX5_clean_50 (post : Int32 → (MSt) → Prop) (S : MSt) (x2 : Int32) : Prop := wX5_moveAll_tried (fun S5 => (x2 ≤ (100 : Int32) → post x2 S5) ∧ (¬ x2 ≤ (100 : Int32) → wX5_finds (fun v7 S8 => post v7 S8) S5 (-1000000004))) S 0
set_option maxRecDepth 100000 in
set_option maxHeartbeats 4000000 in
theorem lX5_clean_50 {β : zz_B} {Γ : zz_X} {a : Nat → Nat} {post : Int32 → (MSt) → Prop} (g : zG β 3 Γ cX5_clean RX5 4 95) (hR : zR β Γ (some .int) (fun r w => ∃ (v : Int32) (T : MSt), r = some (.int v) ∧ w = (mW β a) T ∧ post v T)) (S : MSt) (x2 : Int32) (h : wX5_clean_50 post S x2) : zV β 3 Γ ((mW β a) S) 50 [(0, .ref (a 0)), (2, .int x2)] [] := by
  unfold wX5_clean_50 at h
  refine zv_aload_n (pc := 50) g dX5_clean_50 0 rfl rfl ?_
  refine zv_iconst (pc := 51) g dX5_clean_51 (v := 0) (by decide) ?_
  refine zv_aload_n (pc := 52) g dX5_clean_52 0 rfl rfl ?_
  refine zv_get (pc := 53) g fl_X5_16 0 rfl rfl dX5_clean_53 ?_
  refine zv_cVv (pc := 56) g cw_X5_147 (ctX5_moveAll_tried h) (by decide) (by decide) zz_p0 (mW β a) (fun T => zz_p1 T) (q := 0) rfl rfl rfl rfl rfl (Nat.le_of_ble_eq_true rfl) dX5_clean_56 (fun S5 h => ?_)
  refine zv_iload_n (pc := 59) g dX5_clean_59 1 rfl rfl ?_
  refine zv_bipush (pc := 60) g dX5_clean_60 (v := 100) (by decide) ?_
  refine zv_icmp_le (pc := 62) 74 g dX5_clean_62 rfl (fun c6 => ?_) (fun c6 => ?_)
  · replace h := h.1 c6
    refine zv_iload_n (pc := 74) g dX5_clean_74 1 rfl rfl ?_
    exact zv_iret (pc := 75) g hR dX5_clean_75 ⟨_, _, rfl, rfl, h⟩
  · replace h := h.2 c6
    refine zv_aload_n (pc := 65) g dX5_clean_65 0 rfl rfl ?_
    refine zv_ldc (pc := 66) g wd_918 dX5_clean_66 ?_
    refine zv_cVi (pc := 68) g cw_X5_57 (ctX5_finds h) (by decide) (by decide) zz_p0 (mW β a) (fun T => zz_p1 T) (q := 0) rfl rfl rfl rfl rfl (Nat.le_of_ble_eq_true rfl) dX5_clean_68 (fun v7 S8 h => ?_)
    refine zv_goto (pc := 71) 75 g dX5_clean_71 rfl ?_
    exact zv_iret (pc := 75) g hR dX5_clean_75 ⟨_, _, rfl, rfl, h⟩
def wX5_clean_25 (post : Int32 → (MSt) → Prop) : Nat → (MSt) → (Int32) → (Int32) → Prop
  | 0, _, _, _ => False
  | f0 + 1, S, x1, x2 => ((100 : Int32) < x2 → wX5_clean_50 post S x2) ∧ (¬ (100 : Int32) < x2 → wX5_there (fun v9 => (v9 ≤ 0 → wX5_clean_50 post S x2) ∧ (¬ v9 ≤ 0 → wX5_oneDay (fun S11 => wX5_clean_25 post f0 S11 x1 (x2 + 1)) S)) S x1 0)
set_option maxRecDepth 100000 in
set_option maxHeartbeats 4000000 in
theorem lX5_clean_25 {β : zz_B} {Γ : zz_X} {a : Nat → Nat} {post : Int32 → (MSt) → Prop} (g : zG β 3 Γ cX5_clean RX5 4 95) (hR : zR β Γ (some .int) (fun r w => ∃ (v : Int32) (T : MSt), r = some (.int v) ∧ w = (mW β a) T ∧ post v T)) : ∀ (f0 : Nat) (S : MSt) (x1 : Int32) (x2 : Int32) , wX5_clean_25 post f0 S x1 x2 → zV β 3 Γ ((mW β a) S) 25 [(0, .ref (a 0)), (1, .int x1), (2, .int x2)] [] := by
  intro f0
  induction f0 with
  | zero => intro S x1 x2 h; exact h.elim
  | succ f0 ih0 =>
    intro S x1 x2 h
    rw [wX5_clean_25] at h
    refine zv_iload_n (pc := 25) g dX5_clean_25 2 rfl rfl ?_
    refine zv_bipush (pc := 26) g dX5_clean_26 (v := 100) (by decide) ?_
    refine zv_icmp_gt (pc := 28) 50 g dX5_clean_28 rfl (fun c4 => ?_) (fun c4 => ?_)
    · replace h := h.1 c4
      refine zv_sub [0, 2] rfl ?_
      exact lX5_clean_50 g hR _ _ h
    · replace h := h.2 c4
      refine zv_aload_n (pc := 31) g dX5_clean_31 0 rfl rfl ?_
      refine zv_iload_n (pc := 32) g dX5_clean_32 1 rfl rfl ?_
      refine zv_iconst (pc := 33) g dX5_clean_33 (v := 0) (by decide) ?_
      refine zv_cVp (pc := 34) g cw_X5_71 (ctX5_there h) (by decide) (by decide) zz_p0 (q := 0) rfl rfl rfl rfl rfl (Nat.le_of_ble_eq_true rfl) dX5_clean_34 (fun v9 h => ?_)
      refine zv_if_le (pc := 37) 50 g dX5_clean_37 rfl (fun c10 => ?_) (fun c10 => ?_)
      · replace h := h.1 c10
        refine zv_sub [0, 2] rfl ?_
        exact lX5_clean_50 g hR _ _ h
      · replace h := h.2 c10
        refine zv_aload_n (pc := 40) g dX5_clean_40 0 rfl rfl ?_
        refine zv_cVv (pc := 41) g cw_X5_139 (ctX5_oneDay h) (by decide) (by decide) zz_p0 (mW β a) (fun T => zz_p1 T) (q := 0) rfl rfl rfl rfl rfl (Nat.le_of_ble_eq_true rfl) dX5_clean_41 (fun S11 h => ?_)
        refine zv_iinc (pc := 44) 1 [(2, .int (x2 + 1)), (0, .ref (a 0)), (1, .int x1)] g dX5_clean_44 2 rfl (by decide) (by decide) rfl ?_
        refine zv_goto (pc := 47) 25 g dX5_clean_47 rfl ?_
        refine zv_sub [1, 2, 0] rfl ?_
        exact ih0 _ _ _ h
def wX5_clean (post : Int32 → (MSt) → Prop) (S : MSt) (x1 : Int32) : Prop := wX5_isRoom (fun v1 => (¬ v1 = 0 → wX5_moveAll_tried (fun S3 => ∃ f12 : Nat, wX5_clean_25 post f12 S3 x1 0) S 1) ∧ (v1 = 0 → wX5_finds (fun v13 S14 => post v13 S14) S (-1000000001))) x1
set_option maxRecDepth 100000 in
set_option maxHeartbeats 4000000 in
theorem ctX5_clean {β : zz_B} {a : Nat → Nat} {post : Int32 → (MSt) → Prop} {S : MSt} {x1 : Int32} (h : wX5_clean post S x1) : zCi β yX5_clean cX5_clean 3 (some .int) 4 95 [.ref (a 0), .int x1] (mW β a) S post := by
  unfold wX5_clean at h
  unfold zCi
  refine zC.of (by decide) (Nat.le_of_ble_eq_true rfl) ?_
  intro Γ g hR
  show zV β 3 Γ ((mW β a) S) 0 [(0, .ref (a 0)), (1, .int x1)] []
  refine zv_iload_n (pc := 0) g dX5_clean_0 1 rfl rfl ?_
  refine zv_cSp (pc := 1) g cw_X5_61 (ctX5_isRoom h) (by decide) (by decide) zz_pN rfl rfl (Nat.le_of_ble_eq_true rfl) dX5_clean_1 (fun v1 h => ?_)
  refine zv_if_ne (pc := 4) 14 g dX5_clean_4 rfl (fun c2 => ?_) (fun c2 => ?_)
  · replace h := h.1 c2
    refine zv_aload_n (pc := 14) g dX5_clean_14 0 rfl rfl ?_
    refine zv_iconst (pc := 15) g dX5_clean_15 (v := 1) (by decide) ?_
    refine zv_aload_n (pc := 16) g dX5_clean_16 0 rfl rfl ?_
    refine zv_get (pc := 17) g fl_X5_16 0 rfl rfl dX5_clean_17 ?_
    refine zv_cVv (pc := 20) g cw_X5_147 (ctX5_moveAll_tried h) (by decide) (by decide) zz_p0 (mW β a) (fun T => zz_p1 T) (q := 0) rfl rfl rfl rfl rfl (Nat.le_of_ble_eq_true rfl) dX5_clean_20 (fun S3 h => ?_)
    refine zv_iconst (pc := 23) g dX5_clean_23 (v := 0) (by decide) ?_
    refine zv_istore_n (pc := 24) 2 [(2, .int 0), (0, .ref (a 0)), (1, .int x1)] g dX5_clean_24 rfl (by decide) rfl ?_
    obtain ⟨f12, h⟩ := h
    refine zv_sub [1, 2, 0] rfl ?_
    exact lX5_clean_25 g hR f12 _ _ _ h
  · replace h := h.2 c2
    refine zv_aload_n (pc := 7) g dX5_clean_7 0 rfl rfl ?_
    refine zv_ldc (pc := 8) g wd_744 dX5_clean_8 ?_
    refine zv_cVi (pc := 10) g cw_X5_57 (ctX5_finds h) (by decide) (by decide) zz_p0 (mW β a) (fun T => zz_p1 T) (q := 0) rfl rfl rfl rfl rfl (Nat.le_of_ble_eq_true rfl) dX5_clean_10 (fun v13 S14 h => ?_)
    exact zv_iret (pc := 13) g hR dX5_clean_13 ⟨_, _, rfl, rfl, h⟩
def wX5_whenHas_40 (post : Int32 → (MSt) → Prop) (S : MSt) (x3 : Int32) : Prop := wX5_moveAll_tried (fun S3 => (x3 ≤ (100 : Int32) → post x3 S3) ∧ (¬ x3 ≤ (100 : Int32) → wX5_finds (fun v5 S6 => post v5 S6) S3 (-1000000004))) S 0
set_option maxRecDepth 100000 in
set_option maxHeartbeats 4000000 in
theorem lX5_whenHas_40 {β : zz_B} {Γ : zz_X} {a : Nat → Nat} {post : Int32 → (MSt) → Prop} (g : zG β 4 Γ cX5_whenHas RX5 4 95) (hR : zR β Γ (some .int) (fun r w => ∃ (v : Int32) (T : MSt), r = some (.int v) ∧ w = (mW β a) T ∧ post v T)) (S : MSt) (x3 : Int32) (h : wX5_whenHas_40 post S x3) : zV β 4 Γ ((mW β a) S) 40 [(0, .ref (a 0)), (3, .int x3)] [] := by
  unfold wX5_whenHas_40 at h
  refine zv_aload_n (pc := 40) g dX5_whenHas_40 0 rfl rfl ?_
  refine zv_iconst (pc := 41) g dX5_whenHas_41 (v := 0) (by decide) ?_
  refine zv_aload_n (pc := 42) g dX5_whenHas_42 0 rfl rfl ?_
  refine zv_get (pc := 43) g fl_X5_16 0 rfl rfl dX5_whenHas_43 ?_
  refine zv_cVv (pc := 46) g cw_X5_147 (ctX5_moveAll_tried h) (by decide) (by decide) zz_p0 (mW β a) (fun T => zz_p1 T) (q := 0) rfl rfl rfl rfl rfl (Nat.le_of_ble_eq_true rfl) dX5_whenHas_46 (fun S3 h => ?_)
  refine zv_iload_n (pc := 49) g dX5_whenHas_49 1 rfl rfl ?_
  refine zv_bipush (pc := 50) g dX5_whenHas_50 (v := 100) (by decide) ?_
  refine zv_icmp_le (pc := 52) 64 g dX5_whenHas_52 rfl (fun c4 => ?_) (fun c4 => ?_)
  · replace h := h.1 c4
    refine zv_iload_n (pc := 64) g dX5_whenHas_64 1 rfl rfl ?_
    exact zv_iret (pc := 65) g hR dX5_whenHas_65 ⟨_, _, rfl, rfl, h⟩
  · replace h := h.2 c4
    refine zv_aload_n (pc := 55) g dX5_whenHas_55 0 rfl rfl ?_
    refine zv_ldc (pc := 56) g wd_918 dX5_whenHas_56 ?_
    refine zv_cVi (pc := 58) g cw_X5_57 (ctX5_finds h) (by decide) (by decide) zz_p0 (mW β a) (fun T => zz_p1 T) (q := 0) rfl rfl rfl rfl rfl (Nat.le_of_ble_eq_true rfl) dX5_whenHas_58 (fun v5 S6 h => ?_)
    refine zv_goto (pc := 61) 65 g dX5_whenHas_61 rfl ?_
    exact zv_iret (pc := 65) g hR dX5_whenHas_65 ⟨_, _, rfl, rfl, h⟩
def wX5_whenHas_11 (post : Int32 → (MSt) → Prop) : Nat → (MSt) → (Int32) → (Int32) → (Int32) → Prop
  | 0, _, _, _, _ => False
  | f0 + 1, S, x1, x2, x3 => ((100 : Int32) < x3 → wX5_whenHas_40 post S x3) ∧ (¬ (100 : Int32) < x3 → vp_in x1 51 ∧ ((¬ (((m_row S (Int32.toNatClampNeg x1)) >>> (x2 &&& 31)) &&& 1) = 0 → wX5_whenHas_40 post S x3) ∧ ((((m_row S (Int32.toNatClampNeg x1)) >>> (x2 &&& 31)) &&& 1) = 0 → wX5_oneDay (fun S8 => wX5_whenHas_11 post f0 S8 x1 x2 (x3 + 1)) S)))
set_option maxRecDepth 100000 in
set_option maxHeartbeats 4000000 in
theorem lX5_whenHas_11 {β : zz_B} {Γ : zz_X} {a : Nat → Nat} {post : Int32 → (MSt) → Prop} (g : zG β 4 Γ cX5_whenHas RX5 4 95) (hR : zR β Γ (some .int) (fun r w => ∃ (v : Int32) (T : MSt), r = some (.int v) ∧ w = (mW β a) T ∧ post v T)) : ∀ (f0 : Nat) (S : MSt) (x1 : Int32) (x2 : Int32) (x3 : Int32) , wX5_whenHas_11 post f0 S x1 x2 x3 → zV β 4 Γ ((mW β a) S) 11 [(0, .ref (a 0)), (1, .int x1), (2, .int x2), (3, .int x3)] [] := by
  intro f0
  induction f0 with
  | zero => intro S x1 x2 x3 h; exact h.elim
  | succ f0 ih0 =>
    intro S x1 x2 x3 h
    rw [wX5_whenHas_11] at h
    refine zv_iload_n (pc := 11) g dX5_whenHas_11 3 rfl rfl ?_
    refine zv_bipush (pc := 12) g dX5_whenHas_12 (v := 100) (by decide) ?_
    refine zv_icmp_gt (pc := 14) 40 g dX5_whenHas_14 rfl (fun c2 => ?_) (fun c2 => ?_)
    · replace h := h.1 c2
      refine zv_sub [0, 3] rfl ?_
      exact lX5_whenHas_40 g hR _ _ h
    · replace h := h.2 c2
      refine zv_aload_n (pc := 17) g dX5_whenHas_17 0 rfl rfl ?_
      refine zv_get (pc := 18) g fl_X5_7 0 rfl rfl dX5_whenHas_18 ?_
      refine zv_iload_n (pc := 21) g dX5_whenHas_21 1 rfl rfl ?_
      obtain ⟨hi, h⟩ := h
      refine zv_iald (pc := 22) g 1 rfl hi dX5_whenHas_22 ?_
      refine zv_iload_n (pc := 23) g dX5_whenHas_23 2 rfl rfl ?_
      refine zv_ishr (pc := 24) g dX5_whenHas_24 ?_
      refine zv_iconst (pc := 25) g dX5_whenHas_25 (v := 1) (by decide) ?_
      refine zv_iand (pc := 26) g dX5_whenHas_26 ?_
      refine zv_if_ne (pc := 27) 40 g dX5_whenHas_27 rfl (fun c7 => ?_) (fun c7 => ?_)
      · replace h := h.1 c7
        refine zv_sub [0, 3] rfl ?_
        exact lX5_whenHas_40 g hR _ _ h
      · replace h := h.2 c7
        refine zv_aload_n (pc := 30) g dX5_whenHas_30 0 rfl rfl ?_
        refine zv_cVv (pc := 31) g cw_X5_139 (ctX5_oneDay h) (by decide) (by decide) zz_p0 (mW β a) (fun T => zz_p1 T) (q := 0) rfl rfl rfl rfl rfl (Nat.le_of_ble_eq_true rfl) dX5_whenHas_31 (fun S8 h => ?_)
        refine zv_iinc (pc := 34) 1 [(3, .int (x3 + 1)), (0, .ref (a 0)), (1, .int x1), (2, .int x2)] g dX5_whenHas_34 3 rfl (by decide) (by decide) rfl ?_
        refine zv_goto (pc := 37) 11 g dX5_whenHas_37 rfl ?_
        refine zv_sub [1, 2, 3, 0] rfl ?_
        exact ih0 _ _ _ _ h
def wX5_whenHas (post : Int32 → (MSt) → Prop) (S : MSt) (x1 : Int32) (x2 : Int32) : Prop := wX5_moveAll_tried (fun S1 => ∃ f9 : Nat, wX5_whenHas_11 post f9 S1 x1 x2 0) S 1
set_option maxRecDepth 100000 in
set_option maxHeartbeats 4000000 in
theorem ctX5_whenHas {β : zz_B} {a : Nat → Nat} {post : Int32 → (MSt) → Prop} {S : MSt} {x1 : Int32} {x2 : Int32} (h : wX5_whenHas post S x1 x2) : zCi β yX5_whenHas cX5_whenHas 4 (some .int) 4 95 [.ref (a 0), .int x1, .int x2] (mW β a) S post := by
  unfold wX5_whenHas at h
  unfold zCi
  refine zC.of (by decide) (Nat.le_of_ble_eq_true rfl) ?_
  intro Γ g hR
  show zV β 4 Γ ((mW β a) S) 0 [(0, .ref (a 0)), (1, .int x1), (2, .int x2)] []
  refine zv_aload_n (pc := 0) g dX5_whenHas_0 0 rfl rfl ?_
  refine zv_iconst (pc := 1) g dX5_whenHas_1 (v := 1) (by decide) ?_
  refine zv_aload_n (pc := 2) g dX5_whenHas_2 0 rfl rfl ?_
  refine zv_get (pc := 3) g fl_X5_16 0 rfl rfl dX5_whenHas_3 ?_
  refine zv_cVv (pc := 6) g cw_X5_147 (ctX5_moveAll_tried h) (by decide) (by decide) zz_p0 (mW β a) (fun T => zz_p1 T) (q := 0) rfl rfl rfl rfl rfl (Nat.le_of_ble_eq_true rfl) dX5_whenHas_6 (fun S1 h => ?_)
  refine zv_iconst (pc := 9) g dX5_whenHas_9 (v := 0) (by decide) ?_
  refine zv_istore_n (pc := 10) 3 [(3, .int 0), (0, .ref (a 0)), (1, .int x1), (2, .int x2)] g dX5_whenHas_10 rfl (by decide) rfl ?_
  obtain ⟨f9, h⟩ := h
  refine zv_sub [1, 2, 3, 0] rfl ?_
  exact lX5_whenHas_11 g hR f9 _ _ _ _ h
def wX5_comes (post : Int32 → (MSt) → Prop) (S : MSt) (x1 : Int32) (x2 : Int32) : Prop := wX5_isRoom (fun v1 => (v1 = 0 → wX5_finds (fun v3 S4 => post v3 S4) S (-1000000001)) ∧ (¬ v1 = 0 → wX5_isMemory (fun v5 => (v5 = 0 → wX5_finds (fun v7 S8 => post v7 S8) S (-1000000001)) ∧ (¬ v5 = 0 → wX5_whenHas (fun v9 S10 => post v9 S10) S ((3 + (2 * x1)) + 1) x2)) x2)) x1
set_option maxRecDepth 100000 in
set_option maxHeartbeats 4000000 in
theorem ctX5_comes {β : zz_B} {a : Nat → Nat} {post : Int32 → (MSt) → Prop} {S : MSt} {x1 : Int32} {x2 : Int32} (h : wX5_comes post S x1 x2) : zCi β yX5_comes cX5_comes 3 (some .int) 5 118 [.ref (a 0), .int x1, .int x2] (mW β a) S post := by
  unfold wX5_comes at h
  unfold zCi
  refine zC.of (by decide) (Nat.le_of_ble_eq_true rfl) ?_
  intro Γ g hR
  show zV β 3 Γ ((mW β a) S) 0 [(0, .ref (a 0)), (1, .int x1), (2, .int x2)] []
  refine zv_iload_n (pc := 0) g dX5_comes_0 1 rfl rfl ?_
  refine zv_cSp (pc := 1) g cw_X5_61 (ctX5_isRoom h) (by decide) (by decide) zz_pN rfl rfl (Nat.le_of_ble_eq_true rfl) dX5_comes_1 (fun v1 h => ?_)
  refine zv_if_eq (pc := 4) 29 g dX5_comes_4 rfl (fun c2 => ?_) (fun c2 => ?_)
  · replace h := h.1 c2
    refine zv_aload_n (pc := 29) g dX5_comes_29 0 rfl rfl ?_
    refine zv_ldc (pc := 30) g wd_744 dX5_comes_30 ?_
    refine zv_cVi (pc := 32) g cw_X5_57 (ctX5_finds h) (by decide) (by decide) zz_p0 (mW β a) (fun T => zz_p1 T) (q := 0) rfl rfl rfl rfl rfl (Nat.le_of_ble_eq_true rfl) dX5_comes_32 (fun v3 S4 h => ?_)
    exact zv_iret (pc := 35) g hR dX5_comes_35 ⟨_, _, rfl, rfl, h⟩
  · replace h := h.2 c2
    refine zv_iload_n (pc := 7) g dX5_comes_7 2 rfl rfl ?_
    refine zv_cSp (pc := 8) g cw_X5_155 (ctX5_isMemory h) (by decide) (by decide) zz_pN rfl rfl (Nat.le_of_ble_eq_true rfl) dX5_comes_8 (fun v5 h => ?_)
    refine zv_if_eq (pc := 11) 29 g dX5_comes_11 rfl (fun c6 => ?_) (fun c6 => ?_)
    · replace h := h.1 c6
      refine zv_aload_n (pc := 29) g dX5_comes_29 0 rfl rfl ?_
      refine zv_ldc (pc := 30) g wd_744 dX5_comes_30 ?_
      refine zv_cVi (pc := 32) g cw_X5_57 (ctX5_finds h) (by decide) (by decide) zz_p0 (mW β a) (fun T => zz_p1 T) (q := 0) rfl rfl rfl rfl rfl (Nat.le_of_ble_eq_true rfl) dX5_comes_32 (fun v7 S8 h => ?_)
      exact zv_iret (pc := 35) g hR dX5_comes_35 ⟨_, _, rfl, rfl, h⟩
    · replace h := h.2 c6
      refine zv_aload_n (pc := 14) g dX5_comes_14 0 rfl rfl ?_
      refine zv_iconst (pc := 15) g dX5_comes_15 (v := 3) (by decide) ?_
      refine zv_iconst (pc := 16) g dX5_comes_16 (v := 2) (by decide) ?_
      refine zv_iload_n (pc := 17) g dX5_comes_17 1 rfl rfl ?_
      refine zv_imul (pc := 18) g dX5_comes_18 ?_
      refine zv_iadd (pc := 19) g dX5_comes_19 ?_
      refine zv_iconst (pc := 20) g dX5_comes_20 (v := 1) (by decide) ?_
      refine zv_iadd (pc := 21) g dX5_comes_21 ?_
      refine zv_iload_n (pc := 22) g dX5_comes_22 2 rfl rfl ?_
      refine zv_cVi (pc := 23) g cw_X5_158 (ctX5_whenHas h) (by decide) (by decide) zz_p0 (mW β a) (fun T => zz_p1 T) (q := 0) rfl rfl rfl rfl rfl (Nat.le_of_ble_eq_true rfl) dX5_comes_23 (fun v9 S10 h => ?_)
      refine zv_goto (pc := 26) 35 g dX5_comes_26 rfl ?_
      exact zv_iret (pc := 35) g hR dX5_comes_35 ⟨_, _, rfl, rfl, h⟩
def wX5_holds (post : Int32 → (MSt) → Prop) (S : MSt) (x1 : Int32) (x2 : Int32) : Prop := wX5_isOne (fun v1 => (v1 = 0 → wX5_finds (fun v3 S4 => post v3 S4) S (-1000000001)) ∧ (¬ v1 = 0 → wX5_isMemory (fun v5 => (v5 = 0 → wX5_finds (fun v7 S8 => post v7 S8) S (-1000000001)) ∧ (¬ v5 = 0 → wX5_whenHas (fun v9 S10 => post v9 S10) S ((19 + (4 * x1)) + 1) x2)) x2)) S x1
set_option maxRecDepth 100000 in
set_option maxHeartbeats 4000000 in
theorem ctX5_holds {β : zz_B} {a : Nat → Nat} {post : Int32 → (MSt) → Prop} {S : MSt} {x1 : Int32} {x2 : Int32} (h : wX5_holds post S x1 x2) : zCi β yX5_holds cX5_holds 3 (some .int) 5 118 [.ref (a 0), .int x1, .int x2] (mW β a) S post := by
  unfold wX5_holds at h
  unfold zCi
  refine zC.of (by decide) (Nat.le_of_ble_eq_true rfl) ?_
  intro Γ g hR
  show zV β 3 Γ ((mW β a) S) 0 [(0, .ref (a 0)), (1, .int x1), (2, .int x2)] []
  refine zv_aload_n (pc := 0) g dX5_holds_0 0 rfl rfl ?_
  refine zv_iload_n (pc := 1) g dX5_holds_1 1 rfl rfl ?_
  refine zv_cVp (pc := 2) g cw_X5_103 (ctX5_isOne h) (by decide) (by decide) zz_p0 (q := 0) rfl rfl rfl rfl rfl (Nat.le_of_ble_eq_true rfl) dX5_holds_2 (fun v1 h => ?_)
  refine zv_if_eq (pc := 5) 31 g dX5_holds_5 rfl (fun c2 => ?_) (fun c2 => ?_)
  · replace h := h.1 c2
    refine zv_aload_n (pc := 31) g dX5_holds_31 0 rfl rfl ?_
    refine zv_ldc (pc := 32) g wd_744 dX5_holds_32 ?_
    refine zv_cVi (pc := 34) g cw_X5_57 (ctX5_finds h) (by decide) (by decide) zz_p0 (mW β a) (fun T => zz_p1 T) (q := 0) rfl rfl rfl rfl rfl (Nat.le_of_ble_eq_true rfl) dX5_holds_34 (fun v3 S4 h => ?_)
    exact zv_iret (pc := 37) g hR dX5_holds_37 ⟨_, _, rfl, rfl, h⟩
  · replace h := h.2 c2
    refine zv_iload_n (pc := 8) g dX5_holds_8 2 rfl rfl ?_
    refine zv_cSp (pc := 9) g cw_X5_155 (ctX5_isMemory h) (by decide) (by decide) zz_pN rfl rfl (Nat.le_of_ble_eq_true rfl) dX5_holds_9 (fun v5 h => ?_)
    refine zv_if_eq (pc := 12) 31 g dX5_holds_12 rfl (fun c6 => ?_) (fun c6 => ?_)
    · replace h := h.1 c6
      refine zv_aload_n (pc := 31) g dX5_holds_31 0 rfl rfl ?_
      refine zv_ldc (pc := 32) g wd_744 dX5_holds_32 ?_
      refine zv_cVi (pc := 34) g cw_X5_57 (ctX5_finds h) (by decide) (by decide) zz_p0 (mW β a) (fun T => zz_p1 T) (q := 0) rfl rfl rfl rfl rfl (Nat.le_of_ble_eq_true rfl) dX5_holds_34 (fun v7 S8 h => ?_)
      exact zv_iret (pc := 37) g hR dX5_holds_37 ⟨_, _, rfl, rfl, h⟩
    · replace h := h.2 c6
      refine zv_aload_n (pc := 15) g dX5_holds_15 0 rfl rfl ?_
      refine zv_bipush (pc := 16) g dX5_holds_16 (v := 19) (by decide) ?_
      refine zv_iconst (pc := 18) g dX5_holds_18 (v := 4) (by decide) ?_
      refine zv_iload_n (pc := 19) g dX5_holds_19 1 rfl rfl ?_
      refine zv_imul (pc := 20) g dX5_holds_20 ?_
      refine zv_iadd (pc := 21) g dX5_holds_21 ?_
      refine zv_iconst (pc := 22) g dX5_holds_22 (v := 1) (by decide) ?_
      refine zv_iadd (pc := 23) g dX5_holds_23 ?_
      refine zv_iload_n (pc := 24) g dX5_holds_24 2 rfl rfl ?_
      refine zv_cVi (pc := 25) g cw_X5_158 (ctX5_whenHas h) (by decide) (by decide) zz_p0 (mW β a) (fun T => zz_p1 T) (q := 0) rfl rfl rfl rfl rfl (Nat.le_of_ble_eq_true rfl) dX5_holds_25 (fun v9 S10 h => ?_)
      refine zv_goto (pc := 28) 37 g dX5_holds_28 rfl ?_
      exact zv_iret (pc := 37) g hR dX5_holds_37 ⟨_, _, rfl, rfl, h⟩
def wX5_dustBehind (post : Int32 → (MSt) → Prop) (S : MSt) (x1 : Int32) : Prop := wX5_passes (fun S1 => wX5_dustOfAll (fun v2 => wX5_moveAll_tried (fun S3 => post v2 S3) S1 0) S1) S x1
set_option maxRecDepth 100000 in
set_option maxHeartbeats 4000000 in
theorem ctX5_dustBehind {β : zz_B} {a : Nat → Nat} {post : Int32 → (MSt) → Prop} {S : MSt} {x1 : Int32} (h : wX5_dustBehind post S x1) : zCi β yX5_dustBehind cX5_dustBehind 3 (some .int) 5 117 [.ref (a 0), .int x1] (mW β a) S post := by
  unfold wX5_dustBehind at h
  unfold zCi
  refine zC.of (by decide) (Nat.le_of_ble_eq_true rfl) ?_
  intro Γ g hR
  show zV β 3 Γ ((mW β a) S) 0 [(0, .ref (a 0)), (1, .int x1)] []
  refine zv_aload_n (pc := 0) g dX5_dustBehind_0 0 rfl rfl ?_
  refine zv_iload_n (pc := 1) g dX5_dustBehind_1 1 rfl rfl ?_
  refine zv_cVv (pc := 2) g cw_X5_143 (ctX5_passes h) (by decide) (by decide) zz_p0 (mW β a) (fun T => zz_p1 T) (q := 0) rfl rfl rfl rfl rfl (Nat.le_of_ble_eq_true rfl) dX5_dustBehind_2 (fun S1 h => ?_)
  refine zv_aload_n (pc := 5) g dX5_dustBehind_5 0 rfl rfl ?_
  refine zv_cVp (pc := 6) g cw_X5_80 (ctX5_dustOfAll h) (by decide) (by decide) zz_p0 (q := 0) rfl rfl rfl rfl rfl (Nat.le_of_ble_eq_true rfl) dX5_dustBehind_6 (fun v2 h => ?_)
  refine zv_istore_n (pc := 9) 2 [(2, .int v2), (0, .ref (a 0)), (1, .int x1)] g dX5_dustBehind_9 rfl (by decide) rfl ?_
  refine zv_aload_n (pc := 10) g dX5_dustBehind_10 1 rfl rfl ?_
  refine zv_iconst (pc := 11) g dX5_dustBehind_11 (v := 0) (by decide) ?_
  refine zv_aload_n (pc := 12) g dX5_dustBehind_12 1 rfl rfl ?_
  refine zv_get (pc := 13) g fl_X5_16 0 rfl rfl dX5_dustBehind_13 ?_
  refine zv_cVv (pc := 16) g cw_X5_147 (ctX5_moveAll_tried h) (by decide) (by decide) zz_p0 (mW β a) (fun T => zz_p1 T) (q := 0) rfl rfl rfl rfl rfl (Nat.le_of_ble_eq_true rfl) dX5_dustBehind_16 (fun S3 h => ?_)
  refine zv_iload_n (pc := 19) g dX5_dustBehind_19 0 rfl rfl ?_
  exact zv_iret (pc := 20) g hR dX5_dustBehind_20 ⟨_, _, rfl, rfl, h⟩
def wX5_memoriesBehind (post : Int32 → (MSt) → Prop) (S : MSt) (x1 : Int32) : Prop := wX5_passes (fun S1 => wX5_memoriesOfAll (fun v2 => wX5_moveAll_tried (fun S3 => post v2 S3) S1 0) S1) S x1
set_option maxRecDepth 100000 in
set_option maxHeartbeats 4000000 in
theorem ctX5_memoriesBehind {β : zz_B} {a : Nat → Nat} {post : Int32 → (MSt) → Prop} {S : MSt} {x1 : Int32} (h : wX5_memoriesBehind post S x1) : zCi β yX5_memoriesBehind cX5_memoriesBehind 3 (some .int) 5 117 [.ref (a 0), .int x1] (mW β a) S post := by
  unfold wX5_memoriesBehind at h
  unfold zCi
  refine zC.of (by decide) (Nat.le_of_ble_eq_true rfl) ?_
  intro Γ g hR
  show zV β 3 Γ ((mW β a) S) 0 [(0, .ref (a 0)), (1, .int x1)] []
  refine zv_aload_n (pc := 0) g dX5_memoriesBehind_0 0 rfl rfl ?_
  refine zv_iload_n (pc := 1) g dX5_memoriesBehind_1 1 rfl rfl ?_
  refine zv_cVv (pc := 2) g cw_X5_143 (ctX5_passes h) (by decide) (by decide) zz_p0 (mW β a) (fun T => zz_p1 T) (q := 0) rfl rfl rfl rfl rfl (Nat.le_of_ble_eq_true rfl) dX5_memoriesBehind_2 (fun S1 h => ?_)
  refine zv_aload_n (pc := 5) g dX5_memoriesBehind_5 0 rfl rfl ?_
  refine zv_cVp (pc := 6) g cw_X5_161 (ctX5_memoriesOfAll h) (by decide) (by decide) zz_p0 (q := 0) rfl rfl rfl rfl rfl (Nat.le_of_ble_eq_true rfl) dX5_memoriesBehind_6 (fun v2 h => ?_)
  refine zv_istore_n (pc := 9) 2 [(2, .int v2), (0, .ref (a 0)), (1, .int x1)] g dX5_memoriesBehind_9 rfl (by decide) rfl ?_
  refine zv_aload_n (pc := 10) g dX5_memoriesBehind_10 1 rfl rfl ?_
  refine zv_iconst (pc := 11) g dX5_memoriesBehind_11 (v := 0) (by decide) ?_
  refine zv_aload_n (pc := 12) g dX5_memoriesBehind_12 1 rfl rfl ?_
  refine zv_get (pc := 13) g fl_X5_16 0 rfl rfl dX5_memoriesBehind_13 ?_
  refine zv_cVv (pc := 16) g cw_X5_147 (ctX5_moveAll_tried h) (by decide) (by decide) zz_p0 (mW β a) (fun T => zz_p1 T) (q := 0) rfl rfl rfl rfl rfl (Nat.le_of_ble_eq_true rfl) dX5_memoriesBehind_16 (fun S3 h => ?_)
  refine zv_iload_n (pc := 19) g dX5_memoriesBehind_19 0 rfl rfl ?_
  exact zv_iret (pc := 20) g hR dX5_memoriesBehind_20 ⟨_, _, rfl, rfl, h⟩
def wX5_round_79 (post : Int32 → (MSt) → Prop) (k44 : (MSt) → (Int32) → (Int32) → (Int32) → (Int32) → (Int32) → Prop) (S : MSt) (x1 : Int32) (x2 : Int32) (x4 : Int32) (x5 : Int32) (x6 : Int32) (s0 : Int32) : Prop := (x4 ≤ x6 → k44 S x1 x2 s0 x4 (x5 + 1)) ∧ (¬ x4 ≤ x6 → k44 S x1 x2 s0 x6 (x5 + 1))
set_option maxRecDepth 100000 in
set_option maxHeartbeats 4000000 in
theorem lX5_round_79 {β : zz_B} {Γ : zz_X} {a : Nat → Nat} {post : Int32 → (MSt) → Prop} {k44 : (MSt) → (Int32) → (Int32) → (Int32) → (Int32) → (Int32) → Prop} (g : zG β 7 Γ cX5_round RX5 6 139) (hR : zR β Γ (some .int) (fun r w => ∃ (v : Int32) (T : MSt), r = some (.int v) ∧ w = (mW β a) T ∧ post v T)) (hk44 : ∀ (S : MSt) (x1 : Int32) (x2 : Int32) (x3 : Int32) (x4 : Int32) (x5 : Int32), k44 S x1 x2 x3 x4 x5 → zV β 7 Γ ((mW β a) S) 44 [(0, .ref (a 0)), (1, .int x1), (2, .int x2), (3, .int x3), (4, .int x4), (5, .int x5)] []) (S : MSt) (x1 : Int32) (x2 : Int32) (x4 : Int32) (x5 : Int32) (x6 : Int32) (s0 : Int32) (h : wX5_round_79 post k44 S x1 x2 x4 x5 x6 s0) : zV β 7 Γ ((mW β a) S) 79 [(0, .ref (a 0)), (1, .int x1), (2, .int x2), (4, .int x4), (5, .int x5), (6, .int x6)] [.int s0] := by
  unfold wX5_round_79 at h
  refine zv_istore_n (pc := 79) 3 [(3, .int s0), (0, .ref (a 0)), (1, .int x1), (2, .int x2), (4, .int x4), (5, .int x5), (6, .int x6)] g dX5_round_79 rfl (by decide) rfl ?_
  refine zv_iload (pc := 80) g dX5_round_80 6 rfl ?_
  refine zv_iload (pc := 82) g dX5_round_82 4 rfl ?_
  refine zv_icmp_ge (pc := 84) 92 g dX5_round_84 rfl (fun c13 => ?_) (fun c13 => ?_)
  · replace h := h.1 c13
    refine zv_iload (pc := 92) g dX5_round_92 4 rfl ?_
    refine zv_istore (pc := 94) [(4, .int x4), (3, .int s0), (0, .ref (a 0)), (1, .int x1), (2, .int x2), (5, .int x5), (6, .int x6)] g dX5_round_94 (by decide) rfl ?_
    refine zv_iinc (pc := 96) 1 [(5, .int (x5 + 1)), (4, .int x4), (3, .int s0), (0, .ref (a 0)), (1, .int x1), (2, .int x2), (6, .int x6)] g dX5_round_96 5 rfl (by decide) (by decide) rfl ?_
    refine zv_goto (pc := 99) 44 g dX5_round_99 rfl ?_
    refine zv_sub [3, 4, 5, 2, 1, 0] rfl ?_
    exact hk44 _ _ _ _ _ _ h
  · replace h := h.2 c13
    refine zv_iload (pc := 87) g dX5_round_87 6 rfl ?_
    refine zv_goto (pc := 89) 94 g dX5_round_89 rfl ?_
    refine zv_istore (pc := 94) [(4, .int x6), (3, .int s0), (0, .ref (a 0)), (1, .int x1), (2, .int x2), (5, .int x5), (6, .int x6)] g dX5_round_94 (by decide) rfl ?_
    refine zv_iinc (pc := 96) 1 [(5, .int (x5 + 1)), (4, .int x6), (3, .int s0), (0, .ref (a 0)), (1, .int x1), (2, .int x2), (6, .int x6)] g dX5_round_96 5 rfl (by decide) (by decide) rfl ?_
    refine zv_goto (pc := 99) 44 g dX5_round_99 rfl ?_
    refine zv_sub [3, 4, 5, 2, 1, 0] rfl ?_
    exact hk44 _ _ _ _ _ _ h
def wX5_round_44 (post : Int32 → (MSt) → Prop) : Nat → (MSt) → (Int32) → (Int32) → (Int32) → (Int32) → (Int32) → Prop
  | 0, _, _, _, _, _, _ => False
  | f0 + 1, S, x1, x2, x3, x4, x5 => ((8 : Int32) ≤ x5 → post x3 S) ∧ (¬ (8 : Int32) ≤ x5 → wX5_puts (fun S9 => wX5_dustBehind (fun v10 S11 => (x4 ≤ v10 → wX5_round_79 post (wX5_round_44 post f0) S11 x1 x2 x4 x5 v10 x3) ∧ (¬ x4 ≤ v10 → wX5_round_79 post (wX5_round_44 post f0) S11 x1 x2 x4 x5 v10 x5)) S9 x2) S x1 3 x5)
set_option maxRecDepth 100000 in
set_option maxHeartbeats 4000000 in
theorem lX5_round_44 {β : zz_B} {Γ : zz_X} {a : Nat → Nat} {post : Int32 → (MSt) → Prop} (g : zG β 7 Γ cX5_round RX5 6 139) (hR : zR β Γ (some .int) (fun r w => ∃ (v : Int32) (T : MSt), r = some (.int v) ∧ w = (mW β a) T ∧ post v T)) : ∀ (f0 : Nat) (S : MSt) (x1 : Int32) (x2 : Int32) (x3 : Int32) (x4 : Int32) (x5 : Int32) , wX5_round_44 post f0 S x1 x2 x3 x4 x5 → zV β 7 Γ ((mW β a) S) 44 [(0, .ref (a 0)), (1, .int x1), (2, .int x2), (3, .int x3), (4, .int x4), (5, .int x5)] [] := by
  intro f0
  induction f0 with
  | zero => intro S x1 x2 x3 x4 x5 h; exact h.elim
  | succ f0 ih0 =>
    intro S x1 x2 x3 x4 x5 h
    rw [wX5_round_44] at h
    refine zv_iload (pc := 44) g dX5_round_44 5 rfl ?_
    refine zv_bipush (pc := 46) g dX5_round_46 (v := 8) (by decide) ?_
    refine zv_icmp_ge (pc := 48) 102 g dX5_round_48 rfl (fun c8 => ?_) (fun c8 => ?_)
    · replace h := h.1 c8
      refine zv_iload_n (pc := 102) g dX5_round_102 3 rfl rfl ?_
      exact zv_iret (pc := 103) g hR dX5_round_103 ⟨_, _, rfl, rfl, h⟩
    · replace h := h.2 c8
      refine zv_aload_n (pc := 51) g dX5_round_51 0 rfl rfl ?_
      refine zv_iload_n (pc := 52) g dX5_round_52 1 rfl rfl ?_
      refine zv_iconst (pc := 53) g dX5_round_53 (v := 3) (by decide) ?_
      refine zv_iload (pc := 54) g dX5_round_54 5 rfl ?_
      refine zv_cVv (pc := 56) g cw_X5_93 (ctX5_puts h) (by decide) (by decide) zz_p0 (mW β a) (fun T => zz_p1 T) (q := 0) rfl rfl rfl rfl rfl (Nat.le_of_ble_eq_true rfl) dX5_round_56 (fun S9 h => ?_)
      refine zv_aload_n (pc := 59) g dX5_round_59 0 rfl rfl ?_
      refine zv_iload_n (pc := 60) g dX5_round_60 2 rfl rfl ?_
      refine zv_cVi (pc := 61) g cw_X5_164 (ctX5_dustBehind h) (by decide) (by decide) zz_p0 (mW β a) (fun T => zz_p1 T) (q := 0) rfl rfl rfl rfl rfl (Nat.le_of_ble_eq_true rfl) dX5_round_61 (fun v10 S11 h => ?_)
      refine zv_istore (pc := 64) [(6, .int v10), (0, .ref (a 0)), (1, .int x1), (2, .int x2), (3, .int x3), (4, .int x4), (5, .int x5)] g dX5_round_64 (by decide) rfl ?_
      refine zv_iload (pc := 66) g dX5_round_66 0 rfl ?_
      refine zv_iload (pc := 68) g dX5_round_68 5 rfl ?_
      refine zv_icmp_ge (pc := 70) 78 g dX5_round_70 rfl (fun c12 => ?_) (fun c12 => ?_)
      · replace h := h.1 c12
        refine zv_iload_n (pc := 78) g dX5_round_78 4 rfl rfl ?_
        refine zv_sub [1, 2, 3, 5, 6, 0] rfl ?_
        exact lX5_round_79 g hR ih0 _ _ _ _ _ _ _ h
      · replace h := h.2 c12
        refine zv_iload (pc := 73) g dX5_round_73 6 rfl ?_
        refine zv_goto (pc := 75) 79 g dX5_round_75 rfl ?_
        refine zv_sub [1, 2, 3, 5, 6, 0] rfl ?_
        exact lX5_round_79 g hR ih0 _ _ _ _ _ _ _ h
def wX5_round (post : Int32 → (MSt) → Prop) (S : MSt) (x1 : Int32) (x2 : Int32) : Prop := wX5_isOne (fun v1 => (v1 = 0 → wX5_finds (fun v3 S4 => post v3 S4) S (-1000000001)) ∧ (¬ v1 = 0 → wX5_in (fun v5 => (¬ v5 = 0 → wX5_moveAll_tried (fun S7 => ∃ f14 : Nat, wX5_round_44 post f14 S7 x1 x2 0 793 0) S 1) ∧ (v5 = 0 → wX5_finds (fun v15 S16 => post v15 S16) S (-1000000001))) x2 1 40)) S x1
set_option maxRecDepth 100000 in
set_option maxHeartbeats 4000000 in
theorem ctX5_round {β : zz_B} {a : Nat → Nat} {post : Int32 → (MSt) → Prop} {S : MSt} {x1 : Int32} {x2 : Int32} (h : wX5_round post S x1 x2) : zCi β yX5_round cX5_round 7 (some .int) 6 139 [.ref (a 0), .int x1, .int x2] (mW β a) S post := by
  unfold wX5_round at h
  unfold zCi
  refine zC.of (by decide) (Nat.le_of_ble_eq_true rfl) ?_
  intro Γ g hR
  show zV β 7 Γ ((mW β a) S) 0 [(0, .ref (a 0)), (1, .int x1), (2, .int x2)] []
  refine zv_aload_n (pc := 0) g dX5_round_0 0 rfl rfl ?_
  refine zv_iload_n (pc := 1) g dX5_round_1 1 rfl rfl ?_
  refine zv_cVp (pc := 2) g cw_X5_103 (ctX5_isOne h) (by decide) (by decide) zz_p0 (q := 0) rfl rfl rfl rfl rfl (Nat.le_of_ble_eq_true rfl) dX5_round_2 (fun v1 h => ?_)
  refine zv_if_eq (pc := 5) 18 g dX5_round_5 rfl (fun c2 => ?_) (fun c2 => ?_)
  · replace h := h.1 c2
    refine zv_aload_n (pc := 18) g dX5_round_18 0 rfl rfl ?_
    refine zv_ldc (pc := 19) g wd_744 dX5_round_19 ?_
    refine zv_cVi (pc := 21) g cw_X5_57 (ctX5_finds h) (by decide) (by decide) zz_p0 (mW β a) (fun T => zz_p1 T) (q := 0) rfl rfl rfl rfl rfl (Nat.le_of_ble_eq_true rfl) dX5_round_21 (fun v3 S4 h => ?_)
    exact zv_iret (pc := 24) g hR dX5_round_24 ⟨_, _, rfl, rfl, h⟩
  · replace h := h.2 c2
    refine zv_iload_n (pc := 8) g dX5_round_8 2 rfl rfl ?_
    refine zv_iconst (pc := 9) g dX5_round_9 (v := 1) (by decide) ?_
    refine zv_bipush (pc := 10) g dX5_round_10 (v := 40) (by decide) ?_
    refine zv_cSp (pc := 12) g cw_X5_49 (ctX5_in h) (by decide) (by decide) zz_pN rfl rfl (Nat.le_of_ble_eq_true rfl) dX5_round_12 (fun v5 h => ?_)
    refine zv_if_ne (pc := 15) 25 g dX5_round_15 rfl (fun c6 => ?_) (fun c6 => ?_)
    · replace h := h.1 c6
      refine zv_iconst (pc := 25) g dX5_round_25 (v := 0) (by decide) ?_
      refine zv_istore_n (pc := 26) 3 [(3, .int 0), (0, .ref (a 0)), (1, .int x1), (2, .int x2)] g dX5_round_26 rfl (by decide) rfl ?_
      refine zv_sipush (pc := 27) g dX5_round_27 (v := 793) (by decide) ?_
      refine zv_istore (pc := 30) [(4, .int 793), (3, .int 0), (0, .ref (a 0)), (1, .int x1), (2, .int x2)] g dX5_round_30 (by decide) rfl ?_
      refine zv_aload_n (pc := 32) g dX5_round_32 2 rfl rfl ?_
      refine zv_iconst (pc := 33) g dX5_round_33 (v := 1) (by decide) ?_
      refine zv_aload_n (pc := 34) g dX5_round_34 2 rfl rfl ?_
      refine zv_get (pc := 35) g fl_X5_16 0 rfl rfl dX5_round_35 ?_
      refine zv_cVv (pc := 38) g cw_X5_147 (ctX5_moveAll_tried h) (by decide) (by decide) zz_p0 (mW β a) (fun T => zz_p1 T) (q := 0) rfl rfl rfl rfl rfl (Nat.le_of_ble_eq_true rfl) dX5_round_38 (fun S7 h => ?_)
      refine zv_iconst (pc := 41) g dX5_round_41 (v := 0) (by decide) ?_
      refine zv_istore (pc := 42) [(5, .int 0), (4, .int 793), (3, .int 0), (0, .ref (a 0)), (1, .int x1), (2, .int x2)] g dX5_round_42 (by decide) rfl ?_
      obtain ⟨f14, h⟩ := h
      refine zv_sub [3, 4, 5, 2, 1, 0] rfl ?_
      exact lX5_round_44 g hR f14 _ _ _ _ _ _ h
    · replace h := h.2 c6
      refine zv_aload_n (pc := 18) g dX5_round_18 0 rfl rfl ?_
      refine zv_ldc (pc := 19) g wd_744 dX5_round_19 ?_
      refine zv_cVi (pc := 21) g cw_X5_57 (ctX5_finds h) (by decide) (by decide) zz_p0 (mW β a) (fun T => zz_p1 T) (q := 0) rfl rfl rfl rfl rfl (Nat.le_of_ble_eq_true rfl) dX5_round_21 (fun v15 S16 h => ?_)
      exact zv_iret (pc := 24) g hR dX5_round_24 ⟨_, _, rfl, rfl, h⟩
def wX5_mostBy_54 (post : Int32 → (MSt) → Prop) (k18 : (MSt) → (Int32) → (Int32) → (Int32) → (Int32) → (Int32) → (Int32) → (Int32) → Prop) (S : MSt) (x1 : Int32) (x2 : Int32) (x3 : Int32) (x4 : Int32) (x6 : Int32) (x7 : Int32) (x8 : Int32) (s0 : Int32) : Prop := (x8 ≤ x6 → k18 S x1 x2 x3 x4 s0 x6 (x7 + 1)) ∧ (¬ x8 ≤ x6 → k18 S x1 x2 x3 x4 s0 x8 (x7 + 1))
set_option maxRecDepth 100000 in
set_option maxHeartbeats 4000000 in
theorem lX5_mostBy_54 {β : zz_B} {Γ : zz_X} {a : Nat → Nat} {post : Int32 → (MSt) → Prop} {k18 : (MSt) → (Int32) → (Int32) → (Int32) → (Int32) → (Int32) → (Int32) → (Int32) → Prop} (g : zG β 9 Γ cX5_mostBy RX5 6 139) (hR : zR β Γ (some .int) (fun r w => ∃ (v : Int32) (T : MSt), r = some (.int v) ∧ w = (mW β a) T ∧ post v T)) (hk18 : ∀ (S : MSt) (x1 : Int32) (x2 : Int32) (x3 : Int32) (x4 : Int32) (x5 : Int32) (x6 : Int32) (x7 : Int32), k18 S x1 x2 x3 x4 x5 x6 x7 → zV β 9 Γ ((mW β a) S) 18 [(0, .ref (a 0)), (1, .int x1), (2, .int x2), (3, .int x3), (4, .int x4), (5, .int x5), (6, .int x6), (7, .int x7)] []) (S : MSt) (x1 : Int32) (x2 : Int32) (x3 : Int32) (x4 : Int32) (x6 : Int32) (x7 : Int32) (x8 : Int32) (s0 : Int32) (h : wX5_mostBy_54 post k18 S x1 x2 x3 x4 x6 x7 x8 s0) : zV β 9 Γ ((mW β a) S) 54 [(0, .ref (a 0)), (1, .int x1), (2, .int x2), (3, .int x3), (4, .int x4), (6, .int x6), (7, .int x7), (8, .int x8)] [.int s0] := by
  unfold wX5_mostBy_54 at h
  refine zv_istore (pc := 54) [(5, .int s0), (0, .ref (a 0)), (1, .int x1), (2, .int x2), (3, .int x3), (4, .int x4), (6, .int x6), (7, .int x7), (8, .int x8)] g dX5_mostBy_54 (by decide) rfl ?_
  refine zv_iload (pc := 56) g dX5_mostBy_56 8 rfl ?_
  refine zv_iload (pc := 58) g dX5_mostBy_58 6 rfl ?_
  refine zv_icmp_le (pc := 60) 68 g dX5_mostBy_60 rfl (fun c7 => ?_) (fun c7 => ?_)
  · replace h := h.1 c7
    refine zv_iload (pc := 68) g dX5_mostBy_68 6 rfl ?_
    refine zv_istore (pc := 70) [(6, .int x6), (5, .int s0), (0, .ref (a 0)), (1, .int x1), (2, .int x2), (3, .int x3), (4, .int x4), (7, .int x7), (8, .int x8)] g dX5_mostBy_70 (by decide) rfl ?_
    refine zv_iinc (pc := 72) 1 [(7, .int (x7 + 1)), (6, .int x6), (5, .int s0), (0, .ref (a 0)), (1, .int x1), (2, .int x2), (3, .int x3), (4, .int x4), (8, .int x8)] g dX5_mostBy_72 7 rfl (by decide) (by decide) rfl ?_
    refine zv_goto (pc := 75) 18 g dX5_mostBy_75 rfl ?_
    refine zv_sub [3, 4, 5, 6, 7, 2, 1, 0] rfl ?_
    exact hk18 _ _ _ _ _ _ _ _ h
  · replace h := h.2 c7
    refine zv_iload (pc := 63) g dX5_mostBy_63 8 rfl ?_
    refine zv_goto (pc := 65) 70 g dX5_mostBy_65 rfl ?_
    refine zv_istore (pc := 70) [(6, .int x8), (5, .int s0), (0, .ref (a 0)), (1, .int x1), (2, .int x2), (3, .int x3), (4, .int x4), (7, .int x7), (8, .int x8)] g dX5_mostBy_70 (by decide) rfl ?_
    refine zv_iinc (pc := 72) 1 [(7, .int (x7 + 1)), (6, .int x8), (5, .int s0), (0, .ref (a 0)), (1, .int x1), (2, .int x2), (3, .int x3), (4, .int x4), (8, .int x8)] g dX5_mostBy_72 7 rfl (by decide) (by decide) rfl ?_
    refine zv_goto (pc := 75) 18 g dX5_mostBy_75 rfl ?_
    refine zv_sub [3, 4, 5, 6, 7, 2, 1, 0] rfl ?_
    exact hk18 _ _ _ _ _ _ _ _ h
def wX5_mostBy_18 (post : Int32 → (MSt) → Prop) : Nat → (MSt) → (Int32) → (Int32) → (Int32) → (Int32) → (Int32) → (Int32) → (Int32) → Prop
  | 0, _, _, _, _, _, _, _, _ => False
  | f0 + 1, S, x1, x2, x3, x4, x5, x6, x7 => (x3 < x7 → post x5 S) ∧ (¬ x3 < x7 → wX5_puts (fun S3 => wX5_memoriesBehind (fun v4 S5 => (v4 ≤ x6 → wX5_mostBy_54 post (wX5_mostBy_18 post f0) S5 x1 x2 x3 x4 x6 x7 v4 x5) ∧ (¬ v4 ≤ x6 → wX5_mostBy_54 post (wX5_mostBy_18 post f0) S5 x1 x2 x3 x4 x6 x7 v4 x7)) S3 x4) S x1 x2 x7)
set_option maxRecDepth 100000 in
set_option maxHeartbeats 4000000 in
theorem lX5_mostBy_18 {β : zz_B} {Γ : zz_X} {a : Nat → Nat} {post : Int32 → (MSt) → Prop} (g : zG β 9 Γ cX5_mostBy RX5 6 139) (hR : zR β Γ (some .int) (fun r w => ∃ (v : Int32) (T : MSt), r = some (.int v) ∧ w = (mW β a) T ∧ post v T)) : ∀ (f0 : Nat) (S : MSt) (x1 : Int32) (x2 : Int32) (x3 : Int32) (x4 : Int32) (x5 : Int32) (x6 : Int32) (x7 : Int32) , wX5_mostBy_18 post f0 S x1 x2 x3 x4 x5 x6 x7 → zV β 9 Γ ((mW β a) S) 18 [(0, .ref (a 0)), (1, .int x1), (2, .int x2), (3, .int x3), (4, .int x4), (5, .int x5), (6, .int x6), (7, .int x7)] [] := by
  intro f0
  induction f0 with
  | zero => intro S x1 x2 x3 x4 x5 x6 x7 h; exact h.elim
  | succ f0 ih0 =>
    intro S x1 x2 x3 x4 x5 x6 x7 h
    rw [wX5_mostBy_18] at h
    refine zv_iload (pc := 18) g dX5_mostBy_18 7 rfl ?_
    refine zv_iload_n (pc := 20) g dX5_mostBy_20 3 rfl rfl ?_
    refine zv_icmp_gt (pc := 21) 78 g dX5_mostBy_21 rfl (fun c2 => ?_) (fun c2 => ?_)
    · replace h := h.1 c2
      refine zv_iload (pc := 78) g dX5_mostBy_78 5 rfl ?_
      exact zv_iret (pc := 80) g hR dX5_mostBy_80 ⟨_, _, rfl, rfl, h⟩
    · replace h := h.2 c2
      refine zv_aload_n (pc := 24) g dX5_mostBy_24 0 rfl rfl ?_
      refine zv_iload_n (pc := 25) g dX5_mostBy_25 1 rfl rfl ?_
      refine zv_iload_n (pc := 26) g dX5_mostBy_26 2 rfl rfl ?_
      refine zv_iload (pc := 27) g dX5_mostBy_27 7 rfl ?_
      refine zv_cVv (pc := 29) g cw_X5_93 (ctX5_puts h) (by decide) (by decide) zz_p0 (mW β a) (fun T => zz_p1 T) (q := 0) rfl rfl rfl rfl rfl (Nat.le_of_ble_eq_true rfl) dX5_mostBy_29 (fun S3 h => ?_)
      refine zv_aload_n (pc := 32) g dX5_mostBy_32 0 rfl rfl ?_
      refine zv_iload (pc := 33) g dX5_mostBy_33 4 rfl ?_
      refine zv_cVi (pc := 35) g cw_X5_167 (ctX5_memoriesBehind h) (by decide) (by decide) zz_p0 (mW β a) (fun T => zz_p1 T) (q := 0) rfl rfl rfl rfl rfl (Nat.le_of_ble_eq_true rfl) dX5_mostBy_35 (fun v4 S5 h => ?_)
      refine zv_istore (pc := 38) [(8, .int v4), (0, .ref (a 0)), (1, .int x1), (2, .int x2), (3, .int x3), (4, .int x4), (5, .int x5), (6, .int x6), (7, .int x7)] g dX5_mostBy_38 (by decide) rfl ?_
      refine zv_iload (pc := 40) g dX5_mostBy_40 0 rfl ?_
      refine zv_iload (pc := 42) g dX5_mostBy_42 7 rfl ?_
      refine zv_icmp_le (pc := 44) 52 g dX5_mostBy_44 rfl (fun c6 => ?_) (fun c6 => ?_)
      · replace h := h.1 c6
        refine zv_iload (pc := 52) g dX5_mostBy_52 6 rfl ?_
        refine zv_sub [1, 2, 3, 4, 5, 7, 8, 0] rfl ?_
        exact lX5_mostBy_54 g hR ih0 _ _ _ _ _ _ _ _ _ h
      · replace h := h.2 c6
        refine zv_iload (pc := 47) g dX5_mostBy_47 8 rfl ?_
        refine zv_goto (pc := 49) 54 g dX5_mostBy_49 rfl ?_
        refine zv_sub [1, 2, 3, 4, 5, 7, 8, 0] rfl ?_
        exact lX5_mostBy_54 g hR ih0 _ _ _ _ _ _ _ _ _ h
def wX5_mostBy (post : Int32 → (MSt) → Prop) (S : MSt) (x1 : Int32) (x2 : Int32) (x3 : Int32) (x4 : Int32) : Prop := wX5_moveAll_tried (fun S1 => ∃ f8 : Nat, wX5_mostBy_18 post f8 S1 x1 x2 x3 x4 0 (-1) 0) S 1
set_option maxRecDepth 100000 in
set_option maxHeartbeats 4000000 in
theorem ctX5_mostBy {β : zz_B} {a : Nat → Nat} {post : Int32 → (MSt) → Prop} {S : MSt} {x1 : Int32} {x2 : Int32} {x3 : Int32} {x4 : Int32} (h : wX5_mostBy post S x1 x2 x3 x4) : zCi β yX5_mostBy cX5_mostBy 9 (some .int) 6 139 [.ref (a 0), .int x1, .int x2, .int x3, .int x4] (mW β a) S post := by
  unfold wX5_mostBy at h
  unfold zCi
  refine zC.of (by decide) (Nat.le_of_ble_eq_true rfl) ?_
  intro Γ g hR
  show zV β 9 Γ ((mW β a) S) 0 [(0, .ref (a 0)), (1, .int x1), (2, .int x2), (3, .int x3), (4, .int x4)] []
  refine zv_iconst (pc := 0) g dX5_mostBy_0 (v := 0) (by decide) ?_
  refine zv_istore (pc := 1) [(5, .int 0), (0, .ref (a 0)), (1, .int x1), (2, .int x2), (3, .int x3), (4, .int x4)] g dX5_mostBy_1 (by decide) rfl ?_
  refine zv_iconst (pc := 3) g dX5_mostBy_3 (v := (-1)) (by decide) ?_
  refine zv_istore (pc := 4) [(6, .int (-1)), (5, .int 0), (0, .ref (a 0)), (1, .int x1), (2, .int x2), (3, .int x3), (4, .int x4)] g dX5_mostBy_4 (by decide) rfl ?_
  refine zv_aload_n (pc := 6) g dX5_mostBy_6 2 rfl rfl ?_
  refine zv_iconst (pc := 7) g dX5_mostBy_7 (v := 1) (by decide) ?_
  refine zv_aload_n (pc := 8) g dX5_mostBy_8 2 rfl rfl ?_
  refine zv_get (pc := 9) g fl_X5_16 0 rfl rfl dX5_mostBy_9 ?_
  refine zv_cVv (pc := 12) g cw_X5_147 (ctX5_moveAll_tried h) (by decide) (by decide) zz_p0 (mW β a) (fun T => zz_p1 T) (q := 0) rfl rfl rfl rfl rfl (Nat.le_of_ble_eq_true rfl) dX5_mostBy_12 (fun S1 h => ?_)
  refine zv_iconst (pc := 15) g dX5_mostBy_15 (v := 0) (by decide) ?_
  refine zv_istore (pc := 16) [(7, .int 0), (6, .int (-1)), (5, .int 0), (0, .ref (a 0)), (1, .int x1), (2, .int x2), (3, .int x3), (4, .int x4)] g dX5_mostBy_16 (by decide) rfl ?_
  obtain ⟨f8, h⟩ := h
  refine zv_sub [3, 4, 5, 6, 7, 2, 1, 0] rfl ?_
  exact lX5_mostBy_18 g hR f8 _ _ _ _ _ _ _ _ h
def wX5_kind (post : Int32 → (MSt) → Prop) (S : MSt) (x1 : Int32) (x2 : Int32) : Prop := wX5_isOne (fun v1 => (v1 = 0 → wX5_finds (fun v3 S4 => post v3 S4) S (-1000000001)) ∧ (¬ v1 = 0 → wX5_in (fun v5 => (v5 = 0 → wX5_finds (fun v7 S8 => post v7 S8) S (-1000000001)) ∧ (¬ v5 = 0 → wX5_mostBy (fun v9 S10 => post v9 S10) S x1 0 5 x2)) x2 1 40)) S x1
set_option maxRecDepth 100000 in
set_option maxHeartbeats 4000000 in
theorem ctX5_kind {β : zz_B} {a : Nat → Nat} {post : Int32 → (MSt) → Prop} {S : MSt} {x1 : Int32} {x2 : Int32} (h : wX5_kind post S x1 x2) : zCi β yX5_kind cX5_kind 3 (some .int) 7 167 [.ref (a 0), .int x1, .int x2] (mW β a) S post := by
  unfold wX5_kind at h
  unfold zCi
  refine zC.of (by decide) (Nat.le_of_ble_eq_true rfl) ?_
  intro Γ g hR
  show zV β 3 Γ ((mW β a) S) 0 [(0, .ref (a 0)), (1, .int x1), (2, .int x2)] []
  refine zv_aload_n (pc := 0) g dX5_kind_0 0 rfl rfl ?_
  refine zv_iload_n (pc := 1) g dX5_kind_1 1 rfl rfl ?_
  refine zv_cVp (pc := 2) g cw_X5_103 (ctX5_isOne h) (by decide) (by decide) zz_p0 (q := 0) rfl rfl rfl rfl rfl (Nat.le_of_ble_eq_true rfl) dX5_kind_2 (fun v1 h => ?_)
  refine zv_if_eq (pc := 5) 29 g dX5_kind_5 rfl (fun c2 => ?_) (fun c2 => ?_)
  · replace h := h.1 c2
    refine zv_aload_n (pc := 29) g dX5_kind_29 0 rfl rfl ?_
    refine zv_ldc (pc := 30) g wd_744 dX5_kind_30 ?_
    refine zv_cVi (pc := 32) g cw_X5_57 (ctX5_finds h) (by decide) (by decide) zz_p0 (mW β a) (fun T => zz_p1 T) (q := 0) rfl rfl rfl rfl rfl (Nat.le_of_ble_eq_true rfl) dX5_kind_32 (fun v3 S4 h => ?_)
    exact zv_iret (pc := 35) g hR dX5_kind_35 ⟨_, _, rfl, rfl, h⟩
  · replace h := h.2 c2
    refine zv_iload_n (pc := 8) g dX5_kind_8 2 rfl rfl ?_
    refine zv_iconst (pc := 9) g dX5_kind_9 (v := 1) (by decide) ?_
    refine zv_bipush (pc := 10) g dX5_kind_10 (v := 40) (by decide) ?_
    refine zv_cSp (pc := 12) g cw_X5_49 (ctX5_in h) (by decide) (by decide) zz_pN rfl rfl (Nat.le_of_ble_eq_true rfl) dX5_kind_12 (fun v5 h => ?_)
    refine zv_if_eq (pc := 15) 29 g dX5_kind_15 rfl (fun c6 => ?_) (fun c6 => ?_)
    · replace h := h.1 c6
      refine zv_aload_n (pc := 29) g dX5_kind_29 0 rfl rfl ?_
      refine zv_ldc (pc := 30) g wd_744 dX5_kind_30 ?_
      refine zv_cVi (pc := 32) g cw_X5_57 (ctX5_finds h) (by decide) (by decide) zz_p0 (mW β a) (fun T => zz_p1 T) (q := 0) rfl rfl rfl rfl rfl (Nat.le_of_ble_eq_true rfl) dX5_kind_32 (fun v7 S8 h => ?_)
      exact zv_iret (pc := 35) g hR dX5_kind_35 ⟨_, _, rfl, rfl, h⟩
    · replace h := h.2 c6
      refine zv_aload_n (pc := 18) g dX5_kind_18 0 rfl rfl ?_
      refine zv_iload_n (pc := 19) g dX5_kind_19 1 rfl rfl ?_
      refine zv_iconst (pc := 20) g dX5_kind_20 (v := 0) (by decide) ?_
      refine zv_iconst (pc := 21) g dX5_kind_21 (v := 5) (by decide) ?_
      refine zv_iload_n (pc := 22) g dX5_kind_22 2 rfl rfl ?_
      refine zv_cVi (pc := 23) g cw_X5_170 (ctX5_mostBy h) (by decide) (by decide) zz_p0 (mW β a) (fun T => zz_p1 T) (q := 0) rfl rfl rfl rfl rfl (Nat.le_of_ble_eq_true rfl) dX5_kind_23 (fun v9 S10 h => ?_)
      refine zv_goto (pc := 26) 35 g dX5_kind_26 rfl ?_
      exact zv_iret (pc := 35) g hR dX5_kind_35 ⟨_, _, rfl, rfl, h⟩
def wX5_grime (post : Int32 → (MSt) → Prop) (S : MSt) (x1 : Int32) (x2 : Int32) : Prop := wX5_isOne (fun v1 => (v1 = 0 → wX5_finds (fun v3 S4 => post v3 S4) S (-1000000001)) ∧ (¬ v1 = 0 → wX5_in (fun v5 => (v5 = 0 → wX5_finds (fun v7 S8 => post v7 S8) S (-1000000001)) ∧ (¬ v5 = 0 → wX5_mostBy (fun v9 S10 => post v9 S10) S x1 2 99 x2)) x2 1 40)) S x1
set_option maxRecDepth 100000 in
set_option maxHeartbeats 4000000 in
theorem ctX5_grime {β : zz_B} {a : Nat → Nat} {post : Int32 → (MSt) → Prop} {S : MSt} {x1 : Int32} {x2 : Int32} (h : wX5_grime post S x1 x2) : zCi β yX5_grime cX5_grime 3 (some .int) 7 167 [.ref (a 0), .int x1, .int x2] (mW β a) S post := by
  unfold wX5_grime at h
  unfold zCi
  refine zC.of (by decide) (Nat.le_of_ble_eq_true rfl) ?_
  intro Γ g hR
  show zV β 3 Γ ((mW β a) S) 0 [(0, .ref (a 0)), (1, .int x1), (2, .int x2)] []
  refine zv_aload_n (pc := 0) g dX5_grime_0 0 rfl rfl ?_
  refine zv_iload_n (pc := 1) g dX5_grime_1 1 rfl rfl ?_
  refine zv_cVp (pc := 2) g cw_X5_103 (ctX5_isOne h) (by decide) (by decide) zz_p0 (q := 0) rfl rfl rfl rfl rfl (Nat.le_of_ble_eq_true rfl) dX5_grime_2 (fun v1 h => ?_)
  refine zv_if_eq (pc := 5) 30 g dX5_grime_5 rfl (fun c2 => ?_) (fun c2 => ?_)
  · replace h := h.1 c2
    refine zv_aload_n (pc := 30) g dX5_grime_30 0 rfl rfl ?_
    refine zv_ldc (pc := 31) g wd_744 dX5_grime_31 ?_
    refine zv_cVi (pc := 33) g cw_X5_57 (ctX5_finds h) (by decide) (by decide) zz_p0 (mW β a) (fun T => zz_p1 T) (q := 0) rfl rfl rfl rfl rfl (Nat.le_of_ble_eq_true rfl) dX5_grime_33 (fun v3 S4 h => ?_)
    exact zv_iret (pc := 36) g hR dX5_grime_36 ⟨_, _, rfl, rfl, h⟩
  · replace h := h.2 c2
    refine zv_iload_n (pc := 8) g dX5_grime_8 2 rfl rfl ?_
    refine zv_iconst (pc := 9) g dX5_grime_9 (v := 1) (by decide) ?_
    refine zv_bipush (pc := 10) g dX5_grime_10 (v := 40) (by decide) ?_
    refine zv_cSp (pc := 12) g cw_X5_49 (ctX5_in h) (by decide) (by decide) zz_pN rfl rfl (Nat.le_of_ble_eq_true rfl) dX5_grime_12 (fun v5 h => ?_)
    refine zv_if_eq (pc := 15) 30 g dX5_grime_15 rfl (fun c6 => ?_) (fun c6 => ?_)
    · replace h := h.1 c6
      refine zv_aload_n (pc := 30) g dX5_grime_30 0 rfl rfl ?_
      refine zv_ldc (pc := 31) g wd_744 dX5_grime_31 ?_
      refine zv_cVi (pc := 33) g cw_X5_57 (ctX5_finds h) (by decide) (by decide) zz_p0 (mW β a) (fun T => zz_p1 T) (q := 0) rfl rfl rfl rfl rfl (Nat.le_of_ble_eq_true rfl) dX5_grime_33 (fun v7 S8 h => ?_)
      exact zv_iret (pc := 36) g hR dX5_grime_36 ⟨_, _, rfl, rfl, h⟩
    · replace h := h.2 c6
      refine zv_aload_n (pc := 18) g dX5_grime_18 0 rfl rfl ?_
      refine zv_iload_n (pc := 19) g dX5_grime_19 1 rfl rfl ?_
      refine zv_iconst (pc := 20) g dX5_grime_20 (v := 2) (by decide) ?_
      refine zv_bipush (pc := 21) g dX5_grime_21 (v := 99) (by decide) ?_
      refine zv_iload_n (pc := 23) g dX5_grime_23 2 rfl rfl ?_
      refine zv_cVi (pc := 24) g cw_X5_170 (ctX5_mostBy h) (by decide) (by decide) zz_p0 (mW β a) (fun T => zz_p1 T) (q := 0) rfl rfl rfl rfl rfl (Nat.le_of_ble_eq_true rfl) dX5_grime_24 (fun v9 S10 h => ?_)
      refine zv_goto (pc := 27) 36 g dX5_grime_27 rfl ?_
      exact zv_iret (pc := 36) g hR dX5_grime_36 ⟨_, _, rfl, rfl, h⟩
def wX5_best_72 (post : Int32 → (MSt) → Prop) (k35 : (MSt) → (Int32) → (Int32) → (Int32) → (Int32) → Prop) (S : MSt) (x1 : Int32) (x3 : Int32) (x4 : Int32) (x5 : Int32) (s0 : Int32) : Prop := (x3 ≤ x5 → k35 S x1 s0 x3 (x4 + 1)) ∧ (¬ x3 ≤ x5 → k35 S x1 s0 x5 (x4 + 1))
set_option maxRecDepth 100000 in
set_option maxHeartbeats 4000000 in
theorem lX5_best_72 {β : zz_B} {Γ : zz_X} {a : Nat → Nat} {post : Int32 → (MSt) → Prop} {k35 : (MSt) → (Int32) → (Int32) → (Int32) → (Int32) → Prop} (g : zG β 6 Γ cX5_best RX5 6 139) (hR : zR β Γ (some .int) (fun r w => ∃ (v : Int32) (T : MSt), r = some (.int v) ∧ w = (mW β a) T ∧ post v T)) (hk35 : ∀ (S : MSt) (x1 : Int32) (x2 : Int32) (x3 : Int32) (x4 : Int32), k35 S x1 x2 x3 x4 → zV β 6 Γ ((mW β a) S) 35 [(0, .ref (a 0)), (1, .int x1), (2, .int x2), (3, .int x3), (4, .int x4)] []) (S : MSt) (x1 : Int32) (x3 : Int32) (x4 : Int32) (x5 : Int32) (s0 : Int32) (h : wX5_best_72 post k35 S x1 x3 x4 x5 s0) : zV β 6 Γ ((mW β a) S) 72 [(0, .ref (a 0)), (1, .int x1), (3, .int x3), (4, .int x4), (5, .int x5)] [.int s0] := by
  unfold wX5_best_72 at h
  refine zv_istore_n (pc := 72) 2 [(2, .int s0), (0, .ref (a 0)), (1, .int x1), (3, .int x3), (4, .int x4), (5, .int x5)] g dX5_best_72 rfl (by decide) rfl ?_
  refine zv_iload (pc := 73) g dX5_best_73 5 rfl ?_
  refine zv_iload_n (pc := 75) g dX5_best_75 3 rfl rfl ?_
  refine zv_icmp_ge (pc := 76) 84 g dX5_best_76 rfl (fun c13 => ?_) (fun c13 => ?_)
  · replace h := h.1 c13
    refine zv_iload_n (pc := 84) g dX5_best_84 3 rfl rfl ?_
    refine zv_istore_n (pc := 85) 3 [(3, .int x3), (2, .int s0), (0, .ref (a 0)), (1, .int x1), (4, .int x4), (5, .int x5)] g dX5_best_85 rfl (by decide) rfl ?_
    refine zv_iinc (pc := 86) 1 [(4, .int (x4 + 1)), (3, .int x3), (2, .int s0), (0, .ref (a 0)), (1, .int x1), (5, .int x5)] g dX5_best_86 4 rfl (by decide) (by decide) rfl ?_
    refine zv_goto (pc := 89) 35 g dX5_best_89 rfl ?_
    refine zv_sub [3, 4, 2, 1, 0] rfl ?_
    exact hk35 _ _ _ _ _ h
  · replace h := h.2 c13
    refine zv_iload (pc := 79) g dX5_best_79 5 rfl ?_
    refine zv_goto (pc := 81) 85 g dX5_best_81 rfl ?_
    refine zv_istore_n (pc := 85) 3 [(3, .int x5), (2, .int s0), (0, .ref (a 0)), (1, .int x1), (4, .int x4), (5, .int x5)] g dX5_best_85 rfl (by decide) rfl ?_
    refine zv_iinc (pc := 86) 1 [(4, .int (x4 + 1)), (3, .int x5), (2, .int s0), (0, .ref (a 0)), (1, .int x1), (5, .int x5)] g dX5_best_86 4 rfl (by decide) (by decide) rfl ?_
    refine zv_goto (pc := 89) 35 g dX5_best_89 rfl ?_
    refine zv_sub [3, 4, 2, 1, 0] rfl ?_
    exact hk35 _ _ _ _ _ h
def wX5_best_35 (post : Int32 → (MSt) → Prop) : Nat → (MSt) → (Int32) → (Int32) → (Int32) → (Int32) → Prop
  | 0, _, _, _, _, _ => False
  | f0 + 1, S, x1, x2, x3, x4 => vp_in 2 51 ∧ (((m_row S (Int32.toNatClampNeg 2)) ≤ x4 → (0 ≤ x2 → post x2 S) ∧ (¬ 0 ≤ x2 → wX5_finds (fun v6 S7 => post v6 S7) S (-1000000004))) ∧ (¬ (m_row S (Int32.toNatClampNeg 2)) ≤ x4 → wX5_washes (fun v8 S9 => wX5_dustBehind (fun v10 S11 => (x3 ≤ v10 → wX5_best_72 post (wX5_best_35 post f0) S11 x1 x3 x4 v10 x2) ∧ (¬ x3 ≤ v10 → wX5_best_72 post (wX5_best_35 post f0) S11 x1 x3 x4 v10 x4)) S9 x1) S x4))
set_option maxRecDepth 100000 in
set_option maxHeartbeats 4000000 in
theorem lX5_best_35 {β : zz_B} {Γ : zz_X} {a : Nat → Nat} {post : Int32 → (MSt) → Prop} (g : zG β 6 Γ cX5_best RX5 6 139) (hR : zR β Γ (some .int) (fun r w => ∃ (v : Int32) (T : MSt), r = some (.int v) ∧ w = (mW β a) T ∧ post v T)) : ∀ (f0 : Nat) (S : MSt) (x1 : Int32) (x2 : Int32) (x3 : Int32) (x4 : Int32) , wX5_best_35 post f0 S x1 x2 x3 x4 → zV β 6 Γ ((mW β a) S) 35 [(0, .ref (a 0)), (1, .int x1), (2, .int x2), (3, .int x3), (4, .int x4)] [] := by
  intro f0
  induction f0 with
  | zero => intro S x1 x2 x3 x4 h; exact h.elim
  | succ f0 ih0 =>
    intro S x1 x2 x3 x4 h
    rw [wX5_best_35] at h
    refine zv_iload (pc := 35) g dX5_best_35 4 rfl ?_
    refine zv_aload_n (pc := 37) g dX5_best_37 0 rfl rfl ?_
    refine zv_get (pc := 38) g fl_X5_7 0 rfl rfl dX5_best_38 ?_
    refine zv_iconst (pc := 41) g dX5_best_41 (v := 2) (by decide) ?_
    obtain ⟨hi, h⟩ := h
    refine zv_iald (pc := 42) g 1 rfl hi dX5_best_42 ?_
    refine zv_icmp_ge (pc := 43) 92 g dX5_best_43 rfl (fun c4 => ?_) (fun c4 => ?_)
    · replace h := h.1 c4
      refine zv_iload_n (pc := 92) g dX5_best_92 2 rfl rfl ?_
      refine zv_if_ge (pc := 93) 105 g dX5_best_93 rfl (fun c5 => ?_) (fun c5 => ?_)
      · replace h := h.1 c5
        refine zv_iload_n (pc := 105) g dX5_best_105 2 rfl rfl ?_
        exact zv_iret (pc := 106) g hR dX5_best_106 ⟨_, _, rfl, rfl, h⟩
      · replace h := h.2 c5
        refine zv_aload_n (pc := 96) g dX5_best_96 0 rfl rfl ?_
        refine zv_ldc (pc := 97) g wd_918 dX5_best_97 ?_
        refine zv_cVi (pc := 99) g cw_X5_57 (ctX5_finds h) (by decide) (by decide) zz_p0 (mW β a) (fun T => zz_p1 T) (q := 0) rfl rfl rfl rfl rfl (Nat.le_of_ble_eq_true rfl) dX5_best_99 (fun v6 S7 h => ?_)
        refine zv_goto (pc := 102) 106 g dX5_best_102 rfl ?_
        exact zv_iret (pc := 106) g hR dX5_best_106 ⟨_, _, rfl, rfl, h⟩
    · replace h := h.2 c4
      refine zv_aload_n (pc := 46) g dX5_best_46 0 rfl rfl ?_
      refine zv_iload (pc := 47) g dX5_best_47 4 rfl ?_
      refine zv_cVi (pc := 49) g cw_X5_133 (ctX5_washes h) (by decide) (by decide) zz_p0 (mW β a) (fun T => zz_p1 T) (q := 0) rfl rfl rfl rfl rfl (Nat.le_of_ble_eq_true rfl) dX5_best_49 (fun v8 S9 h => ?_)
      refine zv_pop (pc := 52) g dX5_best_52 rfl ?_
      refine zv_aload_n (pc := 53) g dX5_best_53 0 rfl rfl ?_
      refine zv_iload_n (pc := 54) g dX5_best_54 1 rfl rfl ?_
      refine zv_cVi (pc := 55) g cw_X5_164 (ctX5_dustBehind h) (by decide) (by decide) zz_p0 (mW β a) (fun T => zz_p1 T) (q := 0) rfl rfl rfl rfl rfl (Nat.le_of_ble_eq_true rfl) dX5_best_55 (fun v10 S11 h => ?_)
      refine zv_istore (pc := 58) [(5, .int v10), (0, .ref (a 0)), (1, .int x1), (2, .int x2), (3, .int x3), (4, .int x4)] g dX5_best_58 (by decide) rfl ?_
      refine zv_iload (pc := 60) g dX5_best_60 0 rfl ?_
      refine zv_iload_n (pc := 62) g dX5_best_62 4 rfl rfl ?_
      refine zv_icmp_ge (pc := 63) 71 g dX5_best_63 rfl (fun c12 => ?_) (fun c12 => ?_)
      · replace h := h.1 c12
        refine zv_iload_n (pc := 71) g dX5_best_71 3 rfl rfl ?_
        refine zv_sub [1, 2, 4, 5, 0] rfl ?_
        exact lX5_best_72 g hR ih0 _ _ _ _ _ _ h
      · replace h := h.2 c12
        refine zv_iload (pc := 66) g dX5_best_66 5 rfl ?_
        refine zv_goto (pc := 68) 72 g dX5_best_68 rfl ?_
        refine zv_sub [1, 2, 4, 5, 0] rfl ?_
        exact lX5_best_72 g hR ih0 _ _ _ _ _ _ h
def wX5_best (post : Int32 → (MSt) → Prop) (S : MSt) (x1 : Int32) : Prop := wX5_in (fun v1 => (¬ v1 = 0 → wX5_moveAll_tried (fun S3 => ∃ f14 : Nat, wX5_best_35 post f14 S3 x1 (-1) 793 0) S 1) ∧ (v1 = 0 → wX5_finds (fun v15 S16 => post v15 S16) S (-1000000001))) x1 1 40
set_option maxRecDepth 100000 in
set_option maxHeartbeats 4000000 in
theorem ctX5_best {β : zz_B} {a : Nat → Nat} {post : Int32 → (MSt) → Prop} {S : MSt} {x1 : Int32} (h : wX5_best post S x1) : zCi β yX5_best cX5_best 6 (some .int) 6 139 [.ref (a 0), .int x1] (mW β a) S post := by
  unfold wX5_best at h
  unfold zCi
  refine zC.of (by decide) (Nat.le_of_ble_eq_true rfl) ?_
  intro Γ g hR
  show zV β 6 Γ ((mW β a) S) 0 [(0, .ref (a 0)), (1, .int x1)] []
  refine zv_iload_n (pc := 0) g dX5_best_0 1 rfl rfl ?_
  refine zv_iconst (pc := 1) g dX5_best_1 (v := 1) (by decide) ?_
  refine zv_bipush (pc := 2) g dX5_best_2 (v := 40) (by decide) ?_
  refine zv_cSp (pc := 4) g cw_X5_49 (ctX5_in h) (by decide) (by decide) zz_pN rfl rfl (Nat.le_of_ble_eq_true rfl) dX5_best_4 (fun v1 h => ?_)
  refine zv_if_ne (pc := 7) 17 g dX5_best_7 rfl (fun c2 => ?_) (fun c2 => ?_)
  · replace h := h.1 c2
    refine zv_iconst (pc := 17) g dX5_best_17 (v := (-1)) (by decide) ?_
    refine zv_istore_n (pc := 18) 2 [(2, .int (-1)), (0, .ref (a 0)), (1, .int x1)] g dX5_best_18 rfl (by decide) rfl ?_
    refine zv_sipush (pc := 19) g dX5_best_19 (v := 793) (by decide) ?_
    refine zv_istore_n (pc := 22) 3 [(3, .int 793), (2, .int (-1)), (0, .ref (a 0)), (1, .int x1)] g dX5_best_22 rfl (by decide) rfl ?_
    refine zv_aload_n (pc := 23) g dX5_best_23 2 rfl rfl ?_
    refine zv_iconst (pc := 24) g dX5_best_24 (v := 1) (by decide) ?_
    refine zv_aload_n (pc := 25) g dX5_best_25 2 rfl rfl ?_
    refine zv_get (pc := 26) g fl_X5_16 0 rfl rfl dX5_best_26 ?_
    refine zv_cVv (pc := 29) g cw_X5_147 (ctX5_moveAll_tried h) (by decide) (by decide) zz_p0 (mW β a) (fun T => zz_p1 T) (q := 0) rfl rfl rfl rfl rfl (Nat.le_of_ble_eq_true rfl) dX5_best_29 (fun S3 h => ?_)
    refine zv_iconst (pc := 32) g dX5_best_32 (v := 0) (by decide) ?_
    refine zv_istore (pc := 33) [(4, .int 0), (3, .int 793), (2, .int (-1)), (0, .ref (a 0)), (1, .int x1)] g dX5_best_33 (by decide) rfl ?_
    obtain ⟨f14, h⟩ := h
    refine zv_sub [3, 4, 2, 1, 0] rfl ?_
    exact lX5_best_35 g hR f14 _ _ _ _ _ h
  · replace h := h.2 c2
    refine zv_aload_n (pc := 10) g dX5_best_10 0 rfl rfl ?_
    refine zv_ldc (pc := 11) g wd_744 dX5_best_11 ?_
    refine zv_cVi (pc := 13) g cw_X5_57 (ctX5_finds h) (by decide) (by decide) zz_p0 (mW β a) (fun T => zz_p1 T) (q := 0) rfl rfl rfl rfl rfl (Nat.le_of_ble_eq_true rfl) dX5_best_13 (fun v15 S16 h => ?_)
    exact zv_iret (pc := 16) g hR dX5_best_16 ⟨_, _, rfl, rfl, h⟩
