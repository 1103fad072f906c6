def wX3_put (post : (TSt) → Prop) (S : TSt) (x1 : Int32) : Prop := ((120 : Int32) ≤ (t_length S) → post S) ∧ (¬ (120 : Int32) ≤ (t_length S) → vp_in (t_length S) 120 ∧ (∀ S2 : TSt, S2 = (t_bytes_s S (upd (t_bytes S) (Int32.toNatClampNeg (t_length S)) x1)) → (∀ S3 : TSt, S3 = (t_length_s S2 ((t_length S2) + 1)) → (post S3))))
set_option maxRecDepth 100000 in
set_option maxHeartbeats 4000000 in
theorem ctX3_put {β : zz_B} {t : Nat → Nat} {post : (TSt) → Prop} {S : TSt} {x1 : Int32} (h : wX3_put post S x1) : zCv β yX3_put cX3_put 2 none 0 0 [.ref (t 0), .int x1] (tW β t) S post := by
  unfold wX3_put at h
  unfold zCv
  refine zC.of (by decide) (Nat.le_of_ble_eq_true rfl) ?_
  intro Γ g hR
  show zV β 2 Γ ((tW β t) S) 0 [(0, .ref (t 0)), (1, .int x1)] []
  refine zv_aload_n (pc := 0) g dX3_put_0 0 rfl rfl ?_
  refine zv_get (pc := 1) g fl_X3_15 0 rfl rfl dX3_put_1 ?_
  refine zv_bipush (pc := 4) g dX3_put_4 (v := 120) (by decide) ?_
  refine zv_icmp_ge (pc := 6) 29 g dX3_put_6 rfl (fun c1 => ?_) (fun c1 => ?_)
  · replace h := h.1 c1
    exact zv_vret (pc := 29) g hR dX3_put_29 ⟨_, rfl, rfl, h⟩
  · replace h := h.2 c1
    refine zv_aload_n (pc := 9) g dX3_put_9 0 rfl rfl ?_
    refine zv_get (pc := 10) g fl_X3_9 0 rfl rfl dX3_put_10 ?_
    refine zv_aload_n (pc := 13) g dX3_put_13 0 rfl rfl ?_
    refine zv_get (pc := 14) g fl_X3_15 0 rfl rfl dX3_put_14 ?_
    refine zv_iload_n (pc := 17) g dX3_put_17 1 rfl rfl ?_
    obtain ⟨hi, h⟩ := h
    refine zv_ials (pc := 18) ((tW β t) (t_bytes_s S (upd (t_bytes S) (Int32.toNatClampNeg (t_length S)) x1))) g 1 rfl hi rfl dX3_put_18 ?_
    refine zv_nmS (wf := (tW β t)) (fun S2 eS2 => ?_)
    replace h := h S2 eS2
    refine zv_aload_n (pc := 19) g dX3_put_19 0 rfl rfl ?_
    refine zv_dup (pc := 20) g dX3_put_20 rfl ?_
    refine zv_get (pc := 21) g fl_X3_15 0 rfl rfl dX3_put_21 ?_
    refine zv_iconst (pc := 24) g dX3_put_24 (v := 1) (by decide) ?_
    refine zv_iadd (pc := 25) g dX3_put_25 ?_
    refine zv_put (pc := 26) ((tW β t) (t_length_s S2 ((t_length S2) + 1))) g fp_X3_15 0 rfl rfl rfl (Nat.le_of_ble_eq_true rfl) rfl dX3_put_26 ?_
    refine zv_nmS (wf := (tW β t)) (fun S3 eS3 => ?_)
    replace h := h S3 eS3
    exact zv_vret (pc := 29) g hR dX3_put_29 ⟨_, rfl, rfl, h⟩
def wX3_isLetter (post : Int32 → Prop) (x0 : Int32) : Prop := (x0 < (97 : Int32) → post 0) ∧ (¬ x0 < (97 : Int32) → ((122 : Int32) < x0 → post 0) ∧ (¬ (122 : Int32) < x0 → post 1))
set_option maxRecDepth 100000 in
set_option maxHeartbeats 4000000 in
theorem ctX3_isLetter {β : zz_B} {post : Int32 → Prop} {x0 : Int32} (h : wX3_isLetter post x0) : zCp β yX3_isLetter cX3_isLetter 1 (some .boolean) 0 0 [.int x0] [] post := by
  unfold wX3_isLetter at h
  unfold zCp
  refine zC.of (by decide) (Nat.le_of_ble_eq_true rfl) ?_
  intro Γ g hR
  show zV β 1 Γ [] 0 [(0, .int x0)] []
  refine zv_iload_n (pc := 0) g dX3_isLetter_0 0 rfl rfl ?_
  refine zv_bipush (pc := 1) g dX3_isLetter_1 (v := 97) (by decide) ?_
  refine zv_icmp_lt (pc := 3) 16 g dX3_isLetter_3 rfl (fun c1 => ?_) (fun c1 => ?_)
  · replace h := h.1 c1
    refine zv_iconst (pc := 16) g dX3_isLetter_16 (v := 0) (by decide) ?_
    exact zv_zret (pc := 17) g hR (by decide) dX3_isLetter_17 ⟨_, rfl, rfl, h⟩
  · replace h := h.2 c1
    refine zv_iload_n (pc := 6) g dX3_isLetter_6 0 rfl rfl ?_
    refine zv_bipush (pc := 7) g dX3_isLetter_7 (v := 122) (by decide) ?_
    refine zv_icmp_gt (pc := 9) 16 g dX3_isLetter_9 rfl (fun c2 => ?_) (fun c2 => ?_)
    · replace h := h.1 c2
      refine zv_iconst (pc := 16) g dX3_isLetter_16 (v := 0) (by decide) ?_
      exact zv_zret (pc := 17) g hR (by decide) dX3_isLetter_17 ⟨_, rfl, rfl, h⟩
    · replace h := h.2 c2
      refine zv_iconst (pc := 12) g dX3_isLetter_12 (v := 1) (by decide) ?_
      refine zv_goto (pc := 13) 17 g dX3_isLetter_13 rfl ?_
      exact zv_zret (pc := 17) g hR (by decide) dX3_isLetter_17 ⟨_, rfl, rfl, h⟩
def wX3_nameOf (post : Nat → Prop) (x0 : Int32) : Prop := (x0 = 0 → post 0) ∧ (x0 = 1 → post 1) ∧ (x0 = 2 → post 2) ∧ (x0 = 3 → post 3) ∧ (x0 = 4 → post 4) ∧ (x0 = 5 → post 5) ∧ (x0 = 6 → post 6) ∧ (x0 = 7 → post 7) ∧ (x0 = 8 → post 8) ∧ (x0 = 9 → post 9) ∧ (x0 = 10 → post 10) ∧ (x0 = 11 → post 11) ∧ (x0 = 12 → post 12) ∧ ((x0.toInt < 0 ∨ 12 < x0.toInt) → post 13)
set_option maxRecDepth 100000 in
theorem ctX3_nameOf {β : zz_B} {post : Nat → Prop} {x0 : Int32} (h : wX3_nameOf post x0) : zCr β yX3_nameOf cX3_nameOf 1 (some (.object "java/lang/String")) 0 0 [.int x0] [] (fun k => .ref (β.2.2.2.1 k)) post := by
  unfold wX3_nameOf at h
  unfold zCr
  refine zC.of (by decide) (Nat.le_of_ble_eq_true rfl) ?_
  intro Γ g hR
  show zV β 1 Γ [] 0 [(0, .int x0)] []
  refine zv_iload_n (pc := 0) g dX3_nameOf_0 0 rfl rfl ?_
  rcases zz_ts_0_12 x0 with c | c | c | c | c | c | c | c | c | c | c | c | c | c
  · refine zv_tblIn (pc := 1) 0 68 g dX3_nameOf_1 c (by decide) (by decide) rfl rfl ?_
    replace h := h.1 c
    refine zv_ldcs (pc := 68) (k := 0) g (by decide) rfl dX3_nameOf_68 ?_
    exact zv_aret (pc := 70) g hR (Or.inl ⟨_, rfl⟩) (Or.inr ⟨_, rfl⟩) dX3_nameOf_70 ⟨0, rfl, rfl, h⟩
  · refine zv_tblIn (pc := 1) 1 71 g dX3_nameOf_1 c (by decide) (by decide) rfl rfl ?_
    replace h := h.2.1 c
    refine zv_ldcs (pc := 71) (k := 1) g (by decide) rfl dX3_nameOf_71 ?_
    exact zv_aret (pc := 73) g hR (Or.inl ⟨_, rfl⟩) (Or.inr ⟨_, rfl⟩) dX3_nameOf_73 ⟨1, rfl, rfl, h⟩
  · refine zv_tblIn (pc := 1) 2 74 g dX3_nameOf_1 c (by decide) (by decide) rfl rfl ?_
    replace h := h.2.2.1 c
    refine zv_ldcs (pc := 74) (k := 2) g (by decide) rfl dX3_nameOf_74 ?_
    exact zv_aret (pc := 76) g hR (Or.inl ⟨_, rfl⟩) (Or.inr ⟨_, rfl⟩) dX3_nameOf_76 ⟨2, rfl, rfl, h⟩
  · refine zv_tblIn (pc := 1) 3 77 g dX3_nameOf_1 c (by decide) (by decide) rfl rfl ?_
    replace h := h.2.2.2.1 c
    refine zv_ldcs (pc := 77) (k := 3) g (by decide) rfl dX3_nameOf_77 ?_
    exact zv_aret (pc := 79) g hR (Or.inl ⟨_, rfl⟩) (Or.inr ⟨_, rfl⟩) dX3_nameOf_79 ⟨3, rfl, rfl, h⟩
  · refine zv_tblIn (pc := 1) 4 80 g dX3_nameOf_1 c (by decide) (by decide) rfl rfl ?_
    replace h := h.2.2.2.2.1 c
    refine zv_ldcs (pc := 80) (k := 4) g (by decide) rfl dX3_nameOf_80 ?_
    exact zv_aret (pc := 82) g hR (Or.inl ⟨_, rfl⟩) (Or.inr ⟨_, rfl⟩) dX3_nameOf_82 ⟨4, rfl, rfl, h⟩
  · refine zv_tblIn (pc := 1) 5 83 g dX3_nameOf_1 c (by decide) (by decide) rfl rfl ?_
    replace h := h.2.2.2.2.2.1 c
    refine zv_ldcs (pc := 83) (k := 5) g (by decide) rfl dX3_nameOf_83 ?_
    exact zv_aret (pc := 85) g hR (Or.inl ⟨_, rfl⟩) (Or.inr ⟨_, rfl⟩) dX3_nameOf_85 ⟨5, rfl, rfl, h⟩
  · refine zv_tblIn (pc := 1) 6 86 g dX3_nameOf_1 c (by decide) (by decide) rfl rfl ?_
    replace h := h.2.2.2.2.2.2.1 c
    refine zv_ldcs (pc := 86) (k := 6) g (by decide) rfl dX3_nameOf_86 ?_
    exact zv_aret (pc := 88) g hR (Or.inl ⟨_, rfl⟩) (Or.inr ⟨_, rfl⟩) dX3_nameOf_88 ⟨6, rfl, rfl, h⟩
  · refine zv_tblIn (pc := 1) 7 89 g dX3_nameOf_1 c (by decide) (by decide) rfl rfl ?_
    replace h := h.2.2.2.2.2.2.2.1 c
    refine zv_ldcs (pc := 89) (k := 7) g (by decide) rfl dX3_nameOf_89 ?_
    exact zv_aret (pc := 91) g hR (Or.inl ⟨_, rfl⟩) (Or.inr ⟨_, rfl⟩) dX3_nameOf_91 ⟨7, rfl, rfl, h⟩
  · refine zv_tblIn (pc := 1) 8 92 g dX3_nameOf_1 c (by decide) (by decide) rfl rfl ?_
    replace h := h.2.2.2.2.2.2.2.2.1 c
    refine zv_ldcs (pc := 92) (k := 8) g (by decide) rfl dX3_nameOf_92 ?_
    exact zv_aret (pc := 94) g hR (Or.inl ⟨_, rfl⟩) (Or.inr ⟨_, rfl⟩) dX3_nameOf_94 ⟨8, rfl, rfl, h⟩
  · refine zv_tblIn (pc := 1) 9 95 g dX3_nameOf_1 c (by decide) (by decide) rfl rfl ?_
    replace h := h.2.2.2.2.2.2.2.2.2.1 c
    refine zv_ldcs (pc := 95) (k := 9) g (by decide) rfl dX3_nameOf_95 ?_
    exact zv_aret (pc := 97) g hR (Or.inl ⟨_, rfl⟩) (Or.inr ⟨_, rfl⟩) dX3_nameOf_97 ⟨9, rfl, rfl, h⟩
  · refine zv_tblIn (pc := 1) 10 98 g dX3_nameOf_1 c (by decide) (by decide) rfl rfl ?_
    replace h := h.2.2.2.2.2.2.2.2.2.2.1 c
    refine zv_ldcs (pc := 98) (k := 10) g (by decide) rfl dX3_nameOf_98 ?_
    exact zv_aret (pc := 100) g hR (Or.inl ⟨_, rfl⟩) (Or.inr ⟨_, rfl⟩) dX3_nameOf_100 ⟨10, rfl, rfl, h⟩
  · refine zv_tblIn (pc := 1) 11 101 g dX3_nameOf_1 c (by decide) (by decide) rfl rfl ?_
    replace h := h.2.2.2.2.2.2.2.2.2.2.2.1 c
    refine zv_ldcs (pc := 101) (k := 11) g (by decide) rfl dX3_nameOf_101 ?_
    exact zv_aret (pc := 103) g hR (Or.inl ⟨_, rfl⟩) (Or.inr ⟨_, rfl⟩) dX3_nameOf_103 ⟨11, rfl, rfl, h⟩
  · refine zv_tblIn (pc := 1) 12 104 g dX3_nameOf_1 c (by decide) (by decide) rfl rfl ?_
    replace h := h.2.2.2.2.2.2.2.2.2.2.2.2.1 c
    refine zv_ldcs (pc := 104) (k := 12) g (by decide) rfl dX3_nameOf_104 ?_
    exact zv_aret (pc := 106) g hR (Or.inl ⟨_, rfl⟩) (Or.inr ⟨_, rfl⟩) dX3_nameOf_106 ⟨12, rfl, rfl, h⟩
  · refine zv_tblOut (pc := 1) 107 g dX3_nameOf_1 c rfl ?_
    replace h := h.2.2.2.2.2.2.2.2.2.2.2.2.2 c
    refine zv_ldcs (pc := 107) (k := 13) g (by decide) rfl dX3_nameOf_107 ?_
    exact zv_aret (pc := 109) g hR (Or.inl ⟨_, rfl⟩) (Or.inr ⟨_, rfl⟩) dX3_nameOf_109 ⟨13, rfl, rfl, h⟩
def wX3_stepOverWord_114 (post : (TSt) → Prop) (k49 : (TSt) → Prop) (n5 : Nat) (S : TSt) (x2 : Int32) : Prop := (¬ x2 = (nI (zz_len.getD n5 0)) → ∀ S8 : TSt, S8 = (t_value_s S ((t_value S) + 1)) → (k49 S8)) ∧ (x2 = (nI (zz_len.getD n5 0)) → (¬ ((t_start S) + x2) = (t_end S) → ∀ S10 : TSt, S10 = (t_value_s S ((t_value S) + 1)) → (k49 S10)) ∧ (((t_start S) + x2) = (t_end S) → post S))
set_option maxRecDepth 100000 in
set_option maxHeartbeats 4000000 in
theorem lX3_stepOverWord_114 {β : zz_B} {Γ : zz_X} {t : Nat → Nat} {post : (TSt) → Prop} {n5 : Nat} {k49 : (TSt) → Prop} (g : zG β 3 Γ cX3_stepOverWord RX3 4 85) (hR : zR β Γ none (fun r w => ∃ T : TSt, r = none ∧ w = (tW β t) T ∧ post T)) (h_n5 : n5 < 14) (hk49 : ∀ (S : TSt), k49 S → zV β 3 Γ ((tW β t) S) 49 [(0, .ref (t 0))] []) (S : TSt) (x2 : Int32) (h : wX3_stepOverWord_114 post k49 n5 S x2) : zV β 3 Γ ((tW β t) S) 114 [(0, .ref (t 0)), (1, .ref (β.2.2.2.1 n5)), (2, .int x2)] [] := by
  unfold wX3_stepOverWord_114 at h
  refine zv_iload_n (pc := 114) g dX3_stepOverWord_114 2 rfl rfl ?_
  refine zv_aload_n (pc := 115) g dX3_stepOverWord_115 1 rfl rfl ?_
  refine zv_strlen (pc := 116) g h_n5 (by decide) (by decide) (Nat.le_of_ble_eq_true rfl) dX3_stepOverWord_116 ?_
  refine zv_icmp_ne (pc := 119) 136 g dX3_stepOverWord_119 rfl (fun c7 => ?_) (fun c7 => ?_)
  · replace h := h.1 c7
    refine zv_aload_n (pc := 136) g dX3_stepOverWord_136 0 rfl rfl ?_
    refine zv_dup (pc := 137) g dX3_stepOverWord_137 rfl ?_
    refine zv_get (pc := 138) g fl_X3_22 0 rfl rfl dX3_stepOverWord_138 ?_
    refine zv_iconst (pc := 141) g dX3_stepOverWord_141 (v := 1) (by decide) ?_
    refine zv_iadd (pc := 142) g dX3_stepOverWord_142 ?_
    refine zv_put (pc := 143) ((tW β t) (t_value_s S ((t_value S) + 1))) g fp_X3_22 0 rfl rfl rfl (Nat.le_of_ble_eq_true rfl) rfl dX3_stepOverWord_143 ?_
    refine zv_nmS (wf := (tW β t)) (fun S8 eS8 => ?_)
    replace h := h S8 eS8
    refine zv_goto (pc := 146) 49 g dX3_stepOverWord_146 rfl ?_
    refine zv_sub [0] rfl ?_
    exact hk49 _ h
  · replace h := h.2 c7
    refine zv_aload_n (pc := 122) g dX3_stepOverWord_122 0 rfl rfl ?_
    refine zv_get (pc := 123) g fl_X3_25 0 rfl rfl dX3_stepOverWord_123 ?_
    refine zv_iload_n (pc := 126) g dX3_stepOverWord_126 2 rfl rfl ?_
    refine zv_iadd (pc := 127) g dX3_stepOverWord_127 ?_
    refine zv_aload_n (pc := 128) g dX3_stepOverWord_128 0 rfl rfl ?_
    refine zv_get (pc := 129) g fl_X3_28 0 rfl rfl dX3_stepOverWord_129 ?_
    refine zv_icmp_ne (pc := 132) 136 g dX3_stepOverWord_132 rfl (fun c9 => ?_) (fun c9 => ?_)
    · replace h := h.1 c9
      refine zv_aload_n (pc := 136) g dX3_stepOverWord_136 0 rfl rfl ?_
      refine zv_dup (pc := 137) g dX3_stepOverWord_137 rfl ?_
      refine zv_get (pc := 138) g fl_X3_22 0 rfl rfl dX3_stepOverWord_138 ?_
      refine zv_iconst (pc := 141) g dX3_stepOverWord_141 (v := 1) (by decide) ?_
      refine zv_iadd (pc := 142) g dX3_stepOverWord_142 ?_
      refine zv_put (pc := 143) ((tW β t) (t_value_s S ((t_value S) + 1))) g fp_X3_22 0 rfl rfl rfl (Nat.le_of_ble_eq_true rfl) rfl dX3_stepOverWord_143 ?_
      refine zv_nmS (wf := (tW β t)) (fun S10 eS10 => ?_)
      replace h := h S10 eS10
      refine zv_goto (pc := 146) 49 g dX3_stepOverWord_146 rfl ?_
      refine zv_sub [0] rfl ?_
      exact hk49 _ h
    · replace h := h.2 c9
      exact zv_vret (pc := 135) g hR dX3_stepOverWord_135 ⟨_, rfl, rfl, h⟩
def wX3_stepOverWord_68 (post : (TSt) → Prop) (k49 : (TSt) → Prop) (n5 : Nat) : Nat → (TSt) → (Int32) → Prop
  | 0, _, _ => False
  | f0 + 1, S, x2 => ((nI (zz_len.getD n5 0)) ≤ x2 → wX3_stepOverWord_114 post k49 n5 S x2) ∧ (¬ (nI (zz_len.getD n5 0)) ≤ x2 → ((t_end S) ≤ ((t_start S) + x2) → wX3_stepOverWord_114 post k49 n5 S x2) ∧ (¬ (t_end S) ≤ ((t_start S) + x2) → vp_in ((t_start S) + x2) 120 ∧ (vp_in x2 (zz_len.getD n5 0) ∧ ((¬ (t_bytes S (Int32.toNatClampNeg ((t_start S) + x2))) = ((zz_byt.getD n5 []).getD (Int32.toNatClampNeg x2) 0) → wX3_stepOverWord_114 post k49 n5 S x2) ∧ ((t_bytes S (Int32.toNatClampNeg ((t_start S) + x2))) = ((zz_byt.getD n5 []).getD (Int32.toNatClampNeg x2) 0) → wX3_stepOverWord_68 post k49 n5 f0 S (x2 + 1))))))
set_option maxRecDepth 100000 in
set_option maxHeartbeats 4000000 in
theorem lX3_stepOverWord_68 {β : zz_B} {Γ : zz_X} {t : Nat → Nat} {post : (TSt) → Prop} {n5 : Nat} {k49 : (TSt) → Prop} (g : zG β 3 Γ cX3_stepOverWord RX3 4 85) (hR : zR β Γ none (fun r w => ∃ T : TSt, r = none ∧ w = (tW β t) T ∧ post T)) (h_n5 : n5 < 14) (hk49 : ∀ (S : TSt), k49 S → zV β 3 Γ ((tW β t) S) 49 [(0, .ref (t 0))] []) : ∀ (f0 : Nat) (S : TSt) (x2 : Int32) , wX3_stepOverWord_68 post k49 n5 f0 S x2 → zV β 3 Γ ((tW β t) S) 68 [(0, .ref (t 0)), (1, .ref (β.2.2.2.1 n5)), (2, .int x2)] [] := by
  intro f0
  induction f0 with
  | zero => intro S x2 h; exact h.elim
  | succ f0 ih0 =>
    intro S x2 h
    rw [wX3_stepOverWord_68] at h
    refine zv_iload_n (pc := 68) g dX3_stepOverWord_68 2 rfl rfl ?_
    refine zv_aload_n (pc := 69) g dX3_stepOverWord_69 1 rfl rfl ?_
    refine zv_strlen (pc := 70) g h_n5 (by decide) (by decide) (Nat.le_of_ble_eq_true rfl) dX3_stepOverWord_70 ?_
    refine zv_icmp_ge (pc := 73) 114 g dX3_stepOverWord_73 rfl (fun c6 => ?_) (fun c6 => ?_)
    · replace h := h.1 c6
      refine zv_sub [0, 1, 2] rfl ?_
      exact lX3_stepOverWord_114 g hR h_n5 hk49 _ _ h
    · replace h := h.2 c6
      refine zv_aload_n (pc := 76) g dX3_stepOverWord_76 0 rfl rfl ?_
      refine zv_get (pc := 77) g fl_X3_25 0 rfl rfl dX3_stepOverWord_77 ?_
      refine zv_iload_n (pc := 80) g dX3_stepOverWord_80 2 rfl rfl ?_
      refine zv_iadd (pc := 81) g dX3_stepOverWord_81 ?_
      refine zv_aload_n (pc := 82) g dX3_stepOverWord_82 0 rfl rfl ?_
      refine zv_get (pc := 83) g fl_X3_28 0 rfl rfl dX3_stepOverWord_83 ?_
      refine zv_icmp_ge (pc := 86) 114 g dX3_stepOverWord_86 rfl (fun c11 => ?_) (fun c11 => ?_)
      · replace h := h.1 c11
        refine zv_sub [0, 1, 2] rfl ?_
        exact lX3_stepOverWord_114 g hR h_n5 hk49 _ _ h
      · replace h := h.2 c11
        refine zv_aload_n (pc := 89) g dX3_stepOverWord_89 0 rfl rfl ?_
        refine zv_get (pc := 90) g fl_X3_9 0 rfl rfl dX3_stepOverWord_90 ?_
        refine zv_aload_n (pc := 93) g dX3_stepOverWord_93 0 rfl rfl ?_
        refine zv_get (pc := 94) g fl_X3_25 0 rfl rfl dX3_stepOverWord_94 ?_
        refine zv_iload_n (pc := 97) g dX3_stepOverWord_97 2 rfl rfl ?_
        refine zv_iadd (pc := 98) g dX3_stepOverWord_98 ?_
        obtain ⟨hi, h⟩ := h
        refine zv_iald (pc := 99) g 1 rfl hi dX3_stepOverWord_99 ?_
        refine zv_aload_n (pc := 100) g dX3_stepOverWord_100 1 rfl rfl ?_
        refine zv_iload_n (pc := 101) g dX3_stepOverWord_101 2 rfl rfl ?_
        obtain ⟨hi, h⟩ := h
        refine zv_strat (pc := 102) g h_n5 hi (by decide) (by decide) (Nat.le_of_ble_eq_true rfl) dX3_stepOverWord_102 ?_
        refine zv_icmp_ne (pc := 105) 114 g dX3_stepOverWord_105 rfl (fun c12 => ?_) (fun c12 => ?_)
        · replace h := h.1 c12
          refine zv_sub [0, 1, 2] rfl ?_
          exact lX3_stepOverWord_114 g hR h_n5 hk49 _ _ h
        · replace h := h.2 c12
          refine zv_iinc (pc := 108) 1 [(2, .int (x2 + 1)), (0, .ref (t 0)), (1, .ref (β.2.2.2.1 n5))] g dX3_stepOverWord_108 2 rfl (by decide) (by decide) rfl ?_
          refine zv_goto (pc := 111) 68 g dX3_stepOverWord_111 rfl ?_
          refine zv_sub [1, 2, 0] rfl ?_
          exact ih0 _ _ h
def wX3_stepOverWord_49 (post : (TSt) → Prop) : Nat → (TSt) → Prop
  | 0, _ => False
  | f0 + 1, S => ((13 : Int32) ≤ (t_value S) → post S) ∧ (¬ (13 : Int32) ≤ (t_value S) → wX3_nameOf (fun n5 => n5 < 14 ∧ (∃ f13 : Nat, wX3_stepOverWord_68 post (wX3_stepOverWord_49 post f0) n5 f13 S 0)) (t_value S))
set_option maxRecDepth 100000 in
set_option maxHeartbeats 4000000 in
theorem lX3_stepOverWord_49 {β : zz_B} {Γ : zz_X} {t : Nat → Nat} {post : (TSt) → Prop} (g : zG β 3 Γ cX3_stepOverWord RX3 4 85) (hR : zR β Γ none (fun r w => ∃ T : TSt, r = none ∧ w = (tW β t) T ∧ post T)) : ∀ (f0 : Nat) (S : TSt) , wX3_stepOverWord_49 post f0 S → zV β 3 Γ ((tW β t) S) 49 [(0, .ref (t 0))] [] := by
  intro f0
  induction f0 with
  | zero => intro S h; exact h.elim
  | succ f0 ih0 =>
    intro S h
    rw [wX3_stepOverWord_49] at h
    refine zv_aload_n (pc := 49) g dX3_stepOverWord_49 0 rfl rfl ?_
    refine zv_get (pc := 50) g fl_X3_22 0 rfl rfl dX3_stepOverWord_50 ?_
    refine zv_bipush (pc := 53) g dX3_stepOverWord_53 (v := 13) (by decide) ?_
    refine zv_icmp_ge (pc := 55) 149 g dX3_stepOverWord_55 rfl (fun c4 => ?_) (fun c4 => ?_)
    · replace h := h.1 c4
      exact zv_vret (pc := 149) g hR dX3_stepOverWord_149 ⟨_, rfl, rfl, h⟩
    · replace h := h.2 c4
      refine zv_aload_n (pc := 58) g dX3_stepOverWord_58 0 rfl rfl ?_
      refine zv_get (pc := 59) g fl_X3_22 0 rfl rfl dX3_stepOverWord_59 ?_
      refine zv_cSr (pc := 62) g cw_X3_104 (ctX3_nameOf h) (by decide) (by decide) zz_pN rfl rfl (Nat.le_of_ble_eq_true rfl) dX3_stepOverWord_62 (fun n5 h => ?_)
      obtain ⟨h_n5, h⟩ := h
      refine zv_astore_n (pc := 65) 1 [(1, .ref (β.2.2.2.1 n5)), (0, .ref (t 0))] g dX3_stepOverWord_65 rfl (by decide) rfl ?_
      refine zv_iconst (pc := 66) g dX3_stepOverWord_66 (v := 0) (by decide) ?_
      refine zv_istore_n (pc := 67) 2 [(2, .int 0), (1, .ref (β.2.2.2.1 n5)), (0, .ref (t 0))] g dX3_stepOverWord_67 rfl (by decide) rfl ?_
      obtain ⟨f13, h⟩ := h
      refine zv_sub [2, 1, 0] rfl ?_
      exact lX3_stepOverWord_68 g hR h_n5 ih0 f13 _ _ h
def wX3_stepOverWord_0 (post : (TSt) → Prop) : Nat → (TSt) → Prop
  | 0, _ => False
  | f0 + 1, S => ((t_length S) ≤ (t_end S) → ∀ S2 : TSt, S2 = (t_token_s S 1) → (∀ S3 : TSt, S3 = (t_value_s S2 0) → (∃ f14 : Nat, wX3_stepOverWord_49 post f14 S3))) ∧ (¬ (t_length S) ≤ (t_end S) → vp_in (t_end S) 120 ∧ (wX3_isLetter (fun v15 => (v15 = 0 → ∀ S17 : TSt, S17 = (t_token_s S 1) → (∀ S18 : TSt, S18 = (t_value_s S17 0) → (∃ f19 : Nat, wX3_stepOverWord_49 post f19 S18))) ∧ (¬ v15 = 0 → ∀ S20 : TSt, S20 = (t_end_s S ((t_end S) + 1)) → (wX3_stepOverWord_0 post f0 S20))) (t_bytes S (Int32.toNatClampNeg (t_end S)))))
set_option maxRecDepth 100000 in
set_option maxHeartbeats 4000000 in
theorem lX3_stepOverWord_0 {β : zz_B} {Γ : zz_X} {t : Nat → Nat} {post : (TSt) → Prop} (g : zG β 3 Γ cX3_stepOverWord RX3 4 85) (hR : zR β Γ none (fun r w => ∃ T : TSt, r = none ∧ w = (tW β t) T ∧ post T)) : ∀ (f0 : Nat) (S : TSt) , wX3_stepOverWord_0 post f0 S → zV β 3 Γ ((tW β t) S) 0 [(0, .ref (t 0))] [] := by
  intro f0
  induction f0 with
  | zero => intro S h; exact h.elim
  | succ f0 ih0 =>
    intro S h
    rw [wX3_stepOverWord_0] at h
    refine zv_aload_n (pc := 0) g dX3_stepOverWord_0 0 rfl rfl ?_
    refine zv_get (pc := 1) g fl_X3_28 0 rfl rfl dX3_stepOverWord_1 ?_
    refine zv_aload_n (pc := 4) g dX3_stepOverWord_4 0 rfl rfl ?_
    refine zv_get (pc := 5) g fl_X3_15 0 rfl rfl dX3_stepOverWord_5 ?_
    refine zv_icmp_ge (pc := 8) 39 g dX3_stepOverWord_8 rfl (fun c1 => ?_) (fun c1 => ?_)
    · replace h := h.1 c1
      refine zv_aload_n (pc := 39) g dX3_stepOverWord_39 0 rfl rfl ?_
      refine zv_iconst (pc := 40) g dX3_stepOverWord_40 (v := 1) (by decide) ?_
      refine zv_put (pc := 41) ((tW β t) (t_token_s S 1)) g fp_X3_19 0 rfl rfl rfl (Nat.le_of_ble_eq_true rfl) rfl dX3_stepOverWord_41 ?_
      refine zv_nmS (wf := (tW β t)) (fun S2 eS2 => ?_)
      replace h := h S2 eS2
      refine zv_aload_n (pc := 44) g dX3_stepOverWord_44 0 rfl rfl ?_
      refine zv_iconst (pc := 45) g dX3_stepOverWord_45 (v := 0) (by decide) ?_
      refine zv_put (pc := 46) ((tW β t) (t_value_s S2 0)) g fp_X3_22 0 rfl rfl rfl (Nat.le_of_ble_eq_true rfl) rfl dX3_stepOverWord_46 ?_
      refine zv_nmS (wf := (tW β t)) (fun S3 eS3 => ?_)
      replace h := h S3 eS3
      obtain ⟨f14, h⟩ := h
      refine zv_sub [0] rfl ?_
      exact lX3_stepOverWord_49 g hR f14 _ h
    · replace h := h.2 c1
      refine zv_aload_n (pc := 11) g dX3_stepOverWord_11 0 rfl rfl ?_
      refine zv_get (pc := 12) g fl_X3_9 0 rfl rfl dX3_stepOverWord_12 ?_
      refine zv_aload_n (pc := 15) g dX3_stepOverWord_15 0 rfl rfl ?_
      refine zv_get (pc := 16) g fl_X3_28 0 rfl rfl dX3_stepOverWord_16 ?_
      obtain ⟨hi, h⟩ := h
      refine zv_iald (pc := 19) g 1 rfl hi dX3_stepOverWord_19 ?_
      refine zv_cSp (pc := 20) g cw_X3_92 (ctX3_isLetter h) (by decide) (by decide) zz_pN rfl rfl (Nat.le_of_ble_eq_true rfl) dX3_stepOverWord_20 (fun v15 h => ?_)
      refine zv_if_eq (pc := 23) 39 g dX3_stepOverWord_23 rfl (fun c16 => ?_) (fun c16 => ?_)
      · replace h := h.1 c16
        refine zv_aload_n (pc := 39) g dX3_stepOverWord_39 0 rfl rfl ?_
        refine zv_iconst (pc := 40) g dX3_stepOverWord_40 (v := 1) (by decide) ?_
        refine zv_put (pc := 41) ((tW β t) (t_token_s S 1)) g fp_X3_19 0 rfl rfl rfl (Nat.le_of_ble_eq_true rfl) rfl dX3_stepOverWord_41 ?_
        refine zv_nmS (wf := (tW β t)) (fun S17 eS17 => ?_)
        replace h := h S17 eS17
        refine zv_aload_n (pc := 44) g dX3_stepOverWord_44 0 rfl rfl ?_
        refine zv_iconst (pc := 45) g dX3_stepOverWord_45 (v := 0) (by decide) ?_
        refine zv_put (pc := 46) ((tW β t) (t_value_s S17 0)) g fp_X3_22 0 rfl rfl rfl (Nat.le_of_ble_eq_true rfl) rfl dX3_stepOverWord_46 ?_
        refine zv_nmS (wf := (tW β t)) (fun S18 eS18 => ?_)
        replace h := h S18 eS18
        obtain ⟨f19, h⟩ := h
        refine zv_sub [0] rfl ?_
        exact lX3_stepOverWord_49 g hR f19 _ h
      · replace h := h.2 c16
        refine zv_aload_n (pc := 26) g dX3_stepOverWord_26 0 rfl rfl ?_
        refine zv_dup (pc := 27) g dX3_stepOverWord_27 rfl ?_
        refine zv_get (pc := 28) g fl_X3_28 0 rfl rfl dX3_stepOverWord_28 ?_
        refine zv_iconst (pc := 31) g dX3_stepOverWord_31 (v := 1) (by decide) ?_
        refine zv_iadd (pc := 32) g dX3_stepOverWord_32 ?_
        refine zv_put (pc := 33) ((tW β t) (t_end_s S ((t_end S) + 1))) g fp_X3_28 0 rfl rfl rfl (Nat.le_of_ble_eq_true rfl) rfl dX3_stepOverWord_33 ?_
        refine zv_nmS (wf := (tW β t)) (fun S20 eS20 => ?_)
        replace h := h S20 eS20
        refine zv_goto (pc := 36) 0 g dX3_stepOverWord_36 rfl ?_
        refine zv_sub [0] rfl ?_
        exact ih0 _ h
def wX3_stepOverWord (post : (TSt) → Prop) (S : TSt) : Prop := ∃ f21 : Nat, wX3_stepOverWord_0 post f21 S
set_option maxRecDepth 100000 in
set_option maxHeartbeats 4000000 in
theorem ctX3_stepOverWord {β : zz_B} {t : Nat → Nat} {post : (TSt) → Prop} {S : TSt} (h : wX3_stepOverWord post S) : zCv β yX3_stepOverWord cX3_stepOverWord 3 none 4 85 [.ref (t 0)] (tW β t) S post := by
  unfold wX3_stepOverWord at h
  unfold zCv
  refine zC.of (by decide) (Nat.le_of_ble_eq_true rfl) ?_
  intro Γ g hR
  show zV β 3 Γ ((tW β t) S) 0 [(0, .ref (t 0))] []
  obtain ⟨f21, h⟩ := h
  refine zv_sub [0] rfl ?_
  exact lX3_stepOverWord_0 g hR f21 _ h
def wX3_isDigit (post : Int32 → Prop) (x0 : Int32) : Prop := (x0 < (48 : Int32) → post 0) ∧ (¬ x0 < (48 : Int32) → ((57 : Int32) < x0 → post 0) ∧ (¬ (57 : Int32) < x0 → post 1))
set_option maxRecDepth 100000 in
set_option maxHeartbeats 4000000 in
theorem ctX3_isDigit {β : zz_B} {post : Int32 → Prop} {x0 : Int32} (h : wX3_isDigit post x0) : zCp β yX3_isDigit cX3_isDigit 1 (some .boolean) 0 0 [.int x0] [] post := by
  unfold wX3_isDigit at h
  unfold zCp
  refine zC.of (by decide) (Nat.le_of_ble_eq_true rfl) ?_
  intro Γ g hR
  show zV β 1 Γ [] 0 [(0, .int x0)] []
  refine zv_iload_n (pc := 0) g dX3_isDigit_0 0 rfl rfl ?_
  refine zv_bipush (pc := 1) g dX3_isDigit_1 (v := 48) (by decide) ?_
  refine zv_icmp_lt (pc := 3) 16 g dX3_isDigit_3 rfl (fun c1 => ?_) (fun c1 => ?_)
  · replace h := h.1 c1
    refine zv_iconst (pc := 16) g dX3_isDigit_16 (v := 0) (by decide) ?_
    exact zv_zret (pc := 17) g hR (by decide) dX3_isDigit_17 ⟨_, rfl, rfl, h⟩
  · replace h := h.2 c1
    refine zv_iload_n (pc := 6) g dX3_isDigit_6 0 rfl rfl ?_
    refine zv_bipush (pc := 7) g dX3_isDigit_7 (v := 57) (by decide) ?_
    refine zv_icmp_gt (pc := 9) 16 g dX3_isDigit_9 rfl (fun c2 => ?_) (fun c2 => ?_)
    · replace h := h.1 c2
      refine zv_iconst (pc := 16) g dX3_isDigit_16 (v := 0) (by decide) ?_
      exact zv_zret (pc := 17) g hR (by decide) dX3_isDigit_17 ⟨_, rfl, rfl, h⟩
    · replace h := h.2 c2
      refine zv_iconst (pc := 12) g dX3_isDigit_12 (v := 1) (by decide) ?_
      refine zv_goto (pc := 13) 17 g dX3_isDigit_13 rfl ?_
      exact zv_zret (pc := 17) g hR (by decide) dX3_isDigit_17 ⟨_, rfl, rfl, h⟩
def wX3_stepOverNumber_10 (post : (TSt) → Prop) : Nat → (TSt) → Prop
  | 0, _ => False
  | f0 + 1, S => ((t_length S) ≤ (t_end S) → post S) ∧ (¬ (t_length S) ≤ (t_end S) → vp_in (t_end S) 120 ∧ (wX3_isDigit (fun v4 => (v4 = 0 → post S) ∧ (¬ v4 = 0 → vp_in (t_end S) 120 ∧ (∀ S6 : TSt, S6 = (t_value_s S (if ((((t_value S) * 10) + (t_bytes S (Int32.toNatClampNeg (t_end S)))) - 48) < 1000 then ((((t_value S) * 10) + (t_bytes S (Int32.toNatClampNeg (t_end S)))) - 48) else 1000)) → (∀ S7 : TSt, S7 = (t_end_s S6 ((t_end S6) + 1)) → (wX3_stepOverNumber_10 post f0 S7))))) (t_bytes S (Int32.toNatClampNeg (t_end S)))))
set_option maxRecDepth 100000 in
set_option maxHeartbeats 4000000 in
theorem lX3_stepOverNumber_10 {β : zz_B} {Γ : zz_X} {t : Nat → Nat} {post : (TSt) → Prop} (g : zG β 1 Γ cX3_stepOverNumber RX3 1 21) (hR : zR β Γ none (fun r w => ∃ T : TSt, r = none ∧ w = (tW β t) T ∧ post T)) : ∀ (f0 : Nat) (S : TSt) , wX3_stepOverNumber_10 post f0 S → zV β 1 Γ ((tW β t) S) 10 [(0, .ref (t 0))] [] := by
  intro f0
  induction f0 with
  | zero => intro S h; exact h.elim
  | succ f0 ih0 =>
    intro S h
    rw [wX3_stepOverNumber_10] at h
    refine zv_aload_n (pc := 10) g dX3_stepOverNumber_10 0 rfl rfl ?_
    refine zv_get (pc := 11) g fl_X3_28 0 rfl rfl dX3_stepOverNumber_11 ?_
    refine zv_aload_n (pc := 14) g dX3_stepOverNumber_14 0 rfl rfl ?_
    refine zv_get (pc := 15) g fl_X3_15 0 rfl rfl dX3_stepOverNumber_15 ?_
    refine zv_icmp_ge (pc := 18) 79 g dX3_stepOverNumber_18 rfl (fun c3 => ?_) (fun c3 => ?_)
    · replace h := h.1 c3
      exact zv_vret (pc := 79) g hR dX3_stepOverNumber_79 ⟨_, rfl, rfl, h⟩
    · replace h := h.2 c3
      refine zv_aload_n (pc := 21) g dX3_stepOverNumber_21 0 rfl rfl ?_
      refine zv_get (pc := 22) g fl_X3_9 0 rfl rfl dX3_stepOverNumber_22 ?_
      refine zv_aload_n (pc := 25) g dX3_stepOverNumber_25 0 rfl rfl ?_
      refine zv_get (pc := 26) g fl_X3_28 0 rfl rfl dX3_stepOverNumber_26 ?_
      obtain ⟨hi, h⟩ := h
      refine zv_iald (pc := 29) g 1 rfl hi dX3_stepOverNumber_29 ?_
      refine zv_cSp (pc := 30) g cw_X3_98 (ctX3_isDigit h) (by decide) (by decide) zz_pN rfl rfl (Nat.le_of_ble_eq_true rfl) dX3_stepOverNumber_30 (fun v4 h => ?_)
      refine zv_if_eq (pc := 33) 79 g dX3_stepOverNumber_33 rfl (fun c5 => ?_) (fun c5 => ?_)
      · replace h := h.1 c5
        exact zv_vret (pc := 79) g hR dX3_stepOverNumber_79 ⟨_, rfl, rfl, h⟩
      · replace h := h.2 c5
        refine zv_aload_n (pc := 36) g dX3_stepOverNumber_36 0 rfl rfl ?_
        refine zv_sipush (pc := 37) g dX3_stepOverNumber_37 (v := 1000) (by decide) ?_
        refine zv_aload_n (pc := 40) g dX3_stepOverNumber_40 0 rfl rfl ?_
        refine zv_get (pc := 41) g fl_X3_22 0 rfl rfl dX3_stepOverNumber_41 ?_
        refine zv_bipush (pc := 44) g dX3_stepOverNumber_44 (v := 10) (by decide) ?_
        refine zv_imul (pc := 46) g dX3_stepOverNumber_46 ?_
        refine zv_aload_n (pc := 47) g dX3_stepOverNumber_47 0 rfl rfl ?_
        refine zv_get (pc := 48) g fl_X3_9 0 rfl rfl dX3_stepOverNumber_48 ?_
        refine zv_aload_n (pc := 51) g dX3_stepOverNumber_51 0 rfl rfl ?_
        refine zv_get (pc := 52) g fl_X3_28 0 rfl rfl dX3_stepOverNumber_52 ?_
        obtain ⟨hi, h⟩ := h
        refine zv_iald (pc := 55) g 1 rfl hi dX3_stepOverNumber_55 ?_
        refine zv_iadd (pc := 56) g dX3_stepOverNumber_56 ?_
        refine zv_bipush (pc := 57) g dX3_stepOverNumber_57 (v := 48) (by decide) ?_
        refine zv_isub (pc := 59) g dX3_stepOverNumber_59 ?_
        refine zv_min (pc := 60) g cm_X3_117 (by decide) (by decide) (Nat.le_of_ble_eq_true rfl) dX3_stepOverNumber_60 ?_
        refine zv_put (pc := 63) ((tW β t) (t_value_s S (if ((((t_value S) * 10) + (t_bytes S (Int32.toNatClampNeg (t_end S)))) - 48) < 1000 then ((((t_value S) * 10) + (t_bytes S (Int32.toNatClampNeg (t_end S)))) - 48) else 1000))) g fp_X3_22 0 rfl rfl rfl (Nat.le_of_ble_eq_true rfl) rfl dX3_stepOverNumber_63 ?_
        refine zv_nmS (wf := (tW β t)) (fun S6 eS6 => ?_)
        replace h := h S6 eS6
        refine zv_aload_n (pc := 66) g dX3_stepOverNumber_66 0 rfl rfl ?_
        refine zv_dup (pc := 67) g dX3_stepOverNumber_67 rfl ?_
        refine zv_get (pc := 68) g fl_X3_28 0 rfl rfl dX3_stepOverNumber_68 ?_
        refine zv_iconst (pc := 71) g dX3_stepOverNumber_71 (v := 1) (by decide) ?_
        refine zv_iadd (pc := 72) g dX3_stepOverNumber_72 ?_
        refine zv_put (pc := 73) ((tW β t) (t_end_s S6 ((t_end S6) + 1))) g fp_X3_28 0 rfl rfl rfl (Nat.le_of_ble_eq_true rfl) rfl dX3_stepOverNumber_73 ?_
        refine zv_nmS (wf := (tW β t)) (fun S7 eS7 => ?_)
        replace h := h S7 eS7
        refine zv_goto (pc := 76) 10 g dX3_stepOverNumber_76 rfl ?_
        refine zv_sub [0] rfl ?_
        exact ih0 _ h
def wX3_stepOverNumber (post : (TSt) → Prop) (S : TSt) : Prop := ∀ S1 : TSt, S1 = (t_token_s S 2) → (∀ S2 : TSt, S2 = (t_value_s S1 0) → (∃ f8 : Nat, wX3_stepOverNumber_10 post f8 S2))
set_option maxRecDepth 100000 in
set_option maxHeartbeats 4000000 in
theorem ctX3_stepOverNumber {β : zz_B} {t : Nat → Nat} {post : (TSt) → Prop} {S : TSt} (h : wX3_stepOverNumber post S) : zCv β yX3_stepOverNumber cX3_stepOverNumber 1 none 1 21 [.ref (t 0)] (tW β t) S post := by
  unfold wX3_stepOverNumber at h
  unfold zCv
  refine zC.of (by decide) (Nat.le_of_ble_eq_true rfl) ?_
  intro Γ g hR
  show zV β 1 Γ ((tW β t) S) 0 [(0, .ref (t 0))] []
  refine zv_aload_n (pc := 0) g dX3_stepOverNumber_0 0 rfl rfl ?_
  refine zv_iconst (pc := 1) g dX3_stepOverNumber_1 (v := 2) (by decide) ?_
  refine zv_put (pc := 2) ((tW β t) (t_token_s S 2)) g fp_X3_19 0 rfl rfl rfl (Nat.le_of_ble_eq_true rfl) rfl dX3_stepOverNumber_2 ?_
  refine zv_nmS (wf := (tW β t)) (fun S1 eS1 => ?_)
  replace h := h S1 eS1
  refine zv_aload_n (pc := 5) g dX3_stepOverNumber_5 0 rfl rfl ?_
  refine zv_iconst (pc := 6) g dX3_stepOverNumber_6 (v := 0) (by decide) ?_
  refine zv_put (pc := 7) ((tW β t) (t_value_s S1 0)) g fp_X3_22 0 rfl rfl rfl (Nat.le_of_ble_eq_true rfl) rfl dX3_stepOverNumber_7 ?_
  refine zv_nmS (wf := (tW β t)) (fun S2 eS2 => ?_)
  replace h := h S2 eS2
  obtain ⟨f8, h⟩ := h
  refine zv_sub [0] rfl ?_
  exact lX3_stepOverNumber_10 g hR f8 _ h
def wX3_step_46 (post : (TSt) → Prop) (S : TSt) : Prop := ∀ S3 : TSt, S3 = (t_end_s S (t_start S)) → (((t_start S3) < (t_length S3) → vp_in (t_start S3) 120 ∧ (wX3_isLetter (fun v5 => (v5 = 0 → vp_in (t_start S3) 120 ∧ (wX3_isDigit (fun v7 => (v7 = 0 → vp_in (t_start S3) 120 ∧ ((¬ (t_bytes S3 (Int32.toNatClampNeg (t_start S3))) = (59 : Int32) → ∀ S10 : TSt, S10 = (t_token_s S3 4) → (∀ S11 : TSt, S11 = (t_end_s S10 ((t_start S10) + 1)) → (post S11))) ∧ ((t_bytes S3 (Int32.toNatClampNeg (t_start S3))) = (59 : Int32) → ∀ S12 : TSt, S12 = (t_token_s S3 3) → (∀ S13 : TSt, S13 = (t_end_s S12 ((t_start S12) + 1)) → (post S13))))) ∧ (¬ v7 = 0 → wX3_stepOverNumber (fun S14 => post S14) S3)) (t_bytes S3 (Int32.toNatClampNeg (t_start S3))))) ∧ (¬ v5 = 0 → wX3_stepOverWord (fun S15 => post S15) S3)) (t_bytes S3 (Int32.toNatClampNeg (t_start S3))))) ∧ (¬ (t_start S3) < (t_length S3) → ∀ S16 : TSt, S16 = (t_token_s S3 0) → (post S16)))
set_option maxRecDepth 100000 in
set_option maxHeartbeats 4000000 in
theorem lX3_step_46 {β : zz_B} {Γ : zz_X} {t : Nat → Nat} {post : (TSt) → Prop} (g : zG β 1 Γ cX3_step RX3 5 107) (hR : zR β Γ none (fun r w => ∃ T : TSt, r = none ∧ w = (tW β t) T ∧ post T)) (S : TSt) (h : wX3_step_46 post S) : zV β 1 Γ ((tW β t) S) 46 [(0, .ref (t 0))] [] := by
  unfold wX3_step_46 at h
  refine zv_aload_n (pc := 46) g dX3_step_46 0 rfl rfl ?_
  refine zv_aload_n (pc := 47) g dX3_step_47 0 rfl rfl ?_
  refine zv_get (pc := 48) g fl_X3_25 0 rfl rfl dX3_step_48 ?_
  refine zv_put (pc := 51) ((tW β t) (t_end_s S (t_start S))) g fp_X3_28 0 rfl rfl rfl (Nat.le_of_ble_eq_true rfl) rfl dX3_step_51 ?_
  refine zv_nmS (wf := (tW β t)) (fun S3 eS3 => ?_)
  replace h := h S3 eS3
  refine zv_aload_n (pc := 54) g dX3_step_54 0 rfl rfl ?_
  refine zv_get (pc := 55) g fl_X3_25 0 rfl rfl dX3_step_55 ?_
  refine zv_aload_n (pc := 58) g dX3_step_58 0 rfl rfl ?_
  refine zv_get (pc := 59) g fl_X3_15 0 rfl rfl dX3_step_59 ?_
  refine zv_icmp_lt (pc := 62) 73 g dX3_step_62 rfl (fun c4 => ?_) (fun c4 => ?_)
  · replace h := h.1 c4
    refine zv_aload_n (pc := 73) g dX3_step_73 0 rfl rfl ?_
    refine zv_get (pc := 74) g fl_X3_9 0 rfl rfl dX3_step_74 ?_
    refine zv_aload_n (pc := 77) g dX3_step_77 0 rfl rfl ?_
    refine zv_get (pc := 78) g fl_X3_25 0 rfl rfl dX3_step_78 ?_
    obtain ⟨hi, h⟩ := h
    refine zv_iald (pc := 81) g 1 rfl hi dX3_step_81 ?_
    refine zv_cSp (pc := 82) g cw_X3_92 (ctX3_isLetter h) (by decide) (by decide) zz_pN rfl rfl (Nat.le_of_ble_eq_true rfl) dX3_step_82 (fun v5 h => ?_)
    refine zv_if_eq (pc := 85) 95 g dX3_step_85 rfl (fun c6 => ?_) (fun c6 => ?_)
    · replace h := h.1 c6
      refine zv_aload_n (pc := 95) g dX3_step_95 0 rfl rfl ?_
      refine zv_get (pc := 96) g fl_X3_9 0 rfl rfl dX3_step_96 ?_
      refine zv_aload_n (pc := 99) g dX3_step_99 0 rfl rfl ?_
      refine zv_get (pc := 100) g fl_X3_25 0 rfl rfl dX3_step_100 ?_
      obtain ⟨hi, h⟩ := h
      refine zv_iald (pc := 103) g 1 rfl hi dX3_step_103 ?_
      refine zv_cSp (pc := 104) g cw_X3_98 (ctX3_isDigit h) (by decide) (by decide) zz_pN rfl rfl (Nat.le_of_ble_eq_true rfl) dX3_step_104 (fun v7 h => ?_)
      refine zv_if_eq (pc := 107) 117 g dX3_step_107 rfl (fun c8 => ?_) (fun c8 => ?_)
      · replace h := h.1 c8
        refine zv_aload_n (pc := 117) g dX3_step_117 0 rfl rfl ?_
        refine zv_aload_n (pc := 118) g dX3_step_118 0 rfl rfl ?_
        refine zv_get (pc := 119) g fl_X3_9 0 rfl rfl dX3_step_119 ?_
        refine zv_aload_n (pc := 122) g dX3_step_122 0 rfl rfl ?_
        refine zv_get (pc := 123) g fl_X3_25 0 rfl rfl dX3_step_123 ?_
        obtain ⟨hi, h⟩ := h
        refine zv_iald (pc := 126) g 1 rfl hi dX3_step_126 ?_
        refine zv_bipush (pc := 127) g dX3_step_127 (v := 59) (by decide) ?_
        refine zv_icmp_ne (pc := 129) 136 g dX3_step_129 rfl (fun c9 => ?_) (fun c9 => ?_)
        · replace h := h.1 c9
          refine zv_iconst (pc := 136) g dX3_step_136 (v := 4) (by decide) ?_
          refine zv_put (pc := 137) ((tW β t) (t_token_s S3 4)) g fp_X3_19 0 rfl rfl rfl (Nat.le_of_ble_eq_true rfl) rfl dX3_step_137 ?_
          refine zv_nmS (wf := (tW β t)) (fun S10 eS10 => ?_)
          replace h := h S10 eS10
          refine zv_aload_n (pc := 140) g dX3_step_140 0 rfl rfl ?_
          refine zv_aload_n (pc := 141) g dX3_step_141 0 rfl rfl ?_
          refine zv_get (pc := 142) g fl_X3_25 0 rfl rfl dX3_step_142 ?_
          refine zv_iconst (pc := 145) g dX3_step_145 (v := 1) (by decide) ?_
          refine zv_iadd (pc := 146) g dX3_step_146 ?_
          refine zv_put (pc := 147) ((tW β t) (t_end_s S10 ((t_start S10) + 1))) g fp_X3_28 0 rfl rfl rfl (Nat.le_of_ble_eq_true rfl) rfl dX3_step_147 ?_
          refine zv_nmS (wf := (tW β t)) (fun S11 eS11 => ?_)
          replace h := h S11 eS11
          exact zv_vret (pc := 150) g hR dX3_step_150 ⟨_, rfl, rfl, h⟩
        · replace h := h.2 c9
          refine zv_iconst (pc := 132) g dX3_step_132 (v := 3) (by decide) ?_
          refine zv_goto (pc := 133) 137 g dX3_step_133 rfl ?_
          refine zv_put (pc := 137) ((tW β t) (t_token_s S3 3)) g fp_X3_19 0 rfl rfl rfl (Nat.le_of_ble_eq_true rfl) rfl dX3_step_137 ?_
          refine zv_nmS (wf := (tW β t)) (fun S12 eS12 => ?_)
          replace h := h S12 eS12
          refine zv_aload_n (pc := 140) g dX3_step_140 0 rfl rfl ?_
          refine zv_aload_n (pc := 141) g dX3_step_141 0 rfl rfl ?_
          refine zv_get (pc := 142) g fl_X3_25 0 rfl rfl dX3_step_142 ?_
          refine zv_iconst (pc := 145) g dX3_step_145 (v := 1) (by decide) ?_
          refine zv_iadd (pc := 146) g dX3_step_146 ?_
          refine zv_put (pc := 147) ((tW β t) (t_end_s S12 ((t_start S12) + 1))) g fp_X3_28 0 rfl rfl rfl (Nat.le_of_ble_eq_true rfl) rfl dX3_step_147 ?_
          refine zv_nmS (wf := (tW β t)) (fun S13 eS13 => ?_)
          replace h := h S13 eS13
          exact zv_vret (pc := 150) g hR dX3_step_150 ⟨_, rfl, rfl, h⟩
      · replace h := h.2 c8
        refine zv_aload_n (pc := 110) g dX3_step_110 0 rfl rfl ?_
        refine zv_cVv (pc := 111) g cw_X3_101 (ctX3_stepOverNumber h) (by decide) (by decide) zz_p0 (tW β t) (fun T => zz_p1 T) (q := 0) rfl rfl rfl rfl rfl (Nat.le_of_ble_eq_true rfl) dX3_step_111 (fun S14 h => ?_)
        refine zv_goto (pc := 114) 150 g dX3_step_114 rfl ?_
        exact zv_vret (pc := 150) g hR dX3_step_150 ⟨_, rfl, rfl, h⟩
    · replace h := h.2 c6
      refine zv_aload_n (pc := 88) g dX3_step_88 0 rfl rfl ?_
      refine zv_cVv (pc := 89) g cw_X3_95 (ctX3_stepOverWord h) (by decide) (by decide) zz_p0 (tW β t) (fun T => zz_p1 T) (q := 0) rfl rfl rfl rfl rfl (Nat.le_of_ble_eq_true rfl) dX3_step_89 (fun S15 h => ?_)
      refine zv_goto (pc := 92) 150 g dX3_step_92 rfl ?_
      exact zv_vret (pc := 150) g hR dX3_step_150 ⟨_, rfl, rfl, h⟩
  · replace h := h.2 c4
    refine zv_aload_n (pc := 65) g dX3_step_65 0 rfl rfl ?_
    refine zv_iconst (pc := 66) g dX3_step_66 (v := 0) (by decide) ?_
    refine zv_put (pc := 67) ((tW β t) (t_token_s S3 0)) g fp_X3_19 0 rfl rfl rfl (Nat.le_of_ble_eq_true rfl) rfl dX3_step_67 ?_
    refine zv_nmS (wf := (tW β t)) (fun S16 eS16 => ?_)
    replace h := h S16 eS16
    refine zv_goto (pc := 70) 150 g dX3_step_70 rfl ?_
    exact zv_vret (pc := 150) g hR dX3_step_150 ⟨_, rfl, rfl, h⟩
def wX3_step_8 (post : (TSt) → Prop) : Nat → (TSt) → Prop
  | 0, _ => False
  | f0 + 1, S => ((t_length S) ≤ (t_start S) → wX3_step_46 post S) ∧ (¬ (t_length S) ≤ (t_start S) → vp_in (t_start S) 120 ∧ ((¬ (t_bytes S (Int32.toNatClampNeg (t_start S))) = (32 : Int32) → wX3_step_46 post S) ∧ ((t_bytes S (Int32.toNatClampNeg (t_start S))) = (32 : Int32) → ∀ S18 : TSt, S18 = (t_start_s S ((t_start S) + 1)) → (wX3_step_8 post f0 S18))))
set_option maxRecDepth 100000 in
set_option maxHeartbeats 4000000 in
theorem lX3_step_8 {β : zz_B} {Γ : zz_X} {t : Nat → Nat} {post : (TSt) → Prop} (g : zG β 1 Γ cX3_step RX3 5 107) (hR : zR β Γ none (fun r w => ∃ T : TSt, r = none ∧ w = (tW β t) T ∧ post T)) : ∀ (f0 : Nat) (S : TSt) , wX3_step_8 post f0 S → zV β 1 Γ ((tW β t) S) 8 [(0, .ref (t 0))] [] := by
  intro f0
  induction f0 with
  | zero => intro S h; exact h.elim
  | succ f0 ih0 =>
    intro S h
    rw [wX3_step_8] at h
    refine zv_aload_n (pc := 8) g dX3_step_8 0 rfl rfl ?_
    refine zv_get (pc := 9) g fl_X3_25 0 rfl rfl dX3_step_9 ?_
    refine zv_aload_n (pc := 12) g dX3_step_12 0 rfl rfl ?_
    refine zv_get (pc := 13) g fl_X3_15 0 rfl rfl dX3_step_13 ?_
    refine zv_icmp_ge (pc := 16) 46 g dX3_step_16 rfl (fun c2 => ?_) (fun c2 => ?_)
    · replace h := h.1 c2
      refine zv_sub [0] rfl ?_
      exact lX3_step_46 g hR _ h
    · replace h := h.2 c2
      refine zv_aload_n (pc := 19) g dX3_step_19 0 rfl rfl ?_
      refine zv_get (pc := 20) g fl_X3_9 0 rfl rfl dX3_step_20 ?_
      refine zv_aload_n (pc := 23) g dX3_step_23 0 rfl rfl ?_
      refine zv_get (pc := 24) g fl_X3_25 0 rfl rfl dX3_step_24 ?_
      obtain ⟨hi, h⟩ := h
      refine zv_iald (pc := 27) g 1 rfl hi dX3_step_27 ?_
      refine zv_bipush (pc := 28) g dX3_step_28 (v := 32) (by decide) ?_
      refine zv_icmp_ne (pc := 30) 46 g dX3_step_30 rfl (fun c17 => ?_) (fun c17 => ?_)
      · replace h := h.1 c17
        refine zv_sub [0] rfl ?_
        exact lX3_step_46 g hR _ h
      · replace h := h.2 c17
        refine zv_aload_n (pc := 33) g dX3_step_33 0 rfl rfl ?_
        refine zv_dup (pc := 34) g dX3_step_34 rfl ?_
        refine zv_get (pc := 35) g fl_X3_25 0 rfl rfl dX3_step_35 ?_
        refine zv_iconst (pc := 38) g dX3_step_38 (v := 1) (by decide) ?_
        refine zv_iadd (pc := 39) g dX3_step_39 ?_
        refine zv_put (pc := 40) ((tW β t) (t_start_s S ((t_start S) + 1))) g fp_X3_25 0 rfl rfl rfl (Nat.le_of_ble_eq_true rfl) rfl dX3_step_40 ?_
        refine zv_nmS (wf := (tW β t)) (fun S18 eS18 => ?_)
        replace h := h S18 eS18
        refine zv_goto (pc := 43) 8 g dX3_step_43 rfl ?_
        refine zv_sub [0] rfl ?_
        exact ih0 _ h
def wX3_step (post : (TSt) → Prop) (S : TSt) : Prop := ∀ S1 : TSt, S1 = (t_start_s S (t_end S)) → (∃ f19 : Nat, wX3_step_8 post f19 S1)
set_option maxRecDepth 100000 in
set_option maxHeartbeats 4000000 in
theorem ctX3_step {β : zz_B} {t : Nat → Nat} {post : (TSt) → Prop} {S : TSt} (h : wX3_step post S) : zCv β yX3_step cX3_step 1 none 5 107 [.ref (t 0)] (tW β t) S post := by
  unfold wX3_step at h
  unfold zCv
  refine zC.of (by decide) (Nat.le_of_ble_eq_true rfl) ?_
  intro Γ g hR
  show zV β 1 Γ ((tW β t) S) 0 [(0, .ref (t 0))] []
  refine zv_aload_n (pc := 0) g dX3_step_0 0 rfl rfl ?_
  refine zv_aload_n (pc := 1) g dX3_step_1 0 rfl rfl ?_
  refine zv_get (pc := 2) g fl_X3_28 0 rfl rfl dX3_step_2 ?_
  refine zv_put (pc := 5) ((tW β t) (t_start_s S (t_end S))) g fp_X3_25 0 rfl rfl rfl (Nat.le_of_ble_eq_true rfl) rfl dX3_step_5 ?_
  refine zv_nmS (wf := (tW β t)) (fun S1 eS1 => ?_)
  replace h := h S1 eS1
  obtain ⟨f19, h⟩ := h
  refine zv_sub [0] rfl ?_
  exact lX3_step_8 g hR f19 _ h
def wX3_isNumberTo (post : Int32 → Prop) (S : TSt) (x1 : Int32) : Prop := (¬ (t_token S) = (2 : Int32) → post 0) ∧ ((t_token S) = (2 : Int32) → (x1 < (t_value S) → post 0) ∧ (¬ x1 < (t_value S) → post 1))
set_option maxRecDepth 100000 in
set_option maxHeartbeats 4000000 in
theorem ctX3_isNumberTo {β : zz_B} {t : Nat → Nat} {post : Int32 → Prop} {S : TSt} {x1 : Int32} (h : wX3_isNumberTo post S x1) : zCp β yX3_isNumberTo cX3_isNumberTo 2 (some .boolean) 0 0 [.ref (t 0), .int x1] ((tW β t) S) post := by
  unfold wX3_isNumberTo at h
  unfold zCp
  refine zC.of (by decide) (Nat.le_of_ble_eq_true rfl) ?_
  intro Γ g hR
  show zV β 2 Γ ((tW β t) S) 0 [(0, .ref (t 0)), (1, .int x1)] []
  refine zv_aload_n (pc := 0) g dX3_isNumberTo_0 0 rfl rfl ?_
  refine zv_get (pc := 1) g fl_X3_19 0 rfl rfl dX3_isNumberTo_1 ?_
  refine zv_iconst (pc := 4) g dX3_isNumberTo_4 (v := 2) (by decide) ?_
  refine zv_icmp_ne (pc := 5) 20 g dX3_isNumberTo_5 rfl (fun c1 => ?_) (fun c1 => ?_)
  · replace h := h.1 c1
    refine zv_iconst (pc := 20) g dX3_isNumberTo_20 (v := 0) (by decide) ?_
    exact zv_zret (pc := 21) g hR (by decide) dX3_isNumberTo_21 ⟨_, rfl, rfl, h⟩
  · replace h := h.2 c1
    refine zv_aload_n (pc := 8) g dX3_isNumberTo_8 0 rfl rfl ?_
    refine zv_get (pc := 9) g fl_X3_22 0 rfl rfl dX3_isNumberTo_9 ?_
    refine zv_iload_n (pc := 12) g dX3_isNumberTo_12 1 rfl rfl ?_
    refine zv_icmp_gt (pc := 13) 20 g dX3_isNumberTo_13 rfl (fun c2 => ?_) (fun c2 => ?_)
    · replace h := h.1 c2
      refine zv_iconst (pc := 20) g dX3_isNumberTo_20 (v := 0) (by decide) ?_
      exact zv_zret (pc := 21) g hR (by decide) dX3_isNumberTo_21 ⟨_, rfl, rfl, h⟩
    · replace h := h.2 c2
      refine zv_iconst (pc := 16) g dX3_isNumberTo_16 (v := 1) (by decide) ?_
      refine zv_goto (pc := 17) 21 g dX3_isNumberTo_17 rfl ?_
      exact zv_zret (pc := 21) g hR (by decide) dX3_isNumberTo_21 ⟨_, rfl, rfl, h⟩
def wX3_isWord (post : Int32 → Prop) (S : TSt) (x1 : Int32) : Prop := (¬ (t_token S) = (1 : Int32) → post 0) ∧ ((t_token S) = (1 : Int32) → (¬ (t_value S) = x1 → post 0) ∧ ((t_value S) = x1 → post 1))
set_option maxRecDepth 100000 in
set_option maxHeartbeats 4000000 in
theorem ctX3_isWord {β : zz_B} {t : Nat → Nat} {post : Int32 → Prop} {S : TSt} {x1 : Int32} (h : wX3_isWord post S x1) : zCp β yX3_isWord cX3_isWord 2 (some .boolean) 0 0 [.ref (t 0), .int x1] ((tW β t) S) post := by
  unfold wX3_isWord at h
  unfold zCp
  refine zC.of (by decide) (Nat.le_of_ble_eq_true rfl) ?_
  intro Γ g hR
  show zV β 2 Γ ((tW β t) S) 0 [(0, .ref (t 0)), (1, .int x1)] []
  refine zv_aload_n (pc := 0) g dX3_isWord_0 0 rfl rfl ?_
  refine zv_get (pc := 1) g fl_X3_19 0 rfl rfl dX3_isWord_1 ?_
  refine zv_iconst (pc := 4) g dX3_isWord_4 (v := 1) (by decide) ?_
  refine zv_icmp_ne (pc := 5) 20 g dX3_isWord_5 rfl (fun c1 => ?_) (fun c1 => ?_)
  · replace h := h.1 c1
    refine zv_iconst (pc := 20) g dX3_isWord_20 (v := 0) (by decide) ?_
    exact zv_zret (pc := 21) g hR (by decide) dX3_isWord_21 ⟨_, rfl, rfl, h⟩
  · replace h := h.2 c1
    refine zv_aload_n (pc := 8) g dX3_isWord_8 0 rfl rfl ?_
    refine zv_get (pc := 9) g fl_X3_22 0 rfl rfl dX3_isWord_9 ?_
    refine zv_iload_n (pc := 12) g dX3_isWord_12 1 rfl rfl ?_
    refine zv_icmp_ne (pc := 13) 20 g dX3_isWord_13 rfl (fun c2 => ?_) (fun c2 => ?_)
    · replace h := h.1 c2
      refine zv_iconst (pc := 20) g dX3_isWord_20 (v := 0) (by decide) ?_
      exact zv_zret (pc := 21) g hR (by decide) dX3_isWord_21 ⟨_, rfl, rfl, h⟩
    · replace h := h.2 c2
      refine zv_iconst (pc := 16) g dX3_isWord_16 (v := 1) (by decide) ?_
      refine zv_goto (pc := 17) 21 g dX3_isWord_17 rfl ?_
      exact zv_zret (pc := 21) g hR (by decide) dX3_isWord_21 ⟨_, rfl, rfl, h⟩
def wX3_tellMemories_18 (post : Int32 → (TSt) → Prop) : Nat → (TSt) → (Int32) → Prop
  | 0, _, _ => False
  | f0 + 1, S, x1 => ((4 : Int32) ≤ x1 → ((t_token S) = (2 : Int32) → post 0 S) ∧ (¬ (t_token S) = (2 : Int32) → post 1 S)) ∧ (¬ (4 : Int32) ≤ x1 → wX3_isNumberTo (fun v6 => (v6 = 0 → ((t_token S) = (2 : Int32) → post 0 S) ∧ (¬ (t_token S) = (2 : Int32) → post 1 S)) ∧ (¬ v6 = 0 → ∀ S9 : TSt, S9 = (t_memories_s S ((t_memories S) ||| (1 <<< ((t_value S) &&& 31)))) → (wX3_step (fun S10 => wX3_tellMemories_18 post f0 S10 (x1 + 1)) S9))) S 9)
set_option maxRecDepth 100000 in
set_option maxHeartbeats 4000000 in
theorem lX3_tellMemories_18 {β : zz_B} {Γ : zz_X} {t : Nat → Nat} {post : Int32 → (TSt) → Prop} (g : zG β 2 Γ cX3_tellMemories RX3 6 127) (hR : zR β Γ (some .boolean) (fun r w => ∃ (v : Int32) (T : TSt), r = some (.int v) ∧ w = (tW β t) T ∧ post v T)) : ∀ (f0 : Nat) (S : TSt) (x1 : Int32) , wX3_tellMemories_18 post f0 S x1 → zV β 2 Γ ((tW β t) S) 18 [(0, .ref (t 0)), (1, .int x1)] [] := by
  intro f0
  induction f0 with
  | zero => intro S x1 h; exact h.elim
  | succ f0 ih0 =>
    intro S x1 h
    rw [wX3_tellMemories_18] at h
    refine zv_iload_n (pc := 18) g dX3_tellMemories_18 1 rfl rfl ?_
    refine zv_iconst (pc := 19) g dX3_tellMemories_19 (v := 4) (by decide) ?_
    refine zv_icmp_ge (pc := 20) 57 g dX3_tellMemories_20 rfl (fun c4 => ?_) (fun c4 => ?_)
    · replace h := h.1 c4
      refine zv_aload_n (pc := 57) g dX3_tellMemories_57 0 rfl rfl ?_
      refine zv_get (pc := 58) g fl_X3_19 0 rfl rfl dX3_tellMemories_58 ?_
      refine zv_iconst (pc := 61) g dX3_tellMemories_61 (v := 2) (by decide) ?_
      refine zv_icmp_eq (pc := 62) 69 g dX3_tellMemories_62 rfl (fun c5 => ?_) (fun c5 => ?_)
      · replace h := h.1 c5
        refine zv_iconst (pc := 69) g dX3_tellMemories_69 (v := 0) (by decide) ?_
        exact zv_zret (pc := 70) g hR (by decide) dX3_tellMemories_70 ⟨_, _, rfl, rfl, h⟩
      · replace h := h.2 c5
        refine zv_iconst (pc := 65) g dX3_tellMemories_65 (v := 1) (by decide) ?_
        refine zv_goto (pc := 66) 70 g dX3_tellMemories_66 rfl ?_
        exact zv_zret (pc := 70) g hR (by decide) dX3_tellMemories_70 ⟨_, _, rfl, rfl, h⟩
    · replace h := h.2 c4
      refine zv_aload_n (pc := 23) g dX3_tellMemories_23 0 rfl rfl ?_
      refine zv_bipush (pc := 24) g dX3_tellMemories_24 (v := 9) (by decide) ?_
      refine zv_cVp (pc := 26) g cw_X3_72 (ctX3_isNumberTo h) (by decide) (by decide) zz_p0 (q := 0) rfl rfl rfl rfl rfl (Nat.le_of_ble_eq_true rfl) dX3_tellMemories_26 (fun v6 h => ?_)
      refine zv_if_eq (pc := 29) 57 g dX3_tellMemories_29 rfl (fun c7 => ?_) (fun c7 => ?_)
      · replace h := h.1 c7
        refine zv_aload_n (pc := 57) g dX3_tellMemories_57 0 rfl rfl ?_
        refine zv_get (pc := 58) g fl_X3_19 0 rfl rfl dX3_tellMemories_58 ?_
        refine zv_iconst (pc := 61) g dX3_tellMemories_61 (v := 2) (by decide) ?_
        refine zv_icmp_eq (pc := 62) 69 g dX3_tellMemories_62 rfl (fun c8 => ?_) (fun c8 => ?_)
        · replace h := h.1 c8
          refine zv_iconst (pc := 69) g dX3_tellMemories_69 (v := 0) (by decide) ?_
          exact zv_zret (pc := 70) g hR (by decide) dX3_tellMemories_70 ⟨_, _, rfl, rfl, h⟩
        · replace h := h.2 c8
          refine zv_iconst (pc := 65) g dX3_tellMemories_65 (v := 1) (by decide) ?_
          refine zv_goto (pc := 66) 70 g dX3_tellMemories_66 rfl ?_
          exact zv_zret (pc := 70) g hR (by decide) dX3_tellMemories_70 ⟨_, _, rfl, rfl, h⟩
      · replace h := h.2 c7
        refine zv_aload_n (pc := 32) g dX3_tellMemories_32 0 rfl rfl ?_
        refine zv_dup (pc := 33) g dX3_tellMemories_33 rfl ?_
        refine zv_get (pc := 34) g fl_X3_31 0 rfl rfl dX3_tellMemories_34 ?_
        refine zv_iconst (pc := 37) g dX3_tellMemories_37 (v := 1) (by decide) ?_
        refine zv_aload_n (pc := 38) g dX3_tellMemories_38 0 rfl rfl ?_
        refine zv_get (pc := 39) g fl_X3_22 0 rfl rfl dX3_tellMemories_39 ?_
        refine zv_ishl (pc := 42) g dX3_tellMemories_42 ?_
        refine zv_ior (pc := 43) g dX3_tellMemories_43 ?_
        refine zv_put (pc := 44) ((tW β t) (t_memories_s S ((t_memories S) ||| (1 <<< ((t_value S) &&& 31))))) g fp_X3_31 0 rfl rfl rfl (Nat.le_of_ble_eq_true rfl) rfl dX3_tellMemories_44 ?_
        refine zv_nmS (wf := (tW β t)) (fun S9 eS9 => ?_)
        replace h := h S9 eS9
        refine zv_aload_n (pc := 47) g dX3_tellMemories_47 0 rfl rfl ?_
        refine zv_cVv (pc := 48) g cw_X3_34 (ctX3_step h) (by decide) (by decide) zz_p0 (tW β t) (fun T => zz_p1 T) (q := 0) rfl rfl rfl rfl rfl (Nat.le_of_ble_eq_true rfl) dX3_tellMemories_48 (fun S10 h => ?_)
        refine zv_iinc (pc := 51) 1 [(1, .int (x1 + 1)), (0, .ref (t 0))] g dX3_tellMemories_51 1 rfl (by decide) (by decide) rfl ?_
        refine zv_goto (pc := 54) 18 g dX3_tellMemories_54 rfl ?_
        refine zv_sub [1, 0] rfl ?_
        exact ih0 _ _ h
def wX3_tellMemories (post : Int32 → (TSt) → Prop) (S : TSt) : Prop := ∀ S1 : TSt, S1 = (t_memories_s S 0) → (wX3_isNumberTo (fun v2 => (¬ v2 = 0 → ∃ f11 : Nat, wX3_tellMemories_18 post f11 S1 0) ∧ (v2 = 0 → post 0 S1)) S1 9)
set_option maxRecDepth 100000 in
set_option maxHeartbeats 4000000 in
theorem ctX3_tellMemories {β : zz_B} {t : Nat → Nat} {post : Int32 → (TSt) → Prop} {S : TSt} (h : wX3_tellMemories post S) : zCi β yX3_tellMemories cX3_tellMemories 2 (some .boolean) 6 127 [.ref (t 0)] (tW β t) S post := by
  unfold wX3_tellMemories at h
  unfold zCi
  refine zC.of (by decide) (Nat.le_of_ble_eq_true rfl) ?_
  intro Γ g hR
  show zV β 2 Γ ((tW β t) S) 0 [(0, .ref (t 0))] []
  refine zv_aload_n (pc := 0) g dX3_tellMemories_0 0 rfl rfl ?_
  refine zv_iconst (pc := 1) g dX3_tellMemories_1 (v := 0) (by decide) ?_
  refine zv_put (pc := 2) ((tW β t) (t_memories_s S 0)) g fp_X3_31 0 rfl rfl rfl (Nat.le_of_ble_eq_true rfl) rfl dX3_tellMemories_2 ?_
  refine zv_nmS (wf := (tW β t)) (fun S1 eS1 => ?_)
  replace h := h S1 eS1
  refine zv_aload_n (pc := 5) g dX3_tellMemories_5 0 rfl rfl ?_
  refine zv_bipush (pc := 6) g dX3_tellMemories_6 (v := 9) (by decide) ?_
  refine zv_cVp (pc := 8) g cw_X3_72 (ctX3_isNumberTo h) (by decide) (by decide) zz_p0 (q := 0) rfl rfl rfl rfl rfl (Nat.le_of_ble_eq_true rfl) dX3_tellMemories_8 (fun v2 h => ?_)
  refine zv_if_ne (pc := 11) 16 g dX3_tellMemories_11 rfl (fun c3 => ?_) (fun c3 => ?_)
  · replace h := h.1 c3
    refine zv_iconst (pc := 16) g dX3_tellMemories_16 (v := 0) (by decide) ?_
    refine zv_istore_n (pc := 17) 1 [(1, .int 0), (0, .ref (t 0))] g dX3_tellMemories_17 rfl (by decide) rfl ?_
    obtain ⟨f11, h⟩ := h
    refine zv_sub [1, 0] rfl ?_
    exact lX3_tellMemories_18 g hR f11 _ _ h
  · replace h := h.2 c3
    refine zv_iconst (pc := 14) g dX3_tellMemories_14 (v := 0) (by decide) ?_
    exact zv_zret (pc := 15) g hR (by decide) dX3_tellMemories_15 ⟨_, _, rfl, rfl, h⟩
def wX3_tellRoom_58 (post : Int32 → (TSt × HSt) → Prop) (S : TSt × HSt) (x2 : Int32) : Prop := wX3_isWord (fun v8 => (v8 = 0 → post 1 S) ∧ (¬ v8 = 0 → wX3_step (fun S10 => ∀ S11 : TSt × HSt, S11 = (S10, S.2) → (wX3_tellMemories (fun v12 S13 => ∀ S14 : TSt × HSt, S14 = (S13, S11.2) → ((¬ v12 = 0 → vp_in x2 8 ∧ (∀ S16 : TSt × HSt, S16 = (S14.1, (h_memories_s S14.2 (upd (h_memories S14.2) (Int32.toNatClampNeg x2) (t_memories S14.1)))) → (post 1 S16))) ∧ (v12 = 0 → post 0 S14))) S11.1)) S.1)) S.1 10
set_option maxRecDepth 100000 in
set_option maxHeartbeats 4000000 in
theorem lX3_tellRoom_58 {β : zz_B} {Γ : zz_X} {t u : Nat → Nat} {post : Int32 → (TSt × HSt) → Prop} (g : zG β 3 Γ cX3_tellRoom RX3 7 148) (hR : zR β Γ (some .boolean) (fun r w => ∃ (v : Int32) (T : TSt × HSt), r = some (.int v) ∧ w = (thW β t u) T ∧ post v T)) (S : TSt × HSt) (x2 : Int32) (h : wX3_tellRoom_58 post S x2) : zV β 3 Γ ((thW β t u) S) 58 [(0, .ref (t 0)), (1, .ref (u 0)), (2, .int x2)] [] := by
  unfold wX3_tellRoom_58 at h
  refine zv_aload_n (pc := 58) g dX3_tellRoom_58 0 rfl rfl ?_
  refine zv_bipush (pc := 59) g dX3_tellRoom_59 (v := 10) (by decide) ?_
  refine zv_cVp (pc := 61) g cw_X3_61 (ctX3_isWord h) (by decide) (by decide) (List.Perm.refl _) (q := 0) rfl rfl rfl rfl rfl (Nat.le_of_ble_eq_true rfl) dX3_tellRoom_61 (fun v8 h => ?_)
  refine zv_if_eq (pc := 64) 90 g dX3_tellRoom_64 rfl (fun c9 => ?_) (fun c9 => ?_)
  · replace h := h.1 c9
    refine zv_iconst (pc := 90) g dX3_tellRoom_90 (v := 1) (by decide) ?_
    exact zv_zret (pc := 91) g hR (by decide) dX3_tellRoom_91 ⟨_, _, rfl, rfl, h⟩
  · replace h := h.2 c9
    refine zv_aload_n (pc := 67) g dX3_tellRoom_67 0 rfl rfl ?_
    refine zv_cVv (pc := 68) g cw_X3_34 (ctX3_step h) (by decide) (by decide) (List.Perm.refl _) (fun T => thW β t u (T, S.2)) (fun T => List.Perm.refl _) (q := 0) rfl rfl rfl rfl rfl (Nat.le_of_ble_eq_true rfl) dX3_tellRoom_68 (fun S10 h => ?_)
    refine zv_nmS (wf := (thW β t u)) (fun S11 eS11 => ?_)
    replace h := h S11 eS11
    refine zv_aload_n (pc := 71) g dX3_tellRoom_71 0 rfl rfl ?_
    refine zv_cVi (pc := 72) g cw_X3_65 (ctX3_tellMemories h) (by decide) (by decide) (List.Perm.refl _) (fun T => thW β t u (T, S11.2)) (fun T => List.Perm.refl _) (q := 0) rfl rfl rfl rfl rfl (Nat.le_of_ble_eq_true rfl) dX3_tellRoom_72 (fun v12 S13 h => ?_)
    refine zv_nmS (wf := (thW β t u)) (fun S14 eS14 => ?_)
    replace h := h S14 eS14
    refine zv_if_ne (pc := 75) 80 g dX3_tellRoom_75 rfl (fun c15 => ?_) (fun c15 => ?_)
    · replace h := h.1 c15
      refine zv_aload_n (pc := 80) g dX3_tellRoom_80 1 rfl rfl ?_
      refine zv_get (pc := 81) g fl_X3_81 2 rfl rfl dX3_tellRoom_81 ?_
      refine zv_iload_n (pc := 84) g dX3_tellRoom_84 2 rfl rfl ?_
      refine zv_aload_n (pc := 85) g dX3_tellRoom_85 0 rfl rfl ?_
      refine zv_get (pc := 86) g fl_X3_31 0 rfl rfl dX3_tellRoom_86 ?_
      obtain ⟨hi, h⟩ := h
      refine zv_ials (pc := 89) ((thW β t u) (S14.1, (h_memories_s S14.2 (upd (h_memories S14.2) (Int32.toNatClampNeg x2) (t_memories S14.1))))) g 4 rfl hi rfl dX3_tellRoom_89 ?_
      refine zv_nmS (wf := (thW β t u)) (fun S16 eS16 => ?_)
      replace h := h S16 eS16
      refine zv_iconst (pc := 90) g dX3_tellRoom_90 (v := 1) (by decide) ?_
      exact zv_zret (pc := 91) g hR (by decide) dX3_tellRoom_91 ⟨_, _, rfl, rfl, h⟩
    · replace h := h.2 c15
      refine zv_iconst (pc := 78) g dX3_tellRoom_78 (v := 0) (by decide) ?_
      exact zv_zret (pc := 79) g hR (by decide) dX3_tellRoom_79 ⟨_, _, rfl, rfl, h⟩
def wX3_tellRoom (post : Int32 → (TSt × HSt) → Prop) (S : TSt × HSt) : Prop := wX3_isNumberTo (fun v1 => (¬ v1 = 0 → ∀ y3 : Int32, y3 = (t_value S.1) → (wX3_step (fun S4 => ∀ S5 : TSt × HSt, S5 = (S4, S.2) → (wX3_isWord (fun v6 => (v6 = 0 → wX3_tellRoom_58 post S5 y3) ∧ (¬ v6 = 0 → wX3_step (fun S17 => ∀ S18 : TSt × HSt, S18 = (S17, S5.2) → (wX3_isNumberTo (fun v19 => (¬ v19 = 0 → vp_in y3 8 ∧ (∀ S21 : TSt × HSt, S21 = (S18.1, (h_dust_s S18.2 (upd (h_dust S18.2) (Int32.toNatClampNeg y3) (t_value S18.1)))) → (wX3_step (fun S22 => ∀ S23 : TSt × HSt, S23 = (S22, S21.2) → (wX3_tellRoom_58 post S23 y3)) S21.1))) ∧ (v19 = 0 → post 0 S18)) S18.1 99)) S5.1)) S5.1 9)) S.1)) ∧ (v1 = 0 → post 0 S)) S.1 7
set_option maxRecDepth 100000 in
set_option maxHeartbeats 4000000 in
theorem ctX3_tellRoom {β : zz_B} {t u : Nat → Nat} {post : Int32 → (TSt × HSt) → Prop} {S : TSt × HSt} (h : wX3_tellRoom post S) : zCi β yX3_tellRoom cX3_tellRoom 3 (some .boolean) 7 148 [.ref (t 0), .ref (u 0)] (thW β t u) S post := by
  unfold wX3_tellRoom at h
  unfold zCi
  refine zC.of (by decide) (Nat.le_of_ble_eq_true rfl) ?_
  intro Γ g hR
  show zV β 3 Γ ((thW β t u) S) 0 [(0, .ref (t 0)), (1, .ref (u 0))] []
  refine zv_aload_n (pc := 0) g dX3_tellRoom_0 0 rfl rfl ?_
  refine zv_bipush (pc := 1) g dX3_tellRoom_1 (v := 7) (by decide) ?_
  refine zv_cVp (pc := 3) g cw_X3_72 (ctX3_isNumberTo h) (by decide) (by decide) (List.Perm.refl _) (q := 0) rfl rfl rfl rfl rfl (Nat.le_of_ble_eq_true rfl) dX3_tellRoom_3 (fun v1 h => ?_)
  refine zv_if_ne (pc := 6) 11 g dX3_tellRoom_6 rfl (fun c2 => ?_) (fun c2 => ?_)
  · replace h := h.1 c2
    refine zv_aload_n (pc := 11) g dX3_tellRoom_11 0 rfl rfl ?_
    refine zv_get (pc := 12) g fl_X3_22 0 rfl rfl dX3_tellRoom_12 ?_
    refine zv_topi (fun y3 ey3 => ?_)
    replace h := h y3 ey3
    refine zv_istore_n (pc := 15) 2 [(2, .int y3), (0, .ref (t 0)), (1, .ref (u 0))] g dX3_tellRoom_15 rfl (by decide) rfl ?_
    refine zv_aload_n (pc := 16) g dX3_tellRoom_16 1 rfl rfl ?_
    refine zv_cVv (pc := 17) g cw_X3_34 (ctX3_step h) (by decide) (by decide) (List.Perm.refl _) (fun T => thW β t u (T, S.2)) (fun T => List.Perm.refl _) (q := 0) rfl rfl rfl rfl rfl (Nat.le_of_ble_eq_true rfl) dX3_tellRoom_17 (fun S4 h => ?_)
    refine zv_nmS (wf := (thW β t u)) (fun S5 eS5 => ?_)
    replace h := h S5 eS5
    refine zv_aload_n (pc := 20) g dX3_tellRoom_20 1 rfl rfl ?_
    refine zv_bipush (pc := 21) g dX3_tellRoom_21 (v := 9) (by decide) ?_
    refine zv_cVp (pc := 23) g cw_X3_61 (ctX3_isWord h) (by decide) (by decide) (List.Perm.refl _) (q := 0) rfl rfl rfl rfl rfl (Nat.le_of_ble_eq_true rfl) dX3_tellRoom_23 (fun v6 h => ?_)
    refine zv_if_eq (pc := 26) 58 g dX3_tellRoom_26 rfl (fun c7 => ?_) (fun c7 => ?_)
    · replace h := h.1 c7
      refine zv_sub [1, 2, 0] rfl ?_
      exact lX3_tellRoom_58 g hR _ _ h
    · replace h := h.2 c7
      refine zv_aload_n (pc := 29) g dX3_tellRoom_29 1 rfl rfl ?_
      refine zv_cVv (pc := 30) g cw_X3_34 (ctX3_step h) (by decide) (by decide) (List.Perm.refl _) (fun T => thW β t u (T, S5.2)) (fun T => List.Perm.refl _) (q := 0) rfl rfl rfl rfl rfl (Nat.le_of_ble_eq_true rfl) dX3_tellRoom_30 (fun S17 h => ?_)
      refine zv_nmS (wf := (thW β t u)) (fun S18 eS18 => ?_)
      replace h := h S18 eS18
      refine zv_aload_n (pc := 33) g dX3_tellRoom_33 1 rfl rfl ?_
      refine zv_bipush (pc := 34) g dX3_tellRoom_34 (v := 99) (by decide) ?_
      refine zv_cVp (pc := 36) g cw_X3_72 (ctX3_isNumberTo h) (by decide) (by decide) (List.Perm.refl _) (q := 0) rfl rfl rfl rfl rfl (Nat.le_of_ble_eq_true rfl) dX3_tellRoom_36 (fun v19 h => ?_)
      refine zv_if_ne (pc := 39) 44 g dX3_tellRoom_39 rfl (fun c20 => ?_) (fun c20 => ?_)
      · replace h := h.1 c20
        refine zv_aload_n (pc := 44) g dX3_tellRoom_44 2 rfl rfl ?_
        refine zv_get (pc := 45) g fl_X3_78 2 rfl rfl dX3_tellRoom_45 ?_
        refine zv_iload_n (pc := 48) g dX3_tellRoom_48 0 rfl rfl ?_
        refine zv_aload_n (pc := 49) g dX3_tellRoom_49 1 rfl rfl ?_
        refine zv_get (pc := 50) g fl_X3_22 0 rfl rfl dX3_tellRoom_50 ?_
        obtain ⟨hi, h⟩ := h
        refine zv_ials (pc := 53) ((thW β t u) (S18.1, (h_dust_s S18.2 (upd (h_dust S18.2) (Int32.toNatClampNeg y3) (t_value S18.1))))) g 3 rfl hi rfl dX3_tellRoom_53 ?_
        refine zv_nmS (wf := (thW β t u)) (fun S21 eS21 => ?_)
        replace h := h S21 eS21
        refine zv_aload_n (pc := 54) g dX3_tellRoom_54 1 rfl rfl ?_
        refine zv_cVv (pc := 55) g cw_X3_34 (ctX3_step h) (by decide) (by decide) (List.Perm.refl _) (fun T => thW β t u (T, S21.2)) (fun T => List.Perm.refl _) (q := 0) rfl rfl rfl rfl rfl (Nat.le_of_ble_eq_true rfl) dX3_tellRoom_55 (fun S22 h => ?_)
        refine zv_nmS (wf := (thW β t u)) (fun S23 eS23 => ?_)
        replace h := h S23 eS23
        refine zv_sub [1, 2, 0] rfl ?_
        exact lX3_tellRoom_58 g hR _ _ h
      · replace h := h.2 c20
        refine zv_iconst (pc := 42) g dX3_tellRoom_42 (v := 0) (by decide) ?_
        exact zv_zret (pc := 43) g hR (by decide) dX3_tellRoom_43 ⟨_, _, rfl, rfl, h⟩
  · replace h := h.2 c2
    refine zv_iconst (pc := 9) g dX3_tellRoom_9 (v := 0) (by decide) ?_
    exact zv_zret (pc := 10) g hR (by decide) dX3_tellRoom_10 ⟨_, _, rfl, rfl, h⟩
def wX3_tellFalls (post : Int32 → (TSt × HSt) → Prop) (S : TSt × HSt) : Prop := wX3_isNumberTo (fun v1 => (¬ v1 = 0 → ∀ S3 : TSt × HSt, S3 = (S.1, (h_fall_s S.2 (t_value S.1))) → (wX3_step (fun S4 => ∀ S5 : TSt × HSt, S5 = (S4, S3.2) → (post 1 S5)) S3.1)) ∧ (v1 = 0 → post 0 S)) S.1 20
set_option maxRecDepth 100000 in
set_option maxHeartbeats 4000000 in
theorem ctX3_tellFalls {β : zz_B} {t u : Nat → Nat} {post : Int32 → (TSt × HSt) → Prop} {S : TSt × HSt} (h : wX3_tellFalls post S) : zCi β yX3_tellFalls cX3_tellFalls 2 (some .boolean) 6 127 [.ref (t 0), .ref (u 0)] (thW β t u) S post := by
  unfold wX3_tellFalls at h
  unfold zCi
  refine zC.of (by decide) (Nat.le_of_ble_eq_true rfl) ?_
  intro Γ g hR
  show zV β 2 Γ ((thW β t u) S) 0 [(0, .ref (t 0)), (1, .ref (u 0))] []
  refine zv_aload_n (pc := 0) g dX3_tellFalls_0 0 rfl rfl ?_
  refine zv_bipush (pc := 1) g dX3_tellFalls_1 (v := 20) (by decide) ?_
  refine zv_cVp (pc := 3) g cw_X3_72 (ctX3_isNumberTo h) (by decide) (by decide) (List.Perm.refl _) (q := 0) rfl rfl rfl rfl rfl (Nat.le_of_ble_eq_true rfl) dX3_tellFalls_3 (fun v1 h => ?_)
  refine zv_if_ne (pc := 6) 11 g dX3_tellFalls_6 rfl (fun c2 => ?_) (fun c2 => ?_)
  · replace h := h.1 c2
    refine zv_aload_n (pc := 11) g dX3_tellFalls_11 1 rfl rfl ?_
    refine zv_aload_n (pc := 12) g dX3_tellFalls_12 0 rfl rfl ?_
    refine zv_get (pc := 13) g fl_X3_22 0 rfl rfl dX3_tellFalls_13 ?_
    refine zv_put (pc := 16) ((thW β t u) (S.1, (h_fall_s S.2 (t_value S.1)))) g fp_X3_83 2 rfl rfl rfl (Nat.le_of_ble_eq_true rfl) rfl dX3_tellFalls_16 ?_
    refine zv_nmS (wf := (thW β t u)) (fun S3 eS3 => ?_)
    replace h := h S3 eS3
    refine zv_aload_n (pc := 19) g dX3_tellFalls_19 0 rfl rfl ?_
    refine zv_cVv (pc := 20) g cw_X3_34 (ctX3_step h) (by decide) (by decide) (List.Perm.refl _) (fun T => thW β t u (T, S3.2)) (fun T => List.Perm.refl _) (q := 0) rfl rfl rfl rfl rfl (Nat.le_of_ble_eq_true rfl) dX3_tellFalls_20 (fun S4 h => ?_)
    refine zv_nmS (wf := (thW β t u)) (fun S5 eS5 => ?_)
    replace h := h S5 eS5
    refine zv_iconst (pc := 23) g dX3_tellFalls_23 (v := 1) (by decide) ?_
    exact zv_zret (pc := 24) g hR (by decide) dX3_tellFalls_24 ⟨_, _, rfl, rfl, h⟩
  · replace h := h.2 c2
    refine zv_iconst (pc := 9) g dX3_tellFalls_9 (v := 0) (by decide) ?_
    exact zv_zret (pc := 10) g hR (by decide) dX3_tellFalls_10 ⟨_, _, rfl, rfl, h⟩
def wX3_tellWash (post : Int32 → (TSt × HSt) → Prop) (S : TSt × HSt) : Prop := wX3_isNumberTo (fun v1 => (¬ v1 = 0 → wX0_washOne (fun v3 S4 => ∀ S5 : TSt × HSt, S5 = (S.1, S4) → (wX3_step (fun S6 => ∀ S7 : TSt × HSt, S7 = (S6, S5.2) → (post 1 S7)) S5.1)) S.2 (t_value S.1)) ∧ (v1 = 0 → post 0 S)) S.1 ((h_dusters S.2) - 1)
set_option maxRecDepth 100000 in
set_option maxHeartbeats 4000000 in
theorem ctX3_tellWash {β : zz_B} {t u : Nat → Nat} {post : Int32 → (TSt × HSt) → Prop} {S : TSt × HSt} (h : wX3_tellWash post S) : zCi β yX3_tellWash cX3_tellWash 2 (some .boolean) 6 127 [.ref (t 0), .ref (u 0)] (thW β t u) S post := by
  unfold wX3_tellWash at h
  unfold zCi
  refine zC.of (by decide) (Nat.le_of_ble_eq_true rfl) ?_
  intro Γ g hR
  show zV β 2 Γ ((thW β t u) S) 0 [(0, .ref (t 0)), (1, .ref (u 0))] []
  refine zv_aload_n (pc := 0) g dX3_tellWash_0 0 rfl rfl ?_
  refine zv_aload_n (pc := 1) g dX3_tellWash_1 1 rfl rfl ?_
  refine zv_get (pc := 2) g fl_X3_86 2 rfl rfl dX3_tellWash_2 ?_
  refine zv_iconst (pc := 5) g dX3_tellWash_5 (v := 1) (by decide) ?_
  refine zv_isub (pc := 6) g dX3_tellWash_6 ?_
  refine zv_cVp (pc := 7) g cw_X3_72 (ctX3_isNumberTo h) (by decide) (by decide) (List.Perm.refl _) (q := 0) rfl rfl rfl rfl rfl (Nat.le_of_ble_eq_true rfl) dX3_tellWash_7 (fun v1 h => ?_)
  refine zv_if_ne (pc := 10) 15 g dX3_tellWash_10 rfl (fun c2 => ?_) (fun c2 => ?_)
  · replace h := h.1 c2
    refine zv_aload_n (pc := 15) g dX3_tellWash_15 1 rfl rfl ?_
    refine zv_aload_n (pc := 16) g dX3_tellWash_16 0 rfl rfl ?_
    refine zv_get (pc := 17) g fl_X3_22 0 rfl rfl dX3_tellWash_17 ?_
    refine zv_cVi (pc := 20) g cw_X3_89 (ctX0_washOne h) (by decide) (by decide) List.perm_append_comm (fun T => thW β t u (S.1, T)) (fun T => List.perm_append_comm) (q := 0) rfl rfl rfl rfl rfl (Nat.le_of_ble_eq_true rfl) dX3_tellWash_20 (fun v3 S4 h => ?_)
    refine zv_nmS (wf := (thW β t u)) (fun S5 eS5 => ?_)
    replace h := h S5 eS5
    refine zv_pop (pc := 23) g dX3_tellWash_23 rfl ?_
    refine zv_aload_n (pc := 24) g dX3_tellWash_24 0 rfl rfl ?_
    refine zv_cVv (pc := 25) g cw_X3_34 (ctX3_step h) (by decide) (by decide) (List.Perm.refl _) (fun T => thW β t u (T, S5.2)) (fun T => List.Perm.refl _) (q := 0) rfl rfl rfl rfl rfl (Nat.le_of_ble_eq_true rfl) dX3_tellWash_25 (fun S6 h => ?_)
    refine zv_nmS (wf := (thW β t u)) (fun S7 eS7 => ?_)
    replace h := h S7 eS7
    refine zv_iconst (pc := 28) g dX3_tellWash_28 (v := 1) (by decide) ?_
    exact zv_zret (pc := 29) g hR (by decide) dX3_tellWash_29 ⟨_, _, rfl, rfl, h⟩
  · replace h := h.2 c2
    refine zv_iconst (pc := 13) g dX3_tellWash_13 (v := 0) (by decide) ?_
    exact zv_zret (pc := 14) g hR (by decide) dX3_tellWash_14 ⟨_, _, rfl, rfl, h⟩
def wX3_tellDuster_51 (post : Int32 → (TSt × HSt) → Prop) (S : TSt × HSt) (x2 : Int32) : Prop := wX3_isWord (fun v9 => (v9 = 0 → post 1 S) ∧ (¬ v9 = 0 → wX3_step (fun S11 => ∀ S12 : TSt × HSt, S12 = (S11, S.2) → (wX3_isNumberTo (fun v13 => (¬ v13 = 0 → vp_in x2 8 ∧ (∀ S15 : TSt × HSt, S15 = (S12.1, (h_grimes_s S12.2 (upd (h_grimes S12.2) (Int32.toNatClampNeg x2) (t_value S12.1)))) → (wX3_step (fun S16 => ∀ S17 : TSt × HSt, S17 = (S16, S15.2) → (post 1 S17)) S15.1))) ∧ (v13 = 0 → post 0 S12)) S12.1 99)) S.1)) S.1 7
set_option maxRecDepth 100000 in
set_option maxHeartbeats 4000000 in
theorem lX3_tellDuster_51 {β : zz_B} {Γ : zz_X} {t u : Nat → Nat} {post : Int32 → (TSt × HSt) → Prop} (g : zG β 3 Γ cX3_tellDuster RX3 7 148) (hR : zR β Γ (some .boolean) (fun r w => ∃ (v : Int32) (T : TSt × HSt), r = some (.int v) ∧ w = (thW β t u) T ∧ post v T)) (S : TSt × HSt) (x2 : Int32) (h : wX3_tellDuster_51 post S x2) : zV β 3 Γ ((thW β t u) S) 51 [(0, .ref (t 0)), (1, .ref (u 0)), (2, .int x2)] [] := by
  unfold wX3_tellDuster_51 at h
  refine zv_aload_n (pc := 51) g dX3_tellDuster_51 0 rfl rfl ?_
  refine zv_bipush (pc := 52) g dX3_tellDuster_52 (v := 7) (by decide) ?_
  refine zv_cVp (pc := 54) g cw_X3_61 (ctX3_isWord h) (by decide) (by decide) (List.Perm.refl _) (q := 0) rfl rfl rfl rfl rfl (Nat.le_of_ble_eq_true rfl) dX3_tellDuster_54 (fun v9 h => ?_)
  refine zv_if_eq (pc := 57) 89 g dX3_tellDuster_57 rfl (fun c10 => ?_) (fun c10 => ?_)
  · replace h := h.1 c10
    refine zv_iconst (pc := 89) g dX3_tellDuster_89 (v := 1) (by decide) ?_
    exact zv_zret (pc := 90) g hR (by decide) dX3_tellDuster_90 ⟨_, _, rfl, rfl, h⟩
  · replace h := h.2 c10
    refine zv_aload_n (pc := 60) g dX3_tellDuster_60 0 rfl rfl ?_
    refine zv_cVv (pc := 61) g cw_X3_34 (ctX3_step h) (by decide) (by decide) (List.Perm.refl _) (fun T => thW β t u (T, S.2)) (fun T => List.Perm.refl _) (q := 0) rfl rfl rfl rfl rfl (Nat.le_of_ble_eq_true rfl) dX3_tellDuster_61 (fun S11 h => ?_)
    refine zv_nmS (wf := (thW β t u)) (fun S12 eS12 => ?_)
    replace h := h S12 eS12
    refine zv_aload_n (pc := 64) g dX3_tellDuster_64 0 rfl rfl ?_
    refine zv_bipush (pc := 65) g dX3_tellDuster_65 (v := 99) (by decide) ?_
    refine zv_cVp (pc := 67) g cw_X3_72 (ctX3_isNumberTo h) (by decide) (by decide) (List.Perm.refl _) (q := 0) rfl rfl rfl rfl rfl (Nat.le_of_ble_eq_true rfl) dX3_tellDuster_67 (fun v13 h => ?_)
    refine zv_if_ne (pc := 70) 75 g dX3_tellDuster_70 rfl (fun c14 => ?_) (fun c14 => ?_)
    · replace h := h.1 c14
      refine zv_aload_n (pc := 75) g dX3_tellDuster_75 1 rfl rfl ?_
      refine zv_get (pc := 76) g fl_X3_75 2 rfl rfl dX3_tellDuster_76 ?_
      refine zv_iload_n (pc := 79) g dX3_tellDuster_79 2 rfl rfl ?_
      refine zv_aload_n (pc := 80) g dX3_tellDuster_80 0 rfl rfl ?_
      refine zv_get (pc := 81) g fl_X3_22 0 rfl rfl dX3_tellDuster_81 ?_
      obtain ⟨hi, h⟩ := h
      refine zv_ials (pc := 84) ((thW β t u) (S12.1, (h_grimes_s S12.2 (upd (h_grimes S12.2) (Int32.toNatClampNeg x2) (t_value S12.1))))) g 7 rfl hi rfl dX3_tellDuster_84 ?_
      refine zv_nmS (wf := (thW β t u)) (fun S15 eS15 => ?_)
      replace h := h S15 eS15
      refine zv_aload_n (pc := 85) g dX3_tellDuster_85 0 rfl rfl ?_
      refine zv_cVv (pc := 86) g cw_X3_34 (ctX3_step h) (by decide) (by decide) (List.Perm.refl _) (fun T => thW β t u (T, S15.2)) (fun T => List.Perm.refl _) (q := 0) rfl rfl rfl rfl rfl (Nat.le_of_ble_eq_true rfl) dX3_tellDuster_86 (fun S16 h => ?_)
      refine zv_nmS (wf := (thW β t u)) (fun S17 eS17 => ?_)
      replace h := h S17 eS17
      refine zv_iconst (pc := 89) g dX3_tellDuster_89 (v := 1) (by decide) ?_
      exact zv_zret (pc := 90) g hR (by decide) dX3_tellDuster_90 ⟨_, _, rfl, rfl, h⟩
    · replace h := h.2 c14
      refine zv_iconst (pc := 73) g dX3_tellDuster_73 (v := 0) (by decide) ?_
      exact zv_zret (pc := 74) g hR (by decide) dX3_tellDuster_74 ⟨_, _, rfl, rfl, h⟩
def wX3_tellDuster (post : Int32 → (TSt × HSt) → Prop) (S : TSt × HSt) : Prop := wX0_addDuster (fun v1 S2 => ∀ S3 : TSt × HSt, S3 = (S.1, S2) → ((0 ≤ v1 → wX3_step (fun S5 => ∀ S6 : TSt × HSt, S6 = (S5, S3.2) → (wX3_isWord (fun v7 => (v7 = 0 → wX3_tellDuster_51 post S6 v1) ∧ (¬ v7 = 0 → wX3_step (fun S18 => ∀ S19 : TSt × HSt, S19 = (S18, S6.2) → (wX3_tellMemories (fun v20 S21 => ∀ S22 : TSt × HSt, S22 = (S21, S19.2) → ((¬ v20 = 0 → vp_in v1 8 ∧ (∀ S24 : TSt × HSt, S24 = (S22.1, (h_held_s S22.2 (upd (h_held S22.2) (Int32.toNatClampNeg v1) (t_memories S22.1)))) → (wX3_tellDuster_51 post S24 v1))) ∧ (v20 = 0 → post 0 S22))) S19.1)) S6.1)) S6.1 6)) S3.1) ∧ (¬ 0 ≤ v1 → post 0 S3))) S.2 (t_value S.1)
set_option maxRecDepth 100000 in
set_option maxHeartbeats 4000000 in
theorem ctX3_tellDuster {β : zz_B} {t u : Nat → Nat} {post : Int32 → (TSt × HSt) → Prop} {S : TSt × HSt} (h : wX3_tellDuster post S) : zCi β yX3_tellDuster cX3_tellDuster 3 (some .boolean) 7 148 [.ref (t 0), .ref (u 0)] (thW β t u) S post := by
  unfold wX3_tellDuster at h
  unfold zCi
  refine zC.of (by decide) (Nat.le_of_ble_eq_true rfl) ?_
  intro Γ g hR
  show zV β 3 Γ ((thW β t u) S) 0 [(0, .ref (t 0)), (1, .ref (u 0))] []
  refine zv_aload_n (pc := 0) g dX3_tellDuster_0 1 rfl rfl ?_
  refine zv_aload_n (pc := 1) g dX3_tellDuster_1 0 rfl rfl ?_
  refine zv_get (pc := 2) g fl_X3_22 0 rfl rfl dX3_tellDuster_2 ?_
  refine zv_cVi (pc := 5) g cw_X3_55 (ctX0_addDuster h) (by decide) (by decide) List.perm_append_comm (fun T => thW β t u (S.1, T)) (fun T => List.perm_append_comm) (q := 0) rfl rfl rfl rfl rfl (Nat.le_of_ble_eq_true rfl) dX3_tellDuster_5 (fun v1 S2 h => ?_)
  refine zv_nmS (wf := (thW β t u)) (fun S3 eS3 => ?_)
  replace h := h S3 eS3
  refine zv_istore_n (pc := 8) 2 [(2, .int v1), (0, .ref (t 0)), (1, .ref (u 0))] g dX3_tellDuster_8 rfl (by decide) rfl ?_
  refine zv_iload_n (pc := 9) g dX3_tellDuster_9 0 rfl rfl ?_
  refine zv_if_ge (pc := 10) 15 g dX3_tellDuster_10 rfl (fun c4 => ?_) (fun c4 => ?_)
  · replace h := h.1 c4
    refine zv_aload_n (pc := 15) g dX3_tellDuster_15 1 rfl rfl ?_
    refine zv_cVv (pc := 16) g cw_X3_34 (ctX3_step h) (by decide) (by decide) (List.Perm.refl _) (fun T => thW β t u (T, S3.2)) (fun T => List.Perm.refl _) (q := 0) rfl rfl rfl rfl rfl (Nat.le_of_ble_eq_true rfl) dX3_tellDuster_16 (fun S5 h => ?_)
    refine zv_nmS (wf := (thW β t u)) (fun S6 eS6 => ?_)
    replace h := h S6 eS6
    refine zv_aload_n (pc := 19) g dX3_tellDuster_19 1 rfl rfl ?_
    refine zv_bipush (pc := 20) g dX3_tellDuster_20 (v := 6) (by decide) ?_
    refine zv_cVp (pc := 22) g cw_X3_61 (ctX3_isWord h) (by decide) (by decide) (List.Perm.refl _) (q := 0) rfl rfl rfl rfl rfl (Nat.le_of_ble_eq_true rfl) dX3_tellDuster_22 (fun v7 h => ?_)
    refine zv_if_eq (pc := 25) 51 g dX3_tellDuster_25 rfl (fun c8 => ?_) (fun c8 => ?_)
    · replace h := h.1 c8
      refine zv_sub [1, 2, 0] rfl ?_
      exact lX3_tellDuster_51 g hR _ _ h
    · replace h := h.2 c8
      refine zv_aload_n (pc := 28) g dX3_tellDuster_28 1 rfl rfl ?_
      refine zv_cVv (pc := 29) g cw_X3_34 (ctX3_step h) (by decide) (by decide) (List.Perm.refl _) (fun T => thW β t u (T, S6.2)) (fun T => List.Perm.refl _) (q := 0) rfl rfl rfl rfl rfl (Nat.le_of_ble_eq_true rfl) dX3_tellDuster_29 (fun S18 h => ?_)
      refine zv_nmS (wf := (thW β t u)) (fun S19 eS19 => ?_)
      replace h := h S19 eS19
      refine zv_aload_n (pc := 32) g dX3_tellDuster_32 1 rfl rfl ?_
      refine zv_cVi (pc := 33) g cw_X3_65 (ctX3_tellMemories h) (by decide) (by decide) (List.Perm.refl _) (fun T => thW β t u (T, S19.2)) (fun T => List.Perm.refl _) (q := 0) rfl rfl rfl rfl rfl (Nat.le_of_ble_eq_true rfl) dX3_tellDuster_33 (fun v20 S21 h => ?_)
      refine zv_nmS (wf := (thW β t u)) (fun S22 eS22 => ?_)
      replace h := h S22 eS22
      refine zv_if_ne (pc := 36) 41 g dX3_tellDuster_36 rfl (fun c23 => ?_) (fun c23 => ?_)
      · replace h := h.1 c23
        refine zv_aload_n (pc := 41) g dX3_tellDuster_41 2 rfl rfl ?_
        refine zv_get (pc := 42) g fl_X3_69 2 rfl rfl dX3_tellDuster_42 ?_
        refine zv_iload_n (pc := 45) g dX3_tellDuster_45 0 rfl rfl ?_
        refine zv_aload_n (pc := 46) g dX3_tellDuster_46 1 rfl rfl ?_
        refine zv_get (pc := 47) g fl_X3_31 0 rfl rfl dX3_tellDuster_47 ?_
        obtain ⟨hi, h⟩ := h
        refine zv_ials (pc := 50) ((thW β t u) (S22.1, (h_held_s S22.2 (upd (h_held S22.2) (Int32.toNatClampNeg v1) (t_memories S22.1))))) g 6 rfl hi rfl dX3_tellDuster_50 ?_
        refine zv_nmS (wf := (thW β t u)) (fun S24 eS24 => ?_)
        replace h := h S24 eS24
        refine zv_sub [1, 2, 0] rfl ?_
        exact lX3_tellDuster_51 g hR _ _ h
      · replace h := h.2 c23
        refine zv_iconst (pc := 39) g dX3_tellDuster_39 (v := 0) (by decide) ?_
        exact zv_zret (pc := 40) g hR (by decide) dX3_tellDuster_40 ⟨_, _, rfl, rfl, h⟩
  · replace h := h.2 c4
    refine zv_iconst (pc := 13) g dX3_tellDuster_13 (v := 0) (by decide) ?_
    exact zv_zret (pc := 14) g hR (by decide) dX3_tellDuster_14 ⟨_, _, rfl, rfl, h⟩
def wX3_tellItem (post : Int32 → (TSt × HSt) → Prop) (S : TSt × HSt) : Prop := ((t_token S.1) = (1 : Int32) → ((t_value S.1) = 8 → wX3_step (fun S3 => ∀ S4 : TSt × HSt, S4 = (S3, S.2) → (wX3_tellRoom (fun v5 S6 => (v5 = 0 ∨ v5 = 1) ∧ post v5 S6) S4)) S.1) ∧ ((t_value S.1) = 9 → ((5 : Int32) < (t_value S.1) → post 0 S) ∧ (¬ (5 : Int32) < (t_value S.1) → wX3_tellDuster (fun v8 S9 => (v8 = 0 → post 0 S9) ∧ (¬ v8 = 0 → post 1 S9)) S)) ∧ ((t_value S.1) = 10 → ((5 : Int32) < (t_value S.1) → post 0 S) ∧ (¬ (5 : Int32) < (t_value S.1) → wX3_tellDuster (fun v12 S13 => (v12 = 0 → post 0 S13) ∧ (¬ v12 = 0 → post 1 S13)) S)) ∧ ((t_value S.1) = 11 → wX3_step (fun S15 => ∀ S16 : TSt × HSt, S16 = (S15, S.2) → (wX3_tellFalls (fun v17 S18 => (v17 = 0 ∨ v17 = 1) ∧ post v17 S18) S16)) S.1) ∧ ((t_value S.1) = 12 → wX3_step (fun S19 => ∀ S20 : TSt × HSt, S20 = (S19, S.2) → (wX3_tellWash (fun v21 S22 => (v21 = 0 ∨ v21 = 1) ∧ post v21 S22) S20)) S.1) ∧ ((((t_value S.1)).toInt < 8 ∨ 12 < ((t_value S.1)).toInt) → ((5 : Int32) < (t_value S.1) → post 0 S) ∧ (¬ (5 : Int32) < (t_value S.1) → wX3_tellDuster (fun v24 S25 => (v24 = 0 → post 0 S25) ∧ (¬ v24 = 0 → post 1 S25)) S))) ∧ (¬ (t_token S.1) = (1 : Int32) → post 0 S)
set_option maxRecDepth 100000 in
set_option maxHeartbeats 4000000 in
theorem ctX3_tellItem {β : zz_B} {t u : Nat → Nat} {post : Int32 → (TSt × HSt) → Prop} {S : TSt × HSt} (h : wX3_tellItem post S) : zCi β yX3_tellItem cX3_tellItem 2 (some .boolean) 8 170 [.ref (t 0), .ref (u 0)] (thW β t u) S post := by
  unfold wX3_tellItem at h
  unfold zCi
  refine zC.of (by decide) (Nat.le_of_ble_eq_true rfl) ?_
  intro Γ g hR
  show zV β 2 Γ ((thW β t u) S) 0 [(0, .ref (t 0)), (1, .ref (u 0))] []
  refine zv_aload_n (pc := 0) g dX3_tellItem_0 0 rfl rfl ?_
  refine zv_get (pc := 1) g fl_X3_19 0 rfl rfl dX3_tellItem_1 ?_
  refine zv_iconst (pc := 4) g dX3_tellItem_4 (v := 1) (by decide) ?_
  refine zv_icmp_eq (pc := 5) 10 g dX3_tellItem_5 rfl (fun c1 => ?_) (fun c1 => ?_)
  · replace h := h.1 c1
    refine zv_aload_n (pc := 10) g dX3_tellItem_10 0 rfl rfl ?_
    refine zv_get (pc := 11) g fl_X3_22 0 rfl rfl dX3_tellItem_11 ?_
    rcases zz_ts_8_12 (t_value S.1) with c2 | c2 | c2 | c2 | c2 | c2
    · refine zv_tblIn (pc := 14) 8 48 g dX3_tellItem_14 c2 (by decide) (by decide) rfl rfl ?_
      replace h := h.1 c2
      refine zv_aload_n (pc := 48) g dX3_tellItem_48 0 rfl rfl ?_
      refine zv_cVv (pc := 49) g cw_X3_34 (ctX3_step h) (by decide) (by decide) (List.Perm.refl _) (fun T => thW β t u (T, S.2)) (fun T => List.Perm.refl _) (q := 0) rfl rfl rfl rfl rfl (Nat.le_of_ble_eq_true rfl) dX3_tellItem_49 (fun S3 h => ?_)
      refine zv_nmS (wf := (thW β t u)) (fun S4 eS4 => ?_)
      replace h := h S4 eS4
      refine zv_aload_n (pc := 52) g dX3_tellItem_52 0 rfl rfl ?_
      refine zv_aload_n (pc := 53) g dX3_tellItem_53 1 rfl rfl ?_
      refine zv_cVi (pc := 54) g cw_X3_41 (ctX3_tellRoom h) (by decide) (by decide) zz_p0 (thW β t u) (fun T => zz_p1 T) (q := 0) rfl rfl rfl rfl rfl (Nat.le_of_ble_eq_true rfl) dX3_tellItem_54 (fun v5 S6 h => ?_)
      exact zv_zret (pc := 57) g hR (zz_nb h.1).1 dX3_tellItem_57 ⟨_, _, rfl, rfl, h.2⟩
    · refine zv_tblIn (pc := 14) 9 78 g dX3_tellItem_14 c2 (by decide) (by decide) rfl rfl ?_
      replace h := h.2.1 c2
      refine zv_aload_n (pc := 78) g dX3_tellItem_78 0 rfl rfl ?_
      refine zv_get (pc := 79) g fl_X3_22 0 rfl rfl dX3_tellItem_79 ?_
      refine zv_iconst (pc := 82) g dX3_tellItem_82 (v := 5) (by decide) ?_
      refine zv_icmp_gt (pc := 83) 98 g dX3_tellItem_83 rfl (fun c7 => ?_) (fun c7 => ?_)
      · replace h := h.1 c7
        refine zv_iconst (pc := 98) g dX3_tellItem_98 (v := 0) (by decide) ?_
        exact zv_zret (pc := 99) g hR (by decide) dX3_tellItem_99 ⟨_, _, rfl, rfl, h⟩
      · replace h := h.2 c7
        refine zv_aload_n (pc := 86) g dX3_tellItem_86 0 rfl rfl ?_
        refine zv_aload_n (pc := 87) g dX3_tellItem_87 1 rfl rfl ?_
        refine zv_cVi (pc := 88) g cw_X3_52 (ctX3_tellDuster h) (by decide) (by decide) zz_p0 (thW β t u) (fun T => zz_p1 T) (q := 0) rfl rfl rfl rfl rfl (Nat.le_of_ble_eq_true rfl) dX3_tellItem_88 (fun v8 S9 h => ?_)
        refine zv_if_eq (pc := 91) 98 g dX3_tellItem_91 rfl (fun c10 => ?_) (fun c10 => ?_)
        · replace h := h.1 c10
          refine zv_iconst (pc := 98) g dX3_tellItem_98 (v := 0) (by decide) ?_
          exact zv_zret (pc := 99) g hR (by decide) dX3_tellItem_99 ⟨_, _, rfl, rfl, h⟩
        · replace h := h.2 c10
          refine zv_iconst (pc := 94) g dX3_tellItem_94 (v := 1) (by decide) ?_
          refine zv_goto (pc := 95) 99 g dX3_tellItem_95 rfl ?_
          exact zv_zret (pc := 99) g hR (by decide) dX3_tellItem_99 ⟨_, _, rfl, rfl, h⟩
    · refine zv_tblIn (pc := 14) 10 78 g dX3_tellItem_14 c2 (by decide) (by decide) rfl rfl ?_
      replace h := h.2.2.1 c2
      refine zv_aload_n (pc := 78) g dX3_tellItem_78 0 rfl rfl ?_
      refine zv_get (pc := 79) g fl_X3_22 0 rfl rfl dX3_tellItem_79 ?_
      refine zv_iconst (pc := 82) g dX3_tellItem_82 (v := 5) (by decide) ?_
      refine zv_icmp_gt (pc := 83) 98 g dX3_tellItem_83 rfl (fun c11 => ?_) (fun c11 => ?_)
      · replace h := h.1 c11
        refine zv_iconst (pc := 98) g dX3_tellItem_98 (v := 0) (by decide) ?_
        exact zv_zret (pc := 99) g hR (by decide) dX3_tellItem_99 ⟨_, _, rfl, rfl, h⟩
      · replace h := h.2 c11
        refine zv_aload_n (pc := 86) g dX3_tellItem_86 0 rfl rfl ?_
        refine zv_aload_n (pc := 87) g dX3_tellItem_87 1 rfl rfl ?_
        refine zv_cVi (pc := 88) g cw_X3_52 (ctX3_tellDuster h) (by decide) (by decide) zz_p0 (thW β t u) (fun T => zz_p1 T) (q := 0) rfl rfl rfl rfl rfl (Nat.le_of_ble_eq_true rfl) dX3_tellItem_88 (fun v12 S13 h => ?_)
        refine zv_if_eq (pc := 91) 98 g dX3_tellItem_91 rfl (fun c14 => ?_) (fun c14 => ?_)
        · replace h := h.1 c14
          refine zv_iconst (pc := 98) g dX3_tellItem_98 (v := 0) (by decide) ?_
          exact zv_zret (pc := 99) g hR (by decide) dX3_tellItem_99 ⟨_, _, rfl, rfl, h⟩
        · replace h := h.2 c14
          refine zv_iconst (pc := 94) g dX3_tellItem_94 (v := 1) (by decide) ?_
          refine zv_goto (pc := 95) 99 g dX3_tellItem_95 rfl ?_
          exact zv_zret (pc := 99) g hR (by decide) dX3_tellItem_99 ⟨_, _, rfl, rfl, h⟩
    · refine zv_tblIn (pc := 14) 11 58 g dX3_tellItem_14 c2 (by decide) (by decide) rfl rfl ?_
      replace h := h.2.2.2.1 c2
      refine zv_aload_n (pc := 58) g dX3_tellItem_58 0 rfl rfl ?_
      refine zv_cVv (pc := 59) g cw_X3_34 (ctX3_step h) (by decide) (by decide) (List.Perm.refl _) (fun T => thW β t u (T, S.2)) (fun T => List.Perm.refl _) (q := 0) rfl rfl rfl rfl rfl (Nat.le_of_ble_eq_true rfl) dX3_tellItem_59 (fun S15 h => ?_)
      refine zv_nmS (wf := (thW β t u)) (fun S16 eS16 => ?_)
      replace h := h S16 eS16
      refine zv_aload_n (pc := 62) g dX3_tellItem_62 0 rfl rfl ?_
      refine zv_aload_n (pc := 63) g dX3_tellItem_63 1 rfl rfl ?_
      refine zv_cVi (pc := 64) g cw_X3_44 (ctX3_tellFalls h) (by decide) (by decide) zz_p0 (thW β t u) (fun T => zz_p1 T) (q := 0) rfl rfl rfl rfl rfl (Nat.le_of_ble_eq_true rfl) dX3_tellItem_64 (fun v17 S18 h => ?_)
      exact zv_zret (pc := 67) g hR (zz_nb h.1).1 dX3_tellItem_67 ⟨_, _, rfl, rfl, h.2⟩
    · refine zv_tblIn (pc := 14) 12 68 g dX3_tellItem_14 c2 (by decide) (by decide) rfl rfl ?_
      replace h := h.2.2.2.2.1 c2
      refine zv_aload_n (pc := 68) g dX3_tellItem_68 0 rfl rfl ?_
      refine zv_cVv (pc := 69) g cw_X3_34 (ctX3_step h) (by decide) (by decide) (List.Perm.refl _) (fun T => thW β t u (T, S.2)) (fun T => List.Perm.refl _) (q := 0) rfl rfl rfl rfl rfl (Nat.le_of_ble_eq_true rfl) dX3_tellItem_69 (fun S19 h => ?_)
      refine zv_nmS (wf := (thW β t u)) (fun S20 eS20 => ?_)
      replace h := h S20 eS20
      refine zv_aload_n (pc := 72) g dX3_tellItem_72 0 rfl rfl ?_
      refine zv_aload_n (pc := 73) g dX3_tellItem_73 1 rfl rfl ?_
      refine zv_cVi (pc := 74) g cw_X3_47 (ctX3_tellWash h) (by decide) (by decide) zz_p0 (thW β t u) (fun T => zz_p1 T) (q := 0) rfl rfl rfl rfl rfl (Nat.le_of_ble_eq_true rfl) dX3_tellItem_74 (fun v21 S22 h => ?_)
      exact zv_zret (pc := 77) g hR (zz_nb h.1).1 dX3_tellItem_77 ⟨_, _, rfl, rfl, h.2⟩
    · refine zv_tblOut (pc := 14) 78 g dX3_tellItem_14 c2 rfl ?_
      replace h := h.2.2.2.2.2 c2
      refine zv_aload_n (pc := 78) g dX3_tellItem_78 0 rfl rfl ?_
      refine zv_get (pc := 79) g fl_X3_22 0 rfl rfl dX3_tellItem_79 ?_
      refine zv_iconst (pc := 82) g dX3_tellItem_82 (v := 5) (by decide) ?_
      refine zv_icmp_gt (pc := 83) 98 g dX3_tellItem_83 rfl (fun c23 => ?_) (fun c23 => ?_)
      · replace h := h.1 c23
        refine zv_iconst (pc := 98) g dX3_tellItem_98 (v := 0) (by decide) ?_
        exact zv_zret (pc := 99) g hR (by decide) dX3_tellItem_99 ⟨_, _, rfl, rfl, h⟩
      · replace h := h.2 c23
        refine zv_aload_n (pc := 86) g dX3_tellItem_86 0 rfl rfl ?_
        refine zv_aload_n (pc := 87) g dX3_tellItem_87 1 rfl rfl ?_
        refine zv_cVi (pc := 88) g cw_X3_52 (ctX3_tellDuster h) (by decide) (by decide) zz_p0 (thW β t u) (fun T => zz_p1 T) (q := 0) rfl rfl rfl rfl rfl (Nat.le_of_ble_eq_true rfl) dX3_tellItem_88 (fun v24 S25 h => ?_)
        refine zv_if_eq (pc := 91) 98 g dX3_tellItem_91 rfl (fun c26 => ?_) (fun c26 => ?_)
        · replace h := h.1 c26
          refine zv_iconst (pc := 98) g dX3_tellItem_98 (v := 0) (by decide) ?_
          exact zv_zret (pc := 99) g hR (by decide) dX3_tellItem_99 ⟨_, _, rfl, rfl, h⟩
        · replace h := h.2 c26
          refine zv_iconst (pc := 94) g dX3_tellItem_94 (v := 1) (by decide) ?_
          refine zv_goto (pc := 95) 99 g dX3_tellItem_95 rfl ?_
          exact zv_zret (pc := 99) g hR (by decide) dX3_tellItem_99 ⟨_, _, rfl, rfl, h⟩
  · replace h := h.2 c1
    refine zv_iconst (pc := 8) g dX3_tellItem_8 (v := 0) (by decide) ?_
    exact zv_zret (pc := 9) g hR (by decide) dX3_tellItem_9 ⟨_, _, rfl, rfl, h⟩
def wX3_tellHouse_11 (post : Int32 → (TSt × HSt) → Prop) : Nat → (TSt × HSt) → (Int32) → Prop
  | 0, _, _ => False
  | f0 + 1, S, x2 => ((120 : Int32) < x2 → post ((-1) - (t_start S.1)) S) ∧ (¬ (120 : Int32) < x2 → wX3_tellItem (fun v5 S6 => (v5 = 0 → post ((-1) - (t_start S6.1)) S6) ∧ (¬ v5 = 0 → (¬ (t_token S6.1) = 0 → ((t_token S6.1) = (3 : Int32) → wX3_step (fun S10 => ∀ S11 : TSt × HSt, S11 = (S10, S6.2) → (wX3_tellHouse_11 post f0 S11 (x2 + 1))) S6.1) ∧ (¬ (t_token S6.1) = (3 : Int32) → post ((-1) - (t_start S6.1)) S6)) ∧ ((t_token S6.1) = 0 → post (x2 + 1) S6))) S)
set_option maxRecDepth 100000 in
set_option maxHeartbeats 4000000 in
theorem lX3_tellHouse_11 {β : zz_B} {Γ : zz_X} {t u : Nat → Nat} {post : Int32 → (TSt × HSt) → Prop} (g : zG β 3 Γ cX3_tellHouse RX3 9 191) (hR : zR β Γ (some .int) (fun r w => ∃ (v : Int32) (T : TSt × HSt), r = some (.int v) ∧ w = (thW β t u) T ∧ post v T)) : ∀ (f0 : Nat) (S : TSt × HSt) (x2 : Int32) , wX3_tellHouse_11 post f0 S x2 → zV β 3 Γ ((thW β t u) S) 11 [(0, .ref (t 0)), (1, .ref (u 0)), (2, .int x2)] [] := by
  intro f0
  induction f0 with
  | zero => intro S x2 h; exact h.elim
  | succ f0 ih0 =>
    intro S x2 h
    rw [wX3_tellHouse_11] at h
    refine zv_iload_n (pc := 11) g dX3_tellHouse_11 2 rfl rfl ?_
    refine zv_bipush (pc := 12) g dX3_tellHouse_12 (v := 120) (by decide) ?_
    refine zv_icmp_gt (pc := 14) 59 g dX3_tellHouse_14 rfl (fun c4 => ?_) (fun c4 => ?_)
    · replace h := h.1 c4
      refine zv_iconst (pc := 59) g dX3_tellHouse_59 (v := (-1)) (by decide) ?_
      refine zv_aload_n (pc := 60) g dX3_tellHouse_60 0 rfl rfl ?_
      refine zv_get (pc := 61) g fl_X3_25 0 rfl rfl dX3_tellHouse_61 ?_
      refine zv_isub (pc := 64) g dX3_tellHouse_64 ?_
      exact zv_iret (pc := 65) g hR dX3_tellHouse_65 ⟨_, _, rfl, rfl, h⟩
    · replace h := h.2 c4
      refine zv_aload_n (pc := 17) g dX3_tellHouse_17 0 rfl rfl ?_
      refine zv_aload_n (pc := 18) g dX3_tellHouse_18 1 rfl rfl ?_
      refine zv_cVi (pc := 19) g cw_X3_37 (ctX3_tellItem h) (by decide) (by decide) zz_p0 (thW β t u) (fun T => zz_p1 T) (q := 0) rfl rfl rfl rfl rfl (Nat.le_of_ble_eq_true rfl) dX3_tellHouse_19 (fun v5 S6 h => ?_)
      refine zv_if_eq (pc := 22) 59 g dX3_tellHouse_22 rfl (fun c7 => ?_) (fun c7 => ?_)
      · replace h := h.1 c7
        refine zv_iconst (pc := 59) g dX3_tellHouse_59 (v := (-1)) (by decide) ?_
        refine zv_aload_n (pc := 60) g dX3_tellHouse_60 0 rfl rfl ?_
        refine zv_get (pc := 61) g fl_X3_25 0 rfl rfl dX3_tellHouse_61 ?_
        refine zv_isub (pc := 64) g dX3_tellHouse_64 ?_
        exact zv_iret (pc := 65) g hR dX3_tellHouse_65 ⟨_, _, rfl, rfl, h⟩
      · replace h := h.2 c7
        refine zv_iinc (pc := 25) 1 [(2, .int (x2 + 1)), (0, .ref (t 0)), (1, .ref (u 0))] g dX3_tellHouse_25 2 rfl (by decide) (by decide) rfl ?_
        refine zv_aload_n (pc := 28) g dX3_tellHouse_28 1 rfl rfl ?_
        refine zv_get (pc := 29) g fl_X3_19 0 rfl rfl dX3_tellHouse_29 ?_
        refine zv_if_ne (pc := 32) 37 g dX3_tellHouse_32 rfl (fun c8 => ?_) (fun c8 => ?_)
        · replace h := h.1 c8
          refine zv_aload_n (pc := 37) g dX3_tellHouse_37 1 rfl rfl ?_
          refine zv_get (pc := 38) g fl_X3_19 0 rfl rfl dX3_tellHouse_38 ?_
          refine zv_iconst (pc := 41) g dX3_tellHouse_41 (v := 3) (by decide) ?_
          refine zv_icmp_eq (pc := 42) 52 g dX3_tellHouse_42 rfl (fun c9 => ?_) (fun c9 => ?_)
          · replace h := h.1 c9
            refine zv_aload_n (pc := 52) g dX3_tellHouse_52 1 rfl rfl ?_
            refine zv_cVv (pc := 53) g cw_X3_34 (ctX3_step h) (by decide) (by decide) (List.Perm.refl _) (fun T => thW β t u (T, S6.2)) (fun T => List.Perm.refl _) (q := 0) rfl rfl rfl rfl rfl (Nat.le_of_ble_eq_true rfl) dX3_tellHouse_53 (fun S10 h => ?_)
            refine zv_nmS (wf := (thW β t u)) (fun S11 eS11 => ?_)
            replace h := h S11 eS11
            refine zv_goto (pc := 56) 11 g dX3_tellHouse_56 rfl ?_
            refine zv_sub [1, 2, 0] rfl ?_
            exact ih0 _ _ h
          · replace h := h.2 c9
            refine zv_iconst (pc := 45) g dX3_tellHouse_45 (v := (-1)) (by decide) ?_
            refine zv_aload_n (pc := 46) g dX3_tellHouse_46 1 rfl rfl ?_
            refine zv_get (pc := 47) g fl_X3_25 0 rfl rfl dX3_tellHouse_47 ?_
            refine zv_isub (pc := 50) g dX3_tellHouse_50 ?_
            exact zv_iret (pc := 51) g hR dX3_tellHouse_51 ⟨_, _, rfl, rfl, h⟩
        · replace h := h.2 c8
          refine zv_iload_n (pc := 35) g dX3_tellHouse_35 0 rfl rfl ?_
          exact zv_iret (pc := 36) g hR dX3_tellHouse_36 ⟨_, _, rfl, rfl, h⟩
def wX3_tellHouse (post : Int32 → (TSt × HSt) → Prop) (S : TSt × HSt) : Prop := ∀ S1 : TSt × HSt, S1 = ((t_end_s S.1 0), S.2) → (wX3_step (fun S2 => ∀ S3 : TSt × HSt, S3 = (S2, S1.2) → (∃ f12 : Nat, wX3_tellHouse_11 post f12 S3 0)) S1.1)
set_option maxRecDepth 100000 in
set_option maxHeartbeats 4000000 in
theorem ctX3_tellHouse {β : zz_B} {t u : Nat → Nat} {post : Int32 → (TSt × HSt) → Prop} {S : TSt × HSt} (h : wX3_tellHouse post S) : zCi β yX3_tellHouse cX3_tellHouse 3 (some .int) 9 191 [.ref (t 0), .ref (u 0)] (thW β t u) S post := by
  unfold wX3_tellHouse at h
  unfold zCi
  refine zC.of (by decide) (Nat.le_of_ble_eq_true rfl) ?_
  intro Γ g hR
  show zV β 3 Γ ((thW β t u) S) 0 [(0, .ref (t 0)), (1, .ref (u 0))] []
  refine zv_aload_n (pc := 0) g dX3_tellHouse_0 0 rfl rfl ?_
  refine zv_iconst (pc := 1) g dX3_tellHouse_1 (v := 0) (by decide) ?_
  refine zv_put (pc := 2) ((thW β t u) ((t_end_s S.1 0), S.2)) g fp_X3_28 0 rfl rfl rfl (Nat.le_of_ble_eq_true rfl) rfl dX3_tellHouse_2 ?_
  refine zv_nmS (wf := (thW β t u)) (fun S1 eS1 => ?_)
  replace h := h S1 eS1
  refine zv_aload_n (pc := 5) g dX3_tellHouse_5 0 rfl rfl ?_
  refine zv_cVv (pc := 6) g cw_X3_34 (ctX3_step h) (by decide) (by decide) (List.Perm.refl _) (fun T => thW β t u (T, S1.2)) (fun T => List.Perm.refl _) (q := 0) rfl rfl rfl rfl rfl (Nat.le_of_ble_eq_true rfl) dX3_tellHouse_6 (fun S2 h => ?_)
  refine zv_nmS (wf := (thW β t u)) (fun S3 eS3 => ?_)
  replace h := h S3 eS3
  refine zv_iconst (pc := 9) g dX3_tellHouse_9 (v := 0) (by decide) ?_
  refine zv_istore_n (pc := 10) 2 [(2, .int 0), (0, .ref (t 0)), (1, .ref (u 0))] g dX3_tellHouse_10 rfl (by decide) rfl ?_
  obtain ⟨f12, h⟩ := h
  refine zv_sub [1, 2, 0] rfl ?_
  exact lX3_tellHouse_11 g hR f12 _ _ h
