def wX2_isMissing (post : Int32 → Prop) (S : SSt) : Prop := (¬ (s_bits S) = 0 → post 0) ∧ ((s_bits S) = 0 → post 1)
set_option maxRecDepth 100000 in
set_option maxHeartbeats 4000000 in
theorem ctX2_isMissing {β : zz_B} {c : Nat → Nat} {post : Int32 → Prop} {S : SSt} (h : wX2_isMissing post S) : zCp β yX2_isMissing cX2_isMissing 1 (some .boolean) 0 0 [.ref (c 0)] ((sW β c) S) post := by
  unfold wX2_isMissing at h
  unfold zCp
  refine zC.of (by decide) (Nat.le_of_ble_eq_true rfl) ?_
  intro Γ g hR
  show zV β 1 Γ ((sW β c) S) 0 [(0, .ref (c 0))] []
  refine zv_aload_n (pc := 0) g dX2_isMissing_0 0 rfl rfl ?_
  refine zv_get (pc := 1) g fl_X2_15 0 rfl rfl dX2_isMissing_1 ?_
  refine zv_if_ne (pc := 4) 11 g dX2_isMissing_4 rfl (fun c1 => ?_) (fun c1 => ?_)
  · replace h := h.1 c1
    refine zv_iconst (pc := 11) g dX2_isMissing_11 (v := 0) (by decide) ?_
    exact zv_zret (pc := 12) g hR (by decide) dX2_isMissing_12 ⟨_, rfl, rfl, h⟩
  · replace h := h.2 c1
    refine zv_iconst (pc := 7) g dX2_isMissing_7 (v := 1) (by decide) ?_
    refine zv_goto (pc := 8) 12 g dX2_isMissing_8 rfl ?_
    exact zv_zret (pc := 12) g hR (by decide) dX2_isMissing_12 ⟨_, rfl, rfl, h⟩
def wX2_begin_20 (post : Int32 → (SSt) → Prop) : Nat → (SSt) → (Int32) → Prop
  | 0, _, _ => False
  | f0 + 1, S, x3 => ((40 : Int32) ≤ x3 → post (s_size S) S) ∧ (¬ (40 : Int32) ≤ x3 → vp_in x3 40 ∧ (∀ S5 : SSt, S5 = (s_numbers_s S (vp_updL (s_numbers S) (Int32.toNatClampNeg x3) 0)) → (wX2_begin_20 post f0 S5 (x3 + 1))))
set_option maxRecDepth 100000 in
set_option maxHeartbeats 4000000 in
theorem lX2_begin_20 {β : zz_B} {Γ : zz_X} {c : Nat → Nat} {post : Int32 → (SSt) → Prop} (g : zG β 4 Γ cX2_begin RX2 0 0) (hR : zR β Γ (some .int) (fun r w => ∃ (v : Int32) (T : SSt), r = some (.int v) ∧ w = (sW β c) T ∧ post v T)) : ∀ (f0 : Nat) (S : SSt) (x3 : Int32) , wX2_begin_20 post f0 S x3 → zV β 4 Γ ((sW β c) S) 20 [(0, .ref (c 0)), (3, .int x3)] [] := by
  intro f0
  induction f0 with
  | zero => intro S x3 h; exact h.elim
  | succ f0 ih0 =>
    intro S x3 h
    rw [wX2_begin_20] at h
    refine zv_iload_n (pc := 20) g dX2_begin_20 1 rfl rfl ?_
    refine zv_bipush (pc := 21) g dX2_begin_21 (v := 40) (by decide) ?_
    refine zv_icmp_ge (pc := 23) 39 g dX2_begin_23 rfl (fun c4 => ?_) (fun c4 => ?_)
    · replace h := h.1 c4
      refine zv_aload_n (pc := 39) g dX2_begin_39 0 rfl rfl ?_
      refine zv_get (pc := 40) g fl_X2_19 0 rfl rfl dX2_begin_40 ?_
      exact zv_iret (pc := 43) g hR dX2_begin_43 ⟨_, _, rfl, rfl, h⟩
    · replace h := h.2 c4
      refine zv_aload_n (pc := 26) g dX2_begin_26 0 rfl rfl ?_
      refine zv_get (pc := 27) g fl_X2_9 0 rfl rfl dX2_begin_27 ?_
      refine zv_iload_n (pc := 30) g dX2_begin_30 1 rfl rfl ?_
      refine zv_lconst (pc := 31) g dX2_begin_31 (v := 0) (by decide) ?_
      obtain ⟨hi, h⟩ := h
      refine zv_lals (pc := 32) ((sW β c) (s_numbers_s S (vp_updL (s_numbers S) (Int32.toNatClampNeg x3) 0))) g 1 rfl hi rfl dX2_begin_32 ?_
      refine zv_nmS (wf := (sW β c)) (fun S5 eS5 => ?_)
      replace h := h S5 eS5
      refine zv_iinc (pc := 33) 1 [(3, .int (x3 + 1)), (0, .ref (c 0))] g dX2_begin_33 1 rfl (by decide) (by decide) rfl ?_
      refine zv_goto (pc := 36) 20 g dX2_begin_36 rfl ?_
      refine zv_sub [1, 0] rfl ?_
      exact ih0 _ _ h
def wX2_begin (post : Int32 → (SSt) → Prop) (S : SSt) (x1 : Int32) (x2 : Int32) : Prop := ∀ S1 : SSt, S1 = (s_bits_s S x1) → ((¬ x1 = 0 → ∀ S3 : SSt, S3 = (s_size_s S1 x2) → (∃ f6 : Nat, wX2_begin_20 post f6 S3 0)) ∧ (x1 = 0 → ∀ S7 : SSt, S7 = (s_size_s S1 0) → (∃ f8 : Nat, wX2_begin_20 post f8 S7 0)))
set_option maxRecDepth 100000 in
set_option maxHeartbeats 4000000 in
theorem ctX2_begin {β : zz_B} {c : Nat → Nat} {post : Int32 → (SSt) → Prop} {S : SSt} {x1 : Int32} {x2 : Int32} (h : wX2_begin post S x1 x2) : zCi β yX2_begin cX2_begin 4 (some .int) 0 0 [.ref (c 0), .int x1, .int x2] (sW β c) S post := by
  unfold wX2_begin at h
  unfold zCi
  refine zC.of (by decide) (Nat.le_of_ble_eq_true rfl) ?_
  intro Γ g hR
  show zV β 4 Γ ((sW β c) S) 0 [(0, .ref (c 0)), (1, .int x1), (2, .int x2)] []
  refine zv_aload_n (pc := 0) g dX2_begin_0 0 rfl rfl ?_
  refine zv_iload_n (pc := 1) g dX2_begin_1 1 rfl rfl ?_
  refine zv_put (pc := 2) ((sW β c) (s_bits_s S x1)) g fp_X2_15 0 rfl rfl rfl (Nat.le_of_ble_eq_true rfl) rfl dX2_begin_2 ?_
  refine zv_nmS (wf := (sW β c)) (fun S1 eS1 => ?_)
  replace h := h S1 eS1
  refine zv_aload_n (pc := 5) g dX2_begin_5 0 rfl rfl ?_
  refine zv_iload_n (pc := 6) g dX2_begin_6 1 rfl rfl ?_
  refine zv_if_ne (pc := 7) 14 g dX2_begin_7 rfl (fun c2 => ?_) (fun c2 => ?_)
  · replace h := h.1 c2
    refine zv_iload_n (pc := 14) g dX2_begin_14 2 rfl rfl ?_
    refine zv_put (pc := 15) ((sW β c) (s_size_s S1 x2)) g fp_X2_19 0 rfl rfl rfl (Nat.le_of_ble_eq_true rfl) rfl dX2_begin_15 ?_
    refine zv_nmS (wf := (sW β c)) (fun S3 eS3 => ?_)
    replace h := h S3 eS3
    refine zv_iconst (pc := 18) g dX2_begin_18 (v := 0) (by decide) ?_
    refine zv_istore_n (pc := 19) 3 [(3, .int 0), (0, .ref (c 0)), (1, .int x1), (2, .int x2)] g dX2_begin_19 rfl (by decide) rfl ?_
    obtain ⟨f6, h⟩ := h
    refine zv_sub [1, 0] rfl ?_
    exact lX2_begin_20 g hR f6 _ _ h
  · replace h := h.2 c2
    refine zv_iconst (pc := 10) g dX2_begin_10 (v := 0) (by decide) ?_
    refine zv_goto (pc := 11) 15 g dX2_begin_11 rfl ?_
    refine zv_put (pc := 15) ((sW β c) (s_size_s S1 0)) g fp_X2_19 0 rfl rfl rfl (Nat.le_of_ble_eq_true rfl) rfl dX2_begin_15 ?_
    refine zv_nmS (wf := (sW β c)) (fun S7 eS7 => ?_)
    replace h := h S7 eS7
    refine zv_iconst (pc := 18) g dX2_begin_18 (v := 0) (by decide) ?_
    refine zv_istore_n (pc := 19) 3 [(3, .int 0), (0, .ref (c 0)), (1, .int x1), (2, .int x2)] g dX2_begin_19 rfl (by decide) rfl ?_
    obtain ⟨f8, h⟩ := h
    refine zv_sub [1, 0] rfl ?_
    exact lX2_begin_20 g hR f8 _ _ h
def wX2_put (post : (SSt) → Prop) (S : SSt) (x1 : Int32) (x2 : Int64) : Prop := (¬ (s_bits S) = (8 : Int32) → (¬ (s_bits S) = (16 : Int32) → vp_in x1 40 ∧ (∀ S3 : SSt, S3 = (s_numbers_s S (vp_updL (s_numbers S) (Int32.toNatClampNeg x1) x2)) → (post S3))) ∧ ((s_bits S) = (16 : Int32) → vp_in x1 40 ∧ (∀ S4 : SSt, S4 = (s_numbers_s S (vp_updL (s_numbers S) (Int32.toNatClampNeg x1) (Int32.toInt64 ((Int32.toInt16 (Int64.toInt32 x2)).toInt32)))) → (post S4)))) ∧ ((s_bits S) = (8 : Int32) → vp_in x1 40 ∧ (∀ S5 : SSt, S5 = (s_numbers_s S (vp_updL (s_numbers S) (Int32.toNatClampNeg x1) (Int32.toInt64 ((Int32.toInt8 (Int64.toInt32 x2)).toInt32)))) → (post S5)))
set_option maxRecDepth 100000 in
set_option maxHeartbeats 4000000 in
theorem ctX2_put {β : zz_B} {c : Nat → Nat} {post : (SSt) → Prop} {S : SSt} {x1 : Int32} {x2 : Int64} (h : wX2_put post S x1 x2) : zCv β yX2_put cX2_put 4 none 0 0 [.ref (c 0), .int x1, .long x2] (sW β c) S post := by
  unfold wX2_put at h
  unfold zCv
  refine zC.of (by decide) (Nat.le_of_ble_eq_true rfl) ?_
  intro Γ g hR
  show zV β 4 Γ ((sW β c) S) 0 [(0, .ref (c 0)), (1, .int x1), (2, .long x2)] []
  refine zv_aload_n (pc := 0) g dX2_put_0 0 rfl rfl ?_
  refine zv_get (pc := 1) g fl_X2_9 0 rfl rfl dX2_put_1 ?_
  refine zv_iload_n (pc := 4) g dX2_put_4 1 rfl rfl ?_
  refine zv_aload_n (pc := 5) g dX2_put_5 0 rfl rfl ?_
  refine zv_get (pc := 6) g fl_X2_15 0 rfl rfl dX2_put_6 ?_
  refine zv_bipush (pc := 9) g dX2_put_9 (v := 8) (by decide) ?_
  refine zv_icmp_ne (pc := 11) 21 g dX2_put_11 rfl (fun c1 => ?_) (fun c1 => ?_)
  · replace h := h.1 c1
    refine zv_aload_n (pc := 21) g dX2_put_21 0 rfl rfl ?_
    refine zv_get (pc := 22) g fl_X2_15 0 rfl rfl dX2_put_22 ?_
    refine zv_bipush (pc := 25) g dX2_put_25 (v := 16) (by decide) ?_
    refine zv_icmp_ne (pc := 27) 37 g dX2_put_27 rfl (fun c2 => ?_) (fun c2 => ?_)
    · replace h := h.1 c2
      refine zv_lload_n (pc := 37) g dX2_put_37 2 rfl rfl ?_
      obtain ⟨hi, h⟩ := h
      refine zv_lals (pc := 38) ((sW β c) (s_numbers_s S (vp_updL (s_numbers S) (Int32.toNatClampNeg x1) x2))) g 1 rfl hi rfl dX2_put_38 ?_
      refine zv_nmS (wf := (sW β c)) (fun S3 eS3 => ?_)
      replace h := h S3 eS3
      exact zv_vret (pc := 39) g hR dX2_put_39 ⟨_, rfl, rfl, h⟩
    · replace h := h.2 c2
      refine zv_lload_n (pc := 30) g dX2_put_30 2 rfl rfl ?_
      refine zv_l2i (pc := 31) g dX2_put_31 ?_
      refine zv_i2s (pc := 32) g dX2_put_32 ?_
      refine zv_i2l (pc := 33) g dX2_put_33 ?_
      refine zv_goto (pc := 34) 38 g dX2_put_34 rfl ?_
      obtain ⟨hi, h⟩ := h
      refine zv_lals (pc := 38) ((sW β c) (s_numbers_s S (vp_updL (s_numbers S) (Int32.toNatClampNeg x1) (Int32.toInt64 ((Int32.toInt16 (Int64.toInt32 x2)).toInt32))))) g 1 rfl hi rfl dX2_put_38 ?_
      refine zv_nmS (wf := (sW β c)) (fun S4 eS4 => ?_)
      replace h := h S4 eS4
      exact zv_vret (pc := 39) g hR dX2_put_39 ⟨_, rfl, rfl, h⟩
  · replace h := h.2 c1
    refine zv_lload_n (pc := 14) g dX2_put_14 2 rfl rfl ?_
    refine zv_l2i (pc := 15) g dX2_put_15 ?_
    refine zv_i2b (pc := 16) g dX2_put_16 ?_
    refine zv_i2l (pc := 17) g dX2_put_17 ?_
    refine zv_goto (pc := 18) 38 g dX2_put_18 rfl ?_
    obtain ⟨hi, h⟩ := h
    refine zv_lals (pc := 38) ((sW β c) (s_numbers_s S (vp_updL (s_numbers S) (Int32.toNatClampNeg x1) (Int32.toInt64 ((Int32.toInt8 (Int64.toInt32 x2)).toInt32))))) g 1 rfl hi rfl dX2_put_38 ?_
    refine zv_nmS (wf := (sW β c)) (fun S5 eS5 => ?_)
    replace h := h S5 eS5
    exact zv_vret (pc := 39) g hR dX2_put_39 ⟨_, rfl, rfl, h⟩
def wX2_hasRun (post : Int32 → Prop) (S : SSt) (x1 : Int32) (x2 : Int32) : Prop := (x1 < 0 → post 0) ∧ (¬ x1 < 0 → (x2 < 0 → post 0) ∧ (¬ x2 < 0 → ((s_size S) < x2 → post 0) ∧ (¬ (s_size S) < x2 → (((s_size S) - x2) < x1 → post 0) ∧ (¬ ((s_size S) - x2) < x1 → post 1))))
set_option maxRecDepth 100000 in
set_option maxHeartbeats 4000000 in
theorem ctX2_hasRun {β : zz_B} {c : Nat → Nat} {post : Int32 → Prop} {S : SSt} {x1 : Int32} {x2 : Int32} (h : wX2_hasRun post S x1 x2) : zCp β yX2_hasRun cX2_hasRun 3 (some .boolean) 0 0 [.ref (c 0), .int x1, .int x2] ((sW β c) S) post := by
  unfold wX2_hasRun at h
  unfold zCp
  refine zC.of (by decide) (Nat.le_of_ble_eq_true rfl) ?_
  intro Γ g hR
  show zV β 3 Γ ((sW β c) S) 0 [(0, .ref (c 0)), (1, .int x1), (2, .int x2)] []
  refine zv_iload_n (pc := 0) g dX2_hasRun_0 1 rfl rfl ?_
  refine zv_if_lt (pc := 1) 30 g dX2_hasRun_1 rfl (fun c1 => ?_) (fun c1 => ?_)
  · replace h := h.1 c1
    refine zv_iconst (pc := 30) g dX2_hasRun_30 (v := 0) (by decide) ?_
    exact zv_zret (pc := 31) g hR (by decide) dX2_hasRun_31 ⟨_, rfl, rfl, h⟩
  · replace h := h.2 c1
    refine zv_iload_n (pc := 4) g dX2_hasRun_4 2 rfl rfl ?_
    refine zv_if_lt (pc := 5) 30 g dX2_hasRun_5 rfl (fun c2 => ?_) (fun c2 => ?_)
    · replace h := h.1 c2
      refine zv_iconst (pc := 30) g dX2_hasRun_30 (v := 0) (by decide) ?_
      exact zv_zret (pc := 31) g hR (by decide) dX2_hasRun_31 ⟨_, rfl, rfl, h⟩
    · replace h := h.2 c2
      refine zv_iload_n (pc := 8) g dX2_hasRun_8 2 rfl rfl ?_
      refine zv_aload_n (pc := 9) g dX2_hasRun_9 0 rfl rfl ?_
      refine zv_get (pc := 10) g fl_X2_19 0 rfl rfl dX2_hasRun_10 ?_
      refine zv_icmp_gt (pc := 13) 30 g dX2_hasRun_13 rfl (fun c3 => ?_) (fun c3 => ?_)
      · replace h := h.1 c3
        refine zv_iconst (pc := 30) g dX2_hasRun_30 (v := 0) (by decide) ?_
        exact zv_zret (pc := 31) g hR (by decide) dX2_hasRun_31 ⟨_, rfl, rfl, h⟩
      · replace h := h.2 c3
        refine zv_iload_n (pc := 16) g dX2_hasRun_16 1 rfl rfl ?_
        refine zv_aload_n (pc := 17) g dX2_hasRun_17 0 rfl rfl ?_
        refine zv_get (pc := 18) g fl_X2_19 0 rfl rfl dX2_hasRun_18 ?_
        refine zv_iload_n (pc := 21) g dX2_hasRun_21 2 rfl rfl ?_
        refine zv_isub (pc := 22) g dX2_hasRun_22 ?_
        refine zv_icmp_gt (pc := 23) 30 g dX2_hasRun_23 rfl (fun c4 => ?_) (fun c4 => ?_)
        · replace h := h.1 c4
          refine zv_iconst (pc := 30) g dX2_hasRun_30 (v := 0) (by decide) ?_
          exact zv_zret (pc := 31) g hR (by decide) dX2_hasRun_31 ⟨_, rfl, rfl, h⟩
        · replace h := h.2 c4
          refine zv_iconst (pc := 26) g dX2_hasRun_26 (v := 1) (by decide) ?_
          refine zv_goto (pc := 27) 31 g dX2_hasRun_27 rfl ?_
          exact zv_zret (pc := 31) g hR (by decide) dX2_hasRun_31 ⟨_, rfl, rfl, h⟩
