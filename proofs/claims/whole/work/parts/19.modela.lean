def wX5_in (post : Int32 → Prop) (x0 : Int32) (x1 : Int32) (x2 : Int32) : Prop := (x0 < x1 → post 0) ∧ (¬ x0 < x1 → (x2 < x0 → post 0) ∧ (¬ x2 < x0 → post 1))
set_option maxRecDepth 100000 in
set_option maxHeartbeats 4000000 in
theorem ctX5_in {β : zz_B} {post : Int32 → Prop} {x0 : Int32} {x1 : Int32} {x2 : Int32} (h : wX5_in post x0 x1 x2) : zCp β yX5_in cX5_in 3 (some .boolean) 0 0 [.int x0, .int x1, .int x2] [] post := by
  unfold wX5_in at h
  unfold zCp
  refine zC.of (by decide) (Nat.le_of_ble_eq_true rfl) ?_
  intro Γ g hR
  show zV β 3 Γ [] 0 [(0, .int x0), (1, .int x1), (2, .int x2)] []
  refine zv_iload_n (pc := 0) g dX5_in_0 0 rfl rfl ?_
  refine zv_iload_n (pc := 1) g dX5_in_1 1 rfl rfl ?_
  refine zv_icmp_lt (pc := 2) 14 g dX5_in_2 rfl (fun c1 => ?_) (fun c1 => ?_)
  · replace h := h.1 c1
    refine zv_iconst (pc := 14) g dX5_in_14 (v := 0) (by decide) ?_
    exact zv_zret (pc := 15) g hR (by decide) dX5_in_15 ⟨_, rfl, rfl, h⟩
  · replace h := h.2 c1
    refine zv_iload_n (pc := 5) g dX5_in_5 0 rfl rfl ?_
    refine zv_iload_n (pc := 6) g dX5_in_6 2 rfl rfl ?_
    refine zv_icmp_gt (pc := 7) 14 g dX5_in_7 rfl (fun c2 => ?_) (fun c2 => ?_)
    · replace h := h.1 c2
      refine zv_iconst (pc := 14) g dX5_in_14 (v := 0) (by decide) ?_
      exact zv_zret (pc := 15) g hR (by decide) dX5_in_15 ⟨_, rfl, rfl, h⟩
    · replace h := h.2 c2
      refine zv_iconst (pc := 10) g dX5_in_10 (v := 1) (by decide) ?_
      refine zv_goto (pc := 11) 15 g dX5_in_11 rfl ?_
      exact zv_zret (pc := 15) g hR (by decide) dX5_in_15 ⟨_, rfl, rfl, h⟩
def wX5_finds (post : Int32 → (MSt) → Prop) (S : MSt) (x1 : Int32) : Prop := vp_in ((-1000000001) - x1) 7 ∧ (vp_in ((-1000000001) - x1) 7 ∧ (∀ S1 : MSt, S1 = (m_found_s S (upd (m_found S) (Int32.toNatClampNeg ((-1000000001) - x1)) ((m_found S (Int32.toNatClampNeg ((-1000000001) - x1))) + 1))) → (post x1 S1)))
set_option maxRecDepth 100000 in
set_option maxHeartbeats 4000000 in
theorem ctX5_finds {β : zz_B} {a : Nat → Nat} {post : Int32 → (MSt) → Prop} {S : MSt} {x1 : Int32} (h : wX5_finds post S x1) : zCi β yX5_finds cX5_finds 2 (some .int) 0 0 [.ref (a 0), .int x1] (mW β a) S post := by
  unfold wX5_finds at h
  unfold zCi
  refine zC.of (by decide) (Nat.le_of_ble_eq_true rfl) ?_
  intro Γ g hR
  show zV β 2 Γ ((mW β a) S) 0 [(0, .ref (a 0)), (1, .int x1)] []
  refine zv_aload_n (pc := 0) g dX5_finds_0 0 rfl rfl ?_
  refine zv_get (pc := 1) g fl_X5_13 0 rfl rfl dX5_finds_1 ?_
  refine zv_ldc (pc := 4) g wd_744 dX5_finds_4 ?_
  refine zv_iload_n (pc := 6) g dX5_finds_6 1 rfl rfl ?_
  refine zv_isub (pc := 7) g dX5_finds_7 ?_
  refine zv_dup2 (pc := 8) g dX5_finds_8 rfl rfl ?_
  obtain ⟨hi, h⟩ := h
  refine zv_iald (pc := 9) g 2 rfl hi dX5_finds_9 ?_
  refine zv_iconst (pc := 10) g dX5_finds_10 (v := 1) (by decide) ?_
  refine zv_iadd (pc := 11) g dX5_finds_11 ?_
  obtain ⟨hi, h⟩ := h
  refine zv_ials (pc := 12) ((mW β a) (m_found_s S (upd (m_found S) (Int32.toNatClampNeg ((-1000000001) - x1)) ((m_found S (Int32.toNatClampNeg ((-1000000001) - x1))) + 1)))) g 2 rfl hi rfl dX5_finds_12 ?_
  refine zv_nmS (wf := (mW β a)) (fun S1 eS1 => ?_)
  replace h := h S1 eS1
  refine zv_iload_n (pc := 13) g dX5_finds_13 1 rfl rfl ?_
  exact zv_iret (pc := 14) g hR dX5_finds_14 ⟨_, _, rfl, rfl, h⟩
def wX5_held (post : Int32 → Prop) (x0 : Int32) (x1 : Int32) (x2 : Int32) : Prop := (x1 ≤ x0 → (x0 ≤ x2 → post x0) ∧ (¬ x0 ≤ x2 → post x2)) ∧ (¬ x1 ≤ x0 → post x1)
set_option maxRecDepth 100000 in
set_option maxHeartbeats 4000000 in
theorem ctX5_held {β : zz_B} {post : Int32 → Prop} {x0 : Int32} {x1 : Int32} {x2 : Int32} (h : wX5_held post x0 x1 x2) : zCp β yX5_held cX5_held 3 (some .int) 0 0 [.int x0, .int x1, .int x2] [] post := by
  unfold wX5_held at h
  unfold zCp
  refine zC.of (by decide) (Nat.le_of_ble_eq_true rfl) ?_
  intro Γ g hR
  show zV β 3 Γ [] 0 [(0, .int x0), (1, .int x1), (2, .int x2)] []
  refine zv_iload_n (pc := 0) g dX5_held_0 0 rfl rfl ?_
  refine zv_iload_n (pc := 1) g dX5_held_1 1 rfl rfl ?_
  refine zv_icmp_ge (pc := 2) 9 g dX5_held_2 rfl (fun c1 => ?_) (fun c1 => ?_)
  · replace h := h.1 c1
    refine zv_iload_n (pc := 9) g dX5_held_9 0 rfl rfl ?_
    refine zv_iload_n (pc := 10) g dX5_held_10 2 rfl rfl ?_
    refine zv_icmp_le (pc := 11) 18 g dX5_held_11 rfl (fun c2 => ?_) (fun c2 => ?_)
    · replace h := h.1 c2
      refine zv_iload_n (pc := 18) g dX5_held_18 0 rfl rfl ?_
      exact zv_iret (pc := 19) g hR dX5_held_19 ⟨_, rfl, rfl, h⟩
    · replace h := h.2 c2
      refine zv_iload_n (pc := 14) g dX5_held_14 2 rfl rfl ?_
      refine zv_goto (pc := 15) 19 g dX5_held_15 rfl ?_
      exact zv_iret (pc := 19) g hR dX5_held_19 ⟨_, rfl, rfl, h⟩
  · replace h := h.2 c1
    refine zv_iload_n (pc := 5) g dX5_held_5 1 rfl rfl ?_
    refine zv_goto (pc := 6) 19 g dX5_held_6 rfl ?_
    exact zv_iret (pc := 19) g hR dX5_held_19 ⟨_, rfl, rfl, h⟩
def wX5_its (post : Int32 → Prop) (S : MSt) (x1 : Int32) (x2 : Int32) : Prop := vp_in ((19 + (4 * x1)) + x2) 51 ∧ (post (m_row S (Int32.toNatClampNeg ((19 + (4 * x1)) + x2))))
set_option maxRecDepth 100000 in
set_option maxHeartbeats 4000000 in
theorem ctX5_its {β : zz_B} {a : Nat → Nat} {post : Int32 → Prop} {S : MSt} {x1 : Int32} {x2 : Int32} (h : wX5_its post S x1 x2) : zCp β yX5_its cX5_its 3 (some .int) 0 0 [.ref (a 0), .int x1, .int x2] ((mW β a) S) post := by
  unfold wX5_its at h
  unfold zCp
  refine zC.of (by decide) (Nat.le_of_ble_eq_true rfl) ?_
  intro Γ g hR
  show zV β 3 Γ ((mW β a) S) 0 [(0, .ref (a 0)), (1, .int x1), (2, .int x2)] []
  refine zv_aload_n (pc := 0) g dX5_its_0 0 rfl rfl ?_
  refine zv_get (pc := 1) g fl_X5_7 0 rfl rfl dX5_its_1 ?_
  refine zv_bipush (pc := 4) g dX5_its_4 (v := 19) (by decide) ?_
  refine zv_iconst (pc := 6) g dX5_its_6 (v := 4) (by decide) ?_
  refine zv_iload_n (pc := 7) g dX5_its_7 1 rfl rfl ?_
  refine zv_imul (pc := 8) g dX5_its_8 ?_
  refine zv_iadd (pc := 9) g dX5_its_9 ?_
  refine zv_iload_n (pc := 10) g dX5_its_10 2 rfl rfl ?_
  refine zv_iadd (pc := 11) g dX5_its_11 ?_
  obtain ⟨hi, h⟩ := h
  refine zv_iald (pc := 12) g 1 rfl hi dX5_its_12 ?_
  exact zv_iret (pc := 13) g hR dX5_its_13 ⟨_, rfl, rfl, h⟩
def wX5_puts (post : (MSt) → Prop) (S : MSt) (x1 : Int32) (x2 : Int32) (x3 : Int32) : Prop := vp_in ((19 + (4 * x1)) + x2) 51 ∧ (∀ S1 : MSt, S1 = (m_row_s S (upd (m_row S) (Int32.toNatClampNeg ((19 + (4 * x1)) + x2)) x3)) → (post S1))
set_option maxRecDepth 100000 in
set_option maxHeartbeats 4000000 in
theorem ctX5_puts {β : zz_B} {a : Nat → Nat} {post : (MSt) → Prop} {S : MSt} {x1 : Int32} {x2 : Int32} {x3 : Int32} (h : wX5_puts post S x1 x2 x3) : zCv β yX5_puts cX5_puts 4 none 0 0 [.ref (a 0), .int x1, .int x2, .int x3] (mW β a) S post := by
  unfold wX5_puts at h
  unfold zCv
  refine zC.of (by decide) (Nat.le_of_ble_eq_true rfl) ?_
  intro Γ g hR
  show zV β 4 Γ ((mW β a) S) 0 [(0, .ref (a 0)), (1, .int x1), (2, .int x2), (3, .int x3)] []
  refine zv_aload_n (pc := 0) g dX5_puts_0 0 rfl rfl ?_
  refine zv_get (pc := 1) g fl_X5_7 0 rfl rfl dX5_puts_1 ?_
  refine zv_bipush (pc := 4) g dX5_puts_4 (v := 19) (by decide) ?_
  refine zv_iconst (pc := 6) g dX5_puts_6 (v := 4) (by decide) ?_
  refine zv_iload_n (pc := 7) g dX5_puts_7 1 rfl rfl ?_
  refine zv_imul (pc := 8) g dX5_puts_8 ?_
  refine zv_iadd (pc := 9) g dX5_puts_9 ?_
  refine zv_iload_n (pc := 10) g dX5_puts_10 2 rfl rfl ?_
  refine zv_iadd (pc := 11) g dX5_puts_11 ?_
  refine zv_iload_n (pc := 12) g dX5_puts_12 3 rfl rfl ?_
  obtain ⟨hi, h⟩ := h
  refine zv_ials (pc := 13) ((mW β a) (m_row_s S (upd (m_row S) (Int32.toNatClampNeg ((19 + (4 * x1)) + x2)) x3))) g 1 rfl hi rfl dX5_puts_13 ?_
  refine zv_nmS (wf := (mW β a)) (fun S1 eS1 => ?_)
  replace h := h S1 eS1
  exact zv_vret (pc := 14) g hR dX5_puts_14 ⟨_, rfl, rfl, h⟩
def wX5_there (post : Int32 → Prop) (S : MSt) (x1 : Int32) (x2 : Int32) : Prop := vp_in ((3 + (2 * x1)) + x2) 51 ∧ (post (m_row S (Int32.toNatClampNeg ((3 + (2 * x1)) + x2))))
set_option maxRecDepth 100000 in
set_option maxHeartbeats 4000000 in
theorem ctX5_there {β : zz_B} {a : Nat → Nat} {post : Int32 → Prop} {S : MSt} {x1 : Int32} {x2 : Int32} (h : wX5_there post S x1 x2) : zCp β yX5_there cX5_there 3 (some .int) 0 0 [.ref (a 0), .int x1, .int x2] ((mW β a) S) post := by
  unfold wX5_there at h
  unfold zCp
  refine zC.of (by decide) (Nat.le_of_ble_eq_true rfl) ?_
  intro Γ g hR
  show zV β 3 Γ ((mW β a) S) 0 [(0, .ref (a 0)), (1, .int x1), (2, .int x2)] []
  refine zv_aload_n (pc := 0) g dX5_there_0 0 rfl rfl ?_
  refine zv_get (pc := 1) g fl_X5_7 0 rfl rfl dX5_there_1 ?_
  refine zv_iconst (pc := 4) g dX5_there_4 (v := 3) (by decide) ?_
  refine zv_iconst (pc := 5) g dX5_there_5 (v := 2) (by decide) ?_
  refine zv_iload_n (pc := 6) g dX5_there_6 1 rfl rfl ?_
  refine zv_imul (pc := 7) g dX5_there_7 ?_
  refine zv_iadd (pc := 8) g dX5_there_8 ?_
  refine zv_iload_n (pc := 9) g dX5_there_9 2 rfl rfl ?_
  refine zv_iadd (pc := 10) g dX5_there_10 ?_
  obtain ⟨hi, h⟩ := h
  refine zv_iald (pc := 11) g 1 rfl hi dX5_there_11 ?_
  exact zv_iret (pc := 12) g hR dX5_there_12 ⟨_, rfl, rfl, h⟩
def wX5_places (post : (MSt) → Prop) (S : MSt) (x1 : Int32) (x2 : Int32) (x3 : Int32) : Prop := vp_in ((3 + (2 * x1)) + x2) 51 ∧ (∀ S1 : MSt, S1 = (m_row_s S (upd (m_row S) (Int32.toNatClampNeg ((3 + (2 * x1)) + x2)) x3)) → (post S1))
set_option maxRecDepth 100000 in
set_option maxHeartbeats 4000000 in
theorem ctX5_places {β : zz_B} {a : Nat → Nat} {post : (MSt) → Prop} {S : MSt} {x1 : Int32} {x2 : Int32} {x3 : Int32} (h : wX5_places post S x1 x2 x3) : zCv β yX5_places cX5_places 4 none 0 0 [.ref (a 0), .int x1, .int x2, .int x3] (mW β a) S post := by
  unfold wX5_places at h
  unfold zCv
  refine zC.of (by decide) (Nat.le_of_ble_eq_true rfl) ?_
  intro Γ g hR
  show zV β 4 Γ ((mW β a) S) 0 [(0, .ref (a 0)), (1, .int x1), (2, .int x2), (3, .int x3)] []
  refine zv_aload_n (pc := 0) g dX5_places_0 0 rfl rfl ?_
  refine zv_get (pc := 1) g fl_X5_7 0 rfl rfl dX5_places_1 ?_
  refine zv_iconst (pc := 4) g dX5_places_4 (v := 3) (by decide) ?_
  refine zv_iconst (pc := 5) g dX5_places_5 (v := 2) (by decide) ?_
  refine zv_iload_n (pc := 6) g dX5_places_6 1 rfl rfl ?_
  refine zv_imul (pc := 7) g dX5_places_7 ?_
  refine zv_iadd (pc := 8) g dX5_places_8 ?_
  refine zv_iload_n (pc := 9) g dX5_places_9 2 rfl rfl ?_
  refine zv_iadd (pc := 10) g dX5_places_10 ?_
  refine zv_iload_n (pc := 11) g dX5_places_11 3 rfl rfl ?_
  obtain ⟨hi, h⟩ := h
  refine zv_ials (pc := 12) ((mW β a) (m_row_s S (upd (m_row S) (Int32.toNatClampNeg ((3 + (2 * x1)) + x2)) x3))) g 1 rfl hi rfl dX5_places_12 ?_
  refine zv_nmS (wf := (mW β a)) (fun S1 eS1 => ?_)
  replace h := h S1 eS1
  exact zv_vret (pc := 13) g hR dX5_places_13 ⟨_, rfl, rfl, h⟩
def wX5_becomes (post : Int32 → (MSt) → Prop) (S : MSt) (x1 : Int32) (x2 : Int32) : Prop := vp_in x1 51 ∧ (∀ y1 : Int32, y1 = (m_row S (Int32.toNatClampNeg x1)) → (vp_in x1 51 ∧ (∀ S2 : MSt, S2 = (m_row_s S (upd (m_row S) (Int32.toNatClampNeg x1) x2)) → (post y1 S2))))
set_option maxRecDepth 100000 in
set_option maxHeartbeats 4000000 in
theorem ctX5_becomes {β : zz_B} {a : Nat → Nat} {post : Int32 → (MSt) → Prop} {S : MSt} {x1 : Int32} {x2 : Int32} (h : wX5_becomes post S x1 x2) : zCi β yX5_becomes cX5_becomes 4 (some .int) 0 0 [.ref (a 0), .int x1, .int x2] (mW β a) S post := by
  unfold wX5_becomes at h
  unfold zCi
  refine zC.of (by decide) (Nat.le_of_ble_eq_true rfl) ?_
  intro Γ g hR
  show zV β 4 Γ ((mW β a) S) 0 [(0, .ref (a 0)), (1, .int x1), (2, .int x2)] []
  refine zv_aload_n (pc := 0) g dX5_becomes_0 0 rfl rfl ?_
  refine zv_get (pc := 1) g fl_X5_7 0 rfl rfl dX5_becomes_1 ?_
  refine zv_iload_n (pc := 4) g dX5_becomes_4 1 rfl rfl ?_
  obtain ⟨hi, h⟩ := h
  refine zv_iald (pc := 5) g 1 rfl hi dX5_becomes_5 ?_
  refine zv_topi (fun y1 ey1 => ?_)
  replace h := h y1 ey1
  refine zv_istore_n (pc := 6) 3 [(3, .int y1), (0, .ref (a 0)), (1, .int x1), (2, .int x2)] g dX5_becomes_6 rfl (by decide) rfl ?_
  refine zv_aload_n (pc := 7) g dX5_becomes_7 1 rfl rfl ?_
  refine zv_get (pc := 8) g fl_X5_7 0 rfl rfl dX5_becomes_8 ?_
  refine zv_iload_n (pc := 11) g dX5_becomes_11 2 rfl rfl ?_
  refine zv_iload_n (pc := 12) g dX5_becomes_12 3 rfl rfl ?_
  obtain ⟨hi, h⟩ := h
  refine zv_ials (pc := 13) ((mW β a) (m_row_s S (upd (m_row S) (Int32.toNatClampNeg x1) x2))) g 1 rfl hi rfl dX5_becomes_13 ?_
  refine zv_nmS (wf := (mW β a)) (fun S2 eS2 => ?_)
  replace h := h S2 eS2
  refine zv_iload_n (pc := 14) g dX5_becomes_14 0 rfl rfl ?_
  exact zv_iret (pc := 15) g hR dX5_becomes_15 ⟨_, _, rfl, rfl, h⟩
def wX5_isOne (post : Int32 → Prop) (S : MSt) (x1 : Int32) : Prop := vp_in 2 51 ∧ (wX5_in (fun v1 => (v1 = 0 ∨ v1 = 1) ∧ post v1) x1 0 ((m_row S (Int32.toNatClampNeg 2)) - 1))
set_option maxRecDepth 100000 in
set_option maxHeartbeats 4000000 in
theorem ctX5_isOne {β : zz_B} {a : Nat → Nat} {post : Int32 → Prop} {S : MSt} {x1 : Int32} (h : wX5_isOne post S x1) : zCp β yX5_isOne cX5_isOne 2 (some .boolean) 1 22 [.ref (a 0), .int x1] ((mW β a) S) post := by
  unfold wX5_isOne at h
  unfold zCp
  refine zC.of (by decide) (Nat.le_of_ble_eq_true rfl) ?_
  intro Γ g hR
  show zV β 2 Γ ((mW β a) S) 0 [(0, .ref (a 0)), (1, .int x1)] []
  refine zv_iload_n (pc := 0) g dX5_isOne_0 1 rfl rfl ?_
  refine zv_iconst (pc := 1) g dX5_isOne_1 (v := 0) (by decide) ?_
  refine zv_aload_n (pc := 2) g dX5_isOne_2 0 rfl rfl ?_
  refine zv_get (pc := 3) g fl_X5_7 0 rfl rfl dX5_isOne_3 ?_
  refine zv_iconst (pc := 6) g dX5_isOne_6 (v := 2) (by decide) ?_
  obtain ⟨hi, h⟩ := h
  refine zv_iald (pc := 7) g 1 rfl hi dX5_isOne_7 ?_
  refine zv_iconst (pc := 8) g dX5_isOne_8 (v := 1) (by decide) ?_
  refine zv_isub (pc := 9) g dX5_isOne_9 ?_
  refine zv_cSp (pc := 10) g cw_X5_49 (ctX5_in h) (by decide) (by decide) zz_pN rfl rfl (Nat.le_of_ble_eq_true rfl) dX5_isOne_10 (fun v1 h => ?_)
  exact zv_zret (pc := 13) g hR (zz_nb h.1).1 dX5_isOne_13 ⟨_, rfl, rfl, h.2⟩
def wX5_isKind (post : Int32 → Prop) (x0 : Int32) : Prop := wX5_in (fun v1 => (v1 = 0 ∨ v1 = 1) ∧ post v1) x0 0 5
set_option maxRecDepth 100000 in
set_option maxHeartbeats 4000000 in
theorem ctX5_isKind {β : zz_B} {post : Int32 → Prop} {x0 : Int32} (h : wX5_isKind post x0) : zCp β yX5_isKind cX5_isKind 1 (some .boolean) 1 22 [.int x0] [] post := by
  unfold wX5_isKind at h
  unfold zCp
  refine zC.of (by decide) (Nat.le_of_ble_eq_true rfl) ?_
  intro Γ g hR
  show zV β 1 Γ [] 0 [(0, .int x0)] []
  refine zv_iload_n (pc := 0) g dX5_isKind_0 0 rfl rfl ?_
  refine zv_iconst (pc := 1) g dX5_isKind_1 (v := 0) (by decide) ?_
  refine zv_iconst (pc := 2) g dX5_isKind_2 (v := 5) (by decide) ?_
  refine zv_cSp (pc := 3) g cw_X5_49 (ctX5_in h) (by decide) (by decide) zz_pN rfl rfl (Nat.le_of_ble_eq_true rfl) dX5_isKind_3 (fun v1 h => ?_)
  exact zv_zret (pc := 6) g hR (zz_nb h.1).1 dX5_isKind_6 ⟨_, rfl, rfl, h.2⟩
def wX5_isRoom (post : Int32 → Prop) (x0 : Int32) : Prop := wX5_in (fun v1 => (v1 = 0 ∨ v1 = 1) ∧ post v1) x0 0 7
set_option maxRecDepth 100000 in
set_option maxHeartbeats 4000000 in
theorem ctX5_isRoom {β : zz_B} {post : Int32 → Prop} {x0 : Int32} (h : wX5_isRoom post x0) : zCp β yX5_isRoom cX5_isRoom 1 (some .boolean) 1 22 [.int x0] [] post := by
  unfold wX5_isRoom at h
  unfold zCp
  refine zC.of (by decide) (Nat.le_of_ble_eq_true rfl) ?_
  intro Γ g hR
  show zV β 1 Γ [] 0 [(0, .int x0)] []
  refine zv_iload_n (pc := 0) g dX5_isRoom_0 0 rfl rfl ?_
  refine zv_iconst (pc := 1) g dX5_isRoom_1 (v := 0) (by decide) ?_
  refine zv_bipush (pc := 2) g dX5_isRoom_2 (v := 7) (by decide) ?_
  refine zv_cSp (pc := 4) g cw_X5_49 (ctX5_in h) (by decide) (by decide) zz_pN rfl rfl (Nat.le_of_ble_eq_true rfl) dX5_isRoom_4 (fun v1 h => ?_)
  exact zv_zret (pc := 7) g hR (zz_nb h.1).1 dX5_isRoom_7 ⟨_, rfl, rfl, h.2⟩
def wX5_isMemory (post : Int32 → Prop) (x0 : Int32) : Prop := wX5_in (fun v1 => (v1 = 0 ∨ v1 = 1) ∧ post v1) x0 0 9
set_option maxRecDepth 100000 in
set_option maxHeartbeats 4000000 in
theorem ctX5_isMemory {β : zz_B} {post : Int32 → Prop} {x0 : Int32} (h : wX5_isMemory post x0) : zCp β yX5_isMemory cX5_isMemory 1 (some .boolean) 1 22 [.int x0] [] post := by
  unfold wX5_isMemory at h
  unfold zCp
  refine zC.of (by decide) (Nat.le_of_ble_eq_true rfl) ?_
  intro Γ g hR
  show zV β 1 Γ [] 0 [(0, .int x0)] []
  refine zv_iload_n (pc := 0) g dX5_isMemory_0 0 rfl rfl ?_
  refine zv_iconst (pc := 1) g dX5_isMemory_1 (v := 0) (by decide) ?_
  refine zv_bipush (pc := 2) g dX5_isMemory_2 (v := 9) (by decide) ?_
  refine zv_cSp (pc := 4) g cw_X5_49 (ctX5_in h) (by decide) (by decide) zz_pN rfl rfl (Nat.le_of_ble_eq_true rfl) dX5_isMemory_4 (fun v1 h => ?_)
  exact zv_zret (pc := 7) g hR (zz_nb h.1).1 dX5_isMemory_7 ⟨_, rfl, rfl, h.2⟩
def wX5_bits_4 (post : Int32 → Prop) : Nat → (Int32) → (Int32) → Prop
  | 0, _, _ => False
  | f0 + 1, x1, x2 => (x2 = 0 → post x1) ∧ (¬ x2 = 0 → ∀ y2 : Int32, y2 = (x2 &&& (x2 - 1)) → (wX5_bits_4 post f0 (x1 + 1) y2))
set_option maxRecDepth 100000 in
set_option maxHeartbeats 4000000 in
theorem lX5_bits_4 {β : zz_B} {Γ : zz_X} {post : Int32 → Prop} (g : zG β 3 Γ cX5_bits RX5 0 0) (hR : zR β Γ (some .int) (fun r w => ∃ v : Int32, r = some (.int v) ∧ w = [] ∧ post v)) : ∀ (f0 : Nat) (x1 : Int32) (x2 : Int32) , wX5_bits_4 post f0 x1 x2 → zV β 3 Γ [] 4 [(1, .int x1), (2, .int x2)] [] := by
  intro f0
  induction f0 with
  | zero => intro x1 x2 h; exact h.elim
  | succ f0 ih0 =>
    intro x1 x2 h
    rw [wX5_bits_4] at h
    refine zv_iload_n (pc := 4) g dX5_bits_4 1 rfl rfl ?_
    refine zv_if_eq (pc := 5) 20 g dX5_bits_5 rfl (fun c1 => ?_) (fun c1 => ?_)
    · replace h := h.1 c1
      refine zv_iload_n (pc := 20) g dX5_bits_20 0 rfl rfl ?_
      exact zv_iret (pc := 21) g hR dX5_bits_21 ⟨_, rfl, rfl, h⟩
    · replace h := h.2 c1
      refine zv_iinc (pc := 8) 1 [(1, .int (x1 + 1)), (2, .int x2)] g dX5_bits_8 0 rfl (by decide) (by decide) rfl ?_
      refine zv_iload_n (pc := 11) g dX5_bits_11 1 rfl rfl ?_
      refine zv_iload_n (pc := 12) g dX5_bits_12 1 rfl rfl ?_
      refine zv_iconst (pc := 13) g dX5_bits_13 (v := 1) (by decide) ?_
      refine zv_isub (pc := 14) g dX5_bits_14 ?_
      refine zv_iand (pc := 15) g dX5_bits_15 ?_
      refine zv_topi (fun y2 ey2 => ?_)
      replace h := h y2 ey2
      refine zv_istore_n (pc := 16) 2 [(2, .int y2), (1, .int (x1 + 1))] g dX5_bits_16 rfl (by decide) rfl ?_
      refine zv_goto (pc := 17) 4 g dX5_bits_17 rfl ?_
      refine zv_sub [1, 0] rfl ?_
      exact ih0 _ _ h
def wX5_bits (post : Int32 → Prop) (x0 : Int32) : Prop := ∃ f3 : Nat, wX5_bits_4 post f3 0 x0
set_option maxRecDepth 100000 in
set_option maxHeartbeats 4000000 in
theorem ctX5_bits {β : zz_B} {post : Int32 → Prop} {x0 : Int32} (h : wX5_bits post x0) : zCp β yX5_bits cX5_bits 3 (some .int) 0 0 [.int x0] [] post := by
  unfold wX5_bits at h
  unfold zCp
  refine zC.of (by decide) (Nat.le_of_ble_eq_true rfl) ?_
  intro Γ g hR
  show zV β 3 Γ [] 0 [(0, .int x0)] []
  refine zv_iconst (pc := 0) g dX5_bits_0 (v := 0) (by decide) ?_
  refine zv_istore_n (pc := 1) 1 [(1, .int 0), (0, .int x0)] g dX5_bits_1 rfl (by decide) rfl ?_
  refine zv_iload_n (pc := 2) g dX5_bits_2 1 rfl rfl ?_
  refine zv_istore_n (pc := 3) 2 [(2, .int x0), (1, .int 0), (0, .int x0)] g dX5_bits_3 rfl (by decide) rfl ?_
  obtain ⟨f3, h⟩ := h
  refine zv_sub [1, 0] rfl ?_
  exact lX5_bits_4 g hR f3 _ _ h
def wX5_falls (post : Int32 → (MSt) → Prop) (S : MSt) (x1 : Int32) : Prop := wX5_in (fun v1 => (v1 = 0 → wX5_finds (fun v3 S4 => post v3 S4) S (-1000000001)) ∧ (¬ v1 = 0 → wX5_becomes (fun v5 S6 => post v5 S6) S 1 x1)) x1 0 20
set_option maxRecDepth 100000 in
set_option maxHeartbeats 4000000 in
theorem ctX5_falls {β : zz_B} {a : Nat → Nat} {post : Int32 → (MSt) → Prop} {S : MSt} {x1 : Int32} (h : wX5_falls post S x1) : zCi β yX5_falls cX5_falls 2 (some .int) 1 23 [.ref (a 0), .int x1] (mW β a) S post := by
  unfold wX5_falls at h
  unfold zCi
  refine zC.of (by decide) (Nat.le_of_ble_eq_true rfl) ?_
  intro Γ g hR
  show zV β 2 Γ ((mW β a) S) 0 [(0, .ref (a 0)), (1, .int x1)] []
  refine zv_iload_n (pc := 0) g dX5_falls_0 1 rfl rfl ?_
  refine zv_iconst (pc := 1) g dX5_falls_1 (v := 0) (by decide) ?_
  refine zv_bipush (pc := 2) g dX5_falls_2 (v := 20) (by decide) ?_
  refine zv_cSp (pc := 4) g cw_X5_49 (ctX5_in h) (by decide) (by decide) zz_pN rfl rfl (Nat.le_of_ble_eq_true rfl) dX5_falls_4 (fun v1 h => ?_)
  refine zv_if_eq (pc := 7) 19 g dX5_falls_7 rfl (fun c2 => ?_) (fun c2 => ?_)
  · replace h := h.1 c2
    refine zv_aload_n (pc := 19) g dX5_falls_19 0 rfl rfl ?_
    refine zv_ldc (pc := 20) g wd_744 dX5_falls_20 ?_
    refine zv_cVi (pc := 22) g cw_X5_57 (ctX5_finds h) (by decide) (by decide) zz_p0 (mW β a) (fun T => zz_p1 T) (q := 0) rfl rfl rfl rfl rfl (Nat.le_of_ble_eq_true rfl) dX5_falls_22 (fun v3 S4 h => ?_)
    exact zv_iret (pc := 25) g hR dX5_falls_25 ⟨_, _, rfl, rfl, h⟩
  · replace h := h.2 c2
    refine zv_aload_n (pc := 10) g dX5_falls_10 0 rfl rfl ?_
    refine zv_iconst (pc := 11) g dX5_falls_11 (v := 1) (by decide) ?_
    refine zv_iload_n (pc := 12) g dX5_falls_12 1 rfl rfl ?_
    refine zv_cVi (pc := 13) g cw_X5_53 (ctX5_becomes h) (by decide) (by decide) zz_p0 (mW β a) (fun T => zz_p1 T) (q := 0) rfl rfl rfl rfl rfl (Nat.le_of_ble_eq_true rfl) dX5_falls_13 (fun v5 S6 h => ?_)
    refine zv_goto (pc := 16) 25 g dX5_falls_16 rfl ?_
    exact zv_iret (pc := 25) g hR dX5_falls_25 ⟨_, _, rfl, rfl, h⟩
def wX5_room_35 (post : Int32 → (MSt) → Prop) (S : MSt) (x1 : Int32) (x2 : Int32) (x3 : Int32) (s0 : Int32) : Prop := wX5_isRoom (fun v3 => (v3 = 0 → wX5_finds (fun v5 S6 => post v5 S6) S (-1000000001)) ∧ (¬ v3 = 0 → (s0 = 0 → wX5_finds (fun v8 S9 => post v8 S9) S (-1000000001)) ∧ (¬ s0 = 0 → wX5_becomes (fun v10 S11 => post v10 S11) S ((3 + (2 * x1)) + x2) x3))) x1
set_option maxRecDepth 100000 in
set_option maxHeartbeats 4000000 in
theorem lX5_room_35 {β : zz_B} {Γ : zz_X} {a : Nat → Nat} {post : Int32 → (MSt) → Prop} (g : zG β 5 Γ cX5_room RX5 2 42) (hR : zR β Γ (some .int) (fun r w => ∃ (v : Int32) (T : MSt), r = some (.int v) ∧ w = (mW β a) T ∧ post v T)) (S : MSt) (x1 : Int32) (x2 : Int32) (x3 : Int32) (s0 : Int32) (h : wX5_room_35 post S x1 x2 x3 s0) : zV β 5 Γ ((mW β a) S) 35 [(0, .ref (a 0)), (1, .int x1), (2, .int x2), (3, .int x3)] [.int s0] := by
  unfold wX5_room_35 at h
  refine zv_istore (pc := 35) [(4, .int s0), (0, .ref (a 0)), (1, .int x1), (2, .int x2), (3, .int x3)] g dX5_room_35 (by decide) rfl ?_
  refine zv_iload_n (pc := 37) g dX5_room_37 2 rfl rfl ?_
  refine zv_cSp (pc := 38) g cw_X5_61 (ctX5_isRoom h) (by decide) (by decide) zz_pN rfl rfl (Nat.le_of_ble_eq_true rfl) dX5_room_38 (fun v3 h => ?_)
  refine zv_if_eq (pc := 41) 64 g dX5_room_41 rfl (fun c4 => ?_) (fun c4 => ?_)
  · replace h := h.1 c4
    refine zv_aload_n (pc := 64) g dX5_room_64 1 rfl rfl ?_
    refine zv_ldc (pc := 65) g wd_744 dX5_room_65 ?_
    refine zv_cVi (pc := 67) g cw_X5_57 (ctX5_finds h) (by decide) (by decide) zz_p0 (mW β a) (fun T => zz_p1 T) (q := 0) rfl rfl rfl rfl rfl (Nat.le_of_ble_eq_true rfl) dX5_room_67 (fun v5 S6 h => ?_)
    exact zv_iret (pc := 70) g hR dX5_room_70 ⟨_, _, rfl, rfl, h⟩
  · replace h := h.2 c4
    refine zv_iload (pc := 44) g dX5_room_44 0 rfl ?_
    refine zv_if_eq (pc := 46) 64 g dX5_room_46 rfl (fun c7 => ?_) (fun c7 => ?_)
    · replace h := h.1 c7
      refine zv_aload_n (pc := 64) g dX5_room_64 1 rfl rfl ?_
      refine zv_ldc (pc := 65) g wd_744 dX5_room_65 ?_
      refine zv_cVi (pc := 67) g cw_X5_57 (ctX5_finds h) (by decide) (by decide) zz_p0 (mW β a) (fun T => zz_p1 T) (q := 0) rfl rfl rfl rfl rfl (Nat.le_of_ble_eq_true rfl) dX5_room_67 (fun v8 S9 h => ?_)
      exact zv_iret (pc := 70) g hR dX5_room_70 ⟨_, _, rfl, rfl, h⟩
    · replace h := h.2 c7
      refine zv_aload_n (pc := 49) g dX5_room_49 1 rfl rfl ?_
      refine zv_iconst (pc := 50) g dX5_room_50 (v := 3) (by decide) ?_
      refine zv_iconst (pc := 51) g dX5_room_51 (v := 2) (by decide) ?_
      refine zv_iload_n (pc := 52) g dX5_room_52 2 rfl rfl ?_
      refine zv_imul (pc := 53) g dX5_room_53 ?_
      refine zv_iadd (pc := 54) g dX5_room_54 ?_
      refine zv_iload_n (pc := 55) g dX5_room_55 3 rfl rfl ?_
      refine zv_iadd (pc := 56) g dX5_room_56 ?_
      refine zv_iload_n (pc := 57) g dX5_room_57 4 rfl rfl ?_
      refine zv_cVi (pc := 58) g cw_X5_53 (ctX5_becomes h) (by decide) (by decide) zz_p0 (mW β a) (fun T => zz_p1 T) (q := 0) rfl rfl rfl rfl rfl (Nat.le_of_ble_eq_true rfl) dX5_room_58 (fun v10 S11 h => ?_)
      refine zv_goto (pc := 61) 70 g dX5_room_61 rfl ?_
      exact zv_iret (pc := 70) g hR dX5_room_70 ⟨_, _, rfl, rfl, h⟩
def wX5_room_34 (post : Int32 → (MSt) → Prop) (S : MSt) (x1 : Int32) (x2 : Int32) (x3 : Int32) : Prop := wX5_room_35 post S x1 x2 x3 0
set_option maxRecDepth 100000 in
set_option maxHeartbeats 4000000 in
theorem lX5_room_34 {β : zz_B} {Γ : zz_X} {a : Nat → Nat} {post : Int32 → (MSt) → Prop} (g : zG β 5 Γ cX5_room RX5 2 42) (hR : zR β Γ (some .int) (fun r w => ∃ (v : Int32) (T : MSt), r = some (.int v) ∧ w = (mW β a) T ∧ post v T)) (S : MSt) (x1 : Int32) (x2 : Int32) (x3 : Int32) (h : wX5_room_34 post S x1 x2 x3) : zV β 5 Γ ((mW β a) S) 34 [(0, .ref (a 0)), (1, .int x1), (2, .int x2), (3, .int x3)] [] := by
  unfold wX5_room_34 at h
  refine zv_iconst (pc := 34) g dX5_room_34 (v := 0) (by decide) ?_
  refine zv_sub [0, 1, 2, 3] rfl ?_
  exact lX5_room_35 g hR _ _ _ _ _ h
def wX5_room (post : Int32 → (MSt) → Prop) (S : MSt) (x1 : Int32) (x2 : Int32) (x3 : Int32) : Prop := (¬ x2 = 0 → (¬ x2 = (1 : Int32) → wX5_room_34 post S x1 x2 x3) ∧ (x2 = (1 : Int32) → wX5_in (fun v12 => (v12 = 0 → wX5_room_34 post S x1 x2 x3) ∧ (¬ v12 = 0 → wX5_room_35 post S x1 x2 x3 1)) x3 0 1023)) ∧ (x2 = 0 → wX5_in (fun v14 => wX5_room_35 post S x1 x2 x3 v14) x3 0 99)
set_option maxRecDepth 100000 in
set_option maxHeartbeats 4000000 in
theorem ctX5_room {β : zz_B} {a : Nat → Nat} {post : Int32 → (MSt) → Prop} {S : MSt} {x1 : Int32} {x2 : Int32} {x3 : Int32} (h : wX5_room post S x1 x2 x3) : zCi β yX5_room cX5_room 5 (some .int) 2 42 [.ref (a 0), .int x1, .int x2, .int x3] (mW β a) S post := by
  unfold wX5_room at h
  unfold zCi
  refine zC.of (by decide) (Nat.le_of_ble_eq_true rfl) ?_
  intro Γ g hR
  show zV β 5 Γ ((mW β a) S) 0 [(0, .ref (a 0)), (1, .int x1), (2, .int x2), (3, .int x3)] []
  refine zv_iload_n (pc := 0) g dX5_room_0 2 rfl rfl ?_
  refine zv_if_ne (pc := 1) 14 g dX5_room_1 rfl (fun c1 => ?_) (fun c1 => ?_)
  · replace h := h.1 c1
    refine zv_iload_n (pc := 14) g dX5_room_14 2 rfl rfl ?_
    refine zv_iconst (pc := 15) g dX5_room_15 (v := 1) (by decide) ?_
    refine zv_icmp_ne (pc := 16) 34 g dX5_room_16 rfl (fun c2 => ?_) (fun c2 => ?_)
    · replace h := h.1 c2
      refine zv_sub [0, 1, 2, 3] rfl ?_
      exact lX5_room_34 g hR _ _ _ _ h
    · replace h := h.2 c2
      refine zv_iload_n (pc := 19) g dX5_room_19 3 rfl rfl ?_
      refine zv_iconst (pc := 20) g dX5_room_20 (v := 0) (by decide) ?_
      refine zv_sipush (pc := 21) g dX5_room_21 (v := 1023) (by decide) ?_
      refine zv_cSp (pc := 24) g cw_X5_49 (ctX5_in h) (by decide) (by decide) zz_pN rfl rfl (Nat.le_of_ble_eq_true rfl) dX5_room_24 (fun v12 h => ?_)
      refine zv_if_eq (pc := 27) 34 g dX5_room_27 rfl (fun c13 => ?_) (fun c13 => ?_)
      · replace h := h.1 c13
        refine zv_sub [0, 1, 2, 3] rfl ?_
        exact lX5_room_34 g hR _ _ _ _ h
      · replace h := h.2 c13
        refine zv_iconst (pc := 30) g dX5_room_30 (v := 1) (by decide) ?_
        refine zv_goto (pc := 31) 35 g dX5_room_31 rfl ?_
        refine zv_sub [0, 1, 2, 3] rfl ?_
        exact lX5_room_35 g hR _ _ _ _ _ h
  · replace h := h.2 c1
    refine zv_iload_n (pc := 4) g dX5_room_4 3 rfl rfl ?_
    refine zv_iconst (pc := 5) g dX5_room_5 (v := 0) (by decide) ?_
    refine zv_bipush (pc := 6) g dX5_room_6 (v := 99) (by decide) ?_
    refine zv_cSp (pc := 8) g cw_X5_49 (ctX5_in h) (by decide) (by decide) zz_pN rfl rfl (Nat.le_of_ble_eq_true rfl) dX5_room_8 (fun v14 h => ?_)
    refine zv_goto (pc := 11) 35 g dX5_room_11 rfl ?_
    refine zv_sub [0, 1, 2, 3] rfl ?_
    exact lX5_room_35 g hR _ _ _ _ _ h
def wX5_roomOfOne (post : Int32 → Prop) (S : MSt) (x1 : Int32) : Prop := vp_in 0 51 ∧ (wX5_its (fun v1 => post (((m_row S (Int32.toNatClampNeg 0)) + v1) - ((m_row S (Int32.toNatClampNeg 0)) + v1) / 8 * 8)) S x1 3)
set_option maxRecDepth 100000 in
set_option maxHeartbeats 4000000 in
theorem ctX5_roomOfOne {β : zz_B} {a : Nat → Nat} {post : Int32 → Prop} {S : MSt} {x1 : Int32} (h : wX5_roomOfOne post S x1) : zCp β yX5_roomOfOne cX5_roomOfOne 2 (some .int) 1 22 [.ref (a 0), .int x1] ((mW β a) S) post := by
  unfold wX5_roomOfOne at h
  unfold zCp
  refine zC.of (by decide) (Nat.le_of_ble_eq_true rfl) ?_
  intro Γ g hR
  show zV β 2 Γ ((mW β a) S) 0 [(0, .ref (a 0)), (1, .int x1)] []
  refine zv_aload_n (pc := 0) g dX5_roomOfOne_0 0 rfl rfl ?_
  refine zv_get (pc := 1) g fl_X5_7 0 rfl rfl dX5_roomOfOne_1 ?_
  refine zv_iconst (pc := 4) g dX5_roomOfOne_4 (v := 0) (by decide) ?_
  obtain ⟨hi, h⟩ := h
  refine zv_iald (pc := 5) g 1 rfl hi dX5_roomOfOne_5 ?_
  refine zv_aload_n (pc := 6) g dX5_roomOfOne_6 0 rfl rfl ?_
  refine zv_iload_n (pc := 7) g dX5_roomOfOne_7 1 rfl rfl ?_
  refine zv_iconst (pc := 8) g dX5_roomOfOne_8 (v := 3) (by decide) ?_
  refine zv_cVp (pc := 9) g cw_X5_65 (ctX5_its h) (by decide) (by decide) zz_p0 (q := 0) rfl rfl rfl rfl rfl (Nat.le_of_ble_eq_true rfl) dX5_roomOfOne_9 (fun v1 h => ?_)
  refine zv_iadd (pc := 12) g dX5_roomOfOne_12 ?_
  refine zv_bipush (pc := 13) g dX5_roomOfOne_13 (v := 8) (by decide) ?_
  refine zv_irem (pc := 15) g dX5_roomOfOne_15 (by decide) ?_
  exact zv_iret (pc := 16) g hR dX5_roomOfOne_16 ⟨_, rfl, rfl, h⟩
def wX5_inRoom_4 (post : Int32 → Prop) (S : MSt) : Nat → (Int32) → (Int32) → (Int32) → Prop
  | 0, _, _, _ => False
  | f0 + 1, x1, x2, x3 => vp_in 2 51 ∧ (((m_row S (Int32.toNatClampNeg 2)) ≤ x3 → post x2) ∧ (¬ (m_row S (Int32.toNatClampNeg 2)) ≤ x3 → wX5_roomOfOne (fun v2 => (¬ v2 = x1 → ∀ y4 : Int32, y4 = (x2 ||| 0) → (wX5_inRoom_4 post S f0 x1 y4 (x3 + 1))) ∧ (v2 = x1 → ∀ y5 : Int32, y5 = (x2 ||| (1 <<< (x3 &&& 31))) → (wX5_inRoom_4 post S f0 x1 y5 (x3 + 1)))) S x3))
set_option maxRecDepth 100000 in
set_option maxHeartbeats 4000000 in
theorem lX5_inRoom_4 {β : zz_B} {Γ : zz_X} {a : Nat → Nat} {post : Int32 → Prop} {S : MSt} (g : zG β 4 Γ cX5_inRoom RX5 2 43) (hR : zR β Γ (some .int) (fun r w => ∃ v : Int32, r = some (.int v) ∧ w = ((mW β a) S) ∧ post v)) : ∀ (f0 : Nat) (x1 : Int32) (x2 : Int32) (x3 : Int32) , wX5_inRoom_4 post S f0 x1 x2 x3 → zV β 4 Γ ((mW β a) S) 4 [(0, .ref (a 0)), (1, .int x1), (2, .int x2), (3, .int x3)] [] := by
  intro f0
  induction f0 with
  | zero => intro x1 x2 x3 h; exact h.elim
  | succ f0 ih0 =>
    intro x1 x2 x3 h
    rw [wX5_inRoom_4] at h
    refine zv_iload_n (pc := 4) g dX5_inRoom_4 3 rfl rfl ?_
    refine zv_aload_n (pc := 5) g dX5_inRoom_5 0 rfl rfl ?_
    refine zv_get (pc := 6) g fl_X5_7 0 rfl rfl dX5_inRoom_6 ?_
    refine zv_iconst (pc := 9) g dX5_inRoom_9 (v := 2) (by decide) ?_
    obtain ⟨hi, h⟩ := h
    refine zv_iald (pc := 10) g 1 rfl hi dX5_inRoom_10 ?_
    refine zv_icmp_ge (pc := 11) 39 g dX5_inRoom_11 rfl (fun c1 => ?_) (fun c1 => ?_)
    · replace h := h.1 c1
      refine zv_iload_n (pc := 39) g dX5_inRoom_39 2 rfl rfl ?_
      exact zv_iret (pc := 40) g hR dX5_inRoom_40 ⟨_, rfl, rfl, h⟩
    · replace h := h.2 c1
      refine zv_iload_n (pc := 14) g dX5_inRoom_14 2 rfl rfl ?_
      refine zv_aload_n (pc := 15) g dX5_inRoom_15 0 rfl rfl ?_
      refine zv_iload_n (pc := 16) g dX5_inRoom_16 3 rfl rfl ?_
      refine zv_cVp (pc := 17) g cw_X5_68 (ctX5_roomOfOne h) (by decide) (by decide) zz_p0 (q := 0) rfl rfl rfl rfl rfl (Nat.le_of_ble_eq_true rfl) dX5_inRoom_17 (fun v2 h => ?_)
      refine zv_iload_n (pc := 20) g dX5_inRoom_20 1 rfl rfl ?_
      refine zv_icmp_ne (pc := 21) 30 g dX5_inRoom_21 rfl (fun c3 => ?_) (fun c3 => ?_)
      · replace h := h.1 c3
        refine zv_iconst (pc := 30) g dX5_inRoom_30 (v := 0) (by decide) ?_
        refine zv_ior (pc := 31) g dX5_inRoom_31 ?_
        refine zv_topi (fun y4 ey4 => ?_)
        replace h := h y4 ey4
        refine zv_istore_n (pc := 32) 2 [(2, .int y4), (0, .ref (a 0)), (1, .int x1), (3, .int x3)] g dX5_inRoom_32 rfl (by decide) rfl ?_
        refine zv_iinc (pc := 33) 1 [(3, .int (x3 + 1)), (2, .int y4), (0, .ref (a 0)), (1, .int x1)] g dX5_inRoom_33 3 rfl (by decide) (by decide) rfl ?_
        refine zv_goto (pc := 36) 4 g dX5_inRoom_36 rfl ?_
        refine zv_sub [2, 3, 1, 0] rfl ?_
        exact ih0 _ _ _ h
      · replace h := h.2 c3
        refine zv_iconst (pc := 24) g dX5_inRoom_24 (v := 1) (by decide) ?_
        refine zv_iload_n (pc := 25) g dX5_inRoom_25 3 rfl rfl ?_
        refine zv_ishl (pc := 26) g dX5_inRoom_26 ?_
        refine zv_goto (pc := 27) 31 g dX5_inRoom_27 rfl ?_
        refine zv_ior (pc := 31) g dX5_inRoom_31 ?_
        refine zv_topi (fun y5 ey5 => ?_)
        replace h := h y5 ey5
        refine zv_istore_n (pc := 32) 2 [(2, .int y5), (0, .ref (a 0)), (1, .int x1), (3, .int x3)] g dX5_inRoom_32 rfl (by decide) rfl ?_
        refine zv_iinc (pc := 33) 1 [(3, .int (x3 + 1)), (2, .int y5), (0, .ref (a 0)), (1, .int x1)] g dX5_inRoom_33 3 rfl (by decide) (by decide) rfl ?_
        refine zv_goto (pc := 36) 4 g dX5_inRoom_36 rfl ?_
        refine zv_sub [2, 3, 1, 0] rfl ?_
        exact ih0 _ _ _ h
def wX5_inRoom (post : Int32 → Prop) (S : MSt) (x1 : Int32) : Prop := ∃ f6 : Nat, wX5_inRoom_4 post S f6 x1 0 0
set_option maxRecDepth 100000 in
set_option maxHeartbeats 4000000 in
theorem ctX5_inRoom {β : zz_B} {a : Nat → Nat} {post : Int32 → Prop} {S : MSt} {x1 : Int32} (h : wX5_inRoom post S x1) : zCp β yX5_inRoom cX5_inRoom 4 (some .int) 2 43 [.ref (a 0), .int x1] ((mW β a) S) post := by
  unfold wX5_inRoom at h
  unfold zCp
  refine zC.of (by decide) (Nat.le_of_ble_eq_true rfl) ?_
  intro Γ g hR
  show zV β 4 Γ ((mW β a) S) 0 [(0, .ref (a 0)), (1, .int x1)] []
  refine zv_iconst (pc := 0) g dX5_inRoom_0 (v := 0) (by decide) ?_
  refine zv_istore_n (pc := 1) 2 [(2, .int 0), (0, .ref (a 0)), (1, .int x1)] g dX5_inRoom_1 rfl (by decide) rfl ?_
  refine zv_iconst (pc := 2) g dX5_inRoom_2 (v := 0) (by decide) ?_
  refine zv_istore_n (pc := 3) 3 [(3, .int 0), (2, .int 0), (0, .ref (a 0)), (1, .int x1)] g dX5_inRoom_3 rfl (by decide) rfl ?_
  obtain ⟨f6, h⟩ := h
  refine zv_sub [2, 3, 1, 0] rfl ?_
  exact lX5_inRoom_4 g hR f6 _ _ _ h
def wX5_roomOf (post : Int32 → (MSt) → Prop) (S : MSt) (x1 : Int32) (x2 : Int32) : Prop := wX5_isRoom (fun v1 => (v1 = 0 → wX5_finds (fun v3 S4 => post v3 S4) S (-1000000001)) ∧ (¬ v1 = 0 → wX5_in (fun v5 => (¬ v5 = 0 → ((2 : Int32) ≤ x2 → wX5_inRoom (fun v8 => post v8 S) S x1) ∧ (¬ (2 : Int32) ≤ x2 → wX5_there (fun v9 => post v9 S) S x1 x2)) ∧ (v5 = 0 → wX5_finds (fun v10 S11 => post v10 S11) S (-1000000001))) x2 0 2)) x1
set_option maxRecDepth 100000 in
set_option maxHeartbeats 4000000 in
theorem ctX5_roomOf {β : zz_B} {a : Nat → Nat} {post : Int32 → (MSt) → Prop} {S : MSt} {x1 : Int32} {x2 : Int32} (h : wX5_roomOf post S x1 x2) : zCi β yX5_roomOf cX5_roomOf 3 (some .int) 3 66 [.ref (a 0), .int x1, .int x2] (mW β a) S post := by
  unfold wX5_roomOf at h
  unfold zCi
  refine zC.of (by decide) (Nat.le_of_ble_eq_true rfl) ?_
  intro Γ g hR
  show zV β 3 Γ ((mW β a) S) 0 [(0, .ref (a 0)), (1, .int x1), (2, .int x2)] []
  refine zv_iload_n (pc := 0) g dX5_roomOf_0 1 rfl rfl ?_
  refine zv_cSp (pc := 1) g cw_X5_61 (ctX5_isRoom h) (by decide) (by decide) zz_pN rfl rfl (Nat.le_of_ble_eq_true rfl) dX5_roomOf_1 (fun v1 h => ?_)
  refine zv_if_eq (pc := 4) 16 g dX5_roomOf_4 rfl (fun c2 => ?_) (fun c2 => ?_)
  · replace h := h.1 c2
    refine zv_aload_n (pc := 16) g dX5_roomOf_16 0 rfl rfl ?_
    refine zv_ldc (pc := 17) g wd_744 dX5_roomOf_17 ?_
    refine zv_cVi (pc := 19) g cw_X5_57 (ctX5_finds h) (by decide) (by decide) zz_p0 (mW β a) (fun T => zz_p1 T) (q := 0) rfl rfl rfl rfl rfl (Nat.le_of_ble_eq_true rfl) dX5_roomOf_19 (fun v3 S4 h => ?_)
    exact zv_iret (pc := 22) g hR dX5_roomOf_22 ⟨_, _, rfl, rfl, h⟩
  · replace h := h.2 c2
    refine zv_iload_n (pc := 7) g dX5_roomOf_7 2 rfl rfl ?_
    refine zv_iconst (pc := 8) g dX5_roomOf_8 (v := 0) (by decide) ?_
    refine zv_iconst (pc := 9) g dX5_roomOf_9 (v := 2) (by decide) ?_
    refine zv_cSp (pc := 10) g cw_X5_49 (ctX5_in h) (by decide) (by decide) zz_pN rfl rfl (Nat.le_of_ble_eq_true rfl) dX5_roomOf_10 (fun v5 h => ?_)
    refine zv_if_ne (pc := 13) 23 g dX5_roomOf_13 rfl (fun c6 => ?_) (fun c6 => ?_)
    · replace h := h.1 c6
      refine zv_iload_n (pc := 23) g dX5_roomOf_23 2 rfl rfl ?_
      refine zv_iconst (pc := 24) g dX5_roomOf_24 (v := 2) (by decide) ?_
      refine zv_icmp_ge (pc := 25) 37 g dX5_roomOf_25 rfl (fun c7 => ?_) (fun c7 => ?_)
      · replace h := h.1 c7
        refine zv_aload_n (pc := 37) g dX5_roomOf_37 0 rfl rfl ?_
        refine zv_iload_n (pc := 38) g dX5_roomOf_38 1 rfl rfl ?_
        refine zv_cVp (pc := 39) g cw_X5_74 (ctX5_inRoom h) (by decide) (by decide) zz_p0 (q := 0) rfl rfl rfl rfl rfl (Nat.le_of_ble_eq_true rfl) dX5_roomOf_39 (fun v8 h => ?_)
        exact zv_iret (pc := 42) g hR dX5_roomOf_42 ⟨_, _, rfl, rfl, h⟩
      · replace h := h.2 c7
        refine zv_aload_n (pc := 28) g dX5_roomOf_28 0 rfl rfl ?_
        refine zv_iload_n (pc := 29) g dX5_roomOf_29 1 rfl rfl ?_
        refine zv_iload_n (pc := 30) g dX5_roomOf_30 2 rfl rfl ?_
        refine zv_cVp (pc := 31) g cw_X5_71 (ctX5_there h) (by decide) (by decide) zz_p0 (q := 0) rfl rfl rfl rfl rfl (Nat.le_of_ble_eq_true rfl) dX5_roomOf_31 (fun v9 h => ?_)
        refine zv_goto (pc := 34) 42 g dX5_roomOf_34 rfl ?_
        exact zv_iret (pc := 42) g hR dX5_roomOf_42 ⟨_, _, rfl, rfl, h⟩
    · replace h := h.2 c6
      refine zv_aload_n (pc := 16) g dX5_roomOf_16 0 rfl rfl ?_
      refine zv_ldc (pc := 17) g wd_744 dX5_roomOf_17 ?_
      refine zv_cVi (pc := 19) g cw_X5_57 (ctX5_finds h) (by decide) (by decide) zz_p0 (mW β a) (fun T => zz_p1 T) (q := 0) rfl rfl rfl rfl rfl (Nat.le_of_ble_eq_true rfl) dX5_roomOf_19 (fun v10 S11 h => ?_)
      exact zv_iret (pc := 22) g hR dX5_roomOf_22 ⟨_, _, rfl, rfl, h⟩
def wX5_dustOfAll_4 (post : Int32 → Prop) (S : MSt) : Nat → (Int32) → (Int32) → Prop
  | 0, _, _ => False
  | f0 + 1, x1, x2 => ((8 : Int32) ≤ x2 → post x1) ∧ (¬ (8 : Int32) ≤ x2 → wX5_there (fun v2 => ∀ y3 : Int32, y3 = (x1 + v2) → (wX5_dustOfAll_4 post S f0 y3 (x2 + 1))) S x2 0)
set_option maxRecDepth 100000 in
set_option maxHeartbeats 4000000 in
theorem lX5_dustOfAll_4 {β : zz_B} {Γ : zz_X} {a : Nat → Nat} {post : Int32 → Prop} {S : MSt} (g : zG β 3 Γ cX5_dustOfAll RX5 1 22) (hR : zR β Γ (some .int) (fun r w => ∃ v : Int32, r = some (.int v) ∧ w = ((mW β a) S) ∧ post v)) : ∀ (f0 : Nat) (x1 : Int32) (x2 : Int32) , wX5_dustOfAll_4 post S f0 x1 x2 → zV β 3 Γ ((mW β a) S) 4 [(0, .ref (a 0)), (1, .int x1), (2, .int x2)] [] := by
  intro f0
  induction f0 with
  | zero => intro x1 x2 h; exact h.elim
  | succ f0 ih0 =>
    intro x1 x2 h
    rw [wX5_dustOfAll_4] at h
    refine zv_iload_n (pc := 4) g dX5_dustOfAll_4 2 rfl rfl ?_
    refine zv_bipush (pc := 5) g dX5_dustOfAll_5 (v := 8) (by decide) ?_
    refine zv_icmp_ge (pc := 7) 25 g dX5_dustOfAll_7 rfl (fun c1 => ?_) (fun c1 => ?_)
    · replace h := h.1 c1
      refine zv_iload_n (pc := 25) g dX5_dustOfAll_25 1 rfl rfl ?_
      exact zv_iret (pc := 26) g hR dX5_dustOfAll_26 ⟨_, rfl, rfl, h⟩
    · replace h := h.2 c1
      refine zv_iload_n (pc := 10) g dX5_dustOfAll_10 1 rfl rfl ?_
      refine zv_aload_n (pc := 11) g dX5_dustOfAll_11 0 rfl rfl ?_
      refine zv_iload_n (pc := 12) g dX5_dustOfAll_12 2 rfl rfl ?_
      refine zv_iconst (pc := 13) g dX5_dustOfAll_13 (v := 0) (by decide) ?_
      refine zv_cVp (pc := 14) g cw_X5_71 (ctX5_there h) (by decide) (by decide) zz_p0 (q := 0) rfl rfl rfl rfl rfl (Nat.le_of_ble_eq_true rfl) dX5_dustOfAll_14 (fun v2 h => ?_)
      refine zv_iadd (pc := 17) g dX5_dustOfAll_17 ?_
      refine zv_topi (fun y3 ey3 => ?_)
      replace h := h y3 ey3
      refine zv_istore_n (pc := 18) 1 [(1, .int y3), (0, .ref (a 0)), (2, .int x2)] g dX5_dustOfAll_18 rfl (by decide) rfl ?_
      refine zv_iinc (pc := 19) 1 [(2, .int (x2 + 1)), (1, .int y3), (0, .ref (a 0))] g dX5_dustOfAll_19 2 rfl (by decide) (by decide) rfl ?_
      refine zv_goto (pc := 22) 4 g dX5_dustOfAll_22 rfl ?_
      refine zv_sub [2, 1, 0] rfl ?_
      exact ih0 _ _ h
def wX5_dustOfAll (post : Int32 → Prop) (S : MSt) : Prop := ∃ f4 : Nat, wX5_dustOfAll_4 post S f4 0 0
set_option maxRecDepth 100000 in
set_option maxHeartbeats 4000000 in
theorem ctX5_dustOfAll {β : zz_B} {a : Nat → Nat} {post : Int32 → Prop} {S : MSt} (h : wX5_dustOfAll post S) : zCp β yX5_dustOfAll cX5_dustOfAll 3 (some .int) 1 22 [.ref (a 0)] ((mW β a) S) post := by
  unfold wX5_dustOfAll at h
  unfold zCp
  refine zC.of (by decide) (Nat.le_of_ble_eq_true rfl) ?_
  intro Γ g hR
  show zV β 3 Γ ((mW β a) S) 0 [(0, .ref (a 0))] []
  refine zv_iconst (pc := 0) g dX5_dustOfAll_0 (v := 0) (by decide) ?_
  refine zv_istore_n (pc := 1) 1 [(1, .int 0), (0, .ref (a 0))] g dX5_dustOfAll_1 rfl (by decide) rfl ?_
  refine zv_iconst (pc := 2) g dX5_dustOfAll_2 (v := 0) (by decide) ?_
  refine zv_istore_n (pc := 3) 2 [(2, .int 0), (1, .int 0), (0, .ref (a 0))] g dX5_dustOfAll_3 rfl (by decide) rfl ?_
  obtain ⟨f4, h⟩ := h
  refine zv_sub [2, 1, 0] rfl ?_
  exact lX5_dustOfAll_4 g hR f4 _ _ h
def wX5_memoriesOfAll_4 (post : Int32 → Prop) (S : MSt) : Nat → (Int32) → (Int32) → Prop
  | 0, _, _ => False
  | f0 + 1, x1, x2 => ((8 : Int32) ≤ x2 → post x1) ∧ (¬ (8 : Int32) ≤ x2 → wX5_there (fun v2 => wX5_bits (fun v3 => ∀ y4 : Int32, y4 = (x1 + v3) → (wX5_memoriesOfAll_4 post S f0 y4 (x2 + 1))) v2) S x2 1)
set_option maxRecDepth 100000 in
set_option maxHeartbeats 4000000 in
theorem lX5_memoriesOfAll_4 {β : zz_B} {Γ : zz_X} {a : Nat → Nat} {post : Int32 → Prop} {S : MSt} (g : zG β 3 Γ cX5_memoriesOfAll RX5 1 22) (hR : zR β Γ (some .int) (fun r w => ∃ v : Int32, r = some (.int v) ∧ w = ((mW β a) S) ∧ post v)) : ∀ (f0 : Nat) (x1 : Int32) (x2 : Int32) , wX5_memoriesOfAll_4 post S f0 x1 x2 → zV β 3 Γ ((mW β a) S) 4 [(0, .ref (a 0)), (1, .int x1), (2, .int x2)] [] := by
  intro f0
  induction f0 with
  | zero => intro x1 x2 h; exact h.elim
  | succ f0 ih0 =>
    intro x1 x2 h
    rw [wX5_memoriesOfAll_4] at h
    refine zv_iload_n (pc := 4) g dX5_memoriesOfAll_4 2 rfl rfl ?_
    refine zv_bipush (pc := 5) g dX5_memoriesOfAll_5 (v := 8) (by decide) ?_
    refine zv_icmp_ge (pc := 7) 28 g dX5_memoriesOfAll_7 rfl (fun c1 => ?_) (fun c1 => ?_)
    · replace h := h.1 c1
      refine zv_iload_n (pc := 28) g dX5_memoriesOfAll_28 1 rfl rfl ?_
      exact zv_iret (pc := 29) g hR dX5_memoriesOfAll_29 ⟨_, rfl, rfl, h⟩
    · replace h := h.2 c1
      refine zv_iload_n (pc := 10) g dX5_memoriesOfAll_10 1 rfl rfl ?_
      refine zv_aload_n (pc := 11) g dX5_memoriesOfAll_11 0 rfl rfl ?_
      refine zv_iload_n (pc := 12) g dX5_memoriesOfAll_12 2 rfl rfl ?_
      refine zv_iconst (pc := 13) g dX5_memoriesOfAll_13 (v := 1) (by decide) ?_
      refine zv_cVp (pc := 14) g cw_X5_71 (ctX5_there h) (by decide) (by decide) zz_p0 (q := 0) rfl rfl rfl rfl rfl (Nat.le_of_ble_eq_true rfl) dX5_memoriesOfAll_14 (fun v2 h => ?_)
      refine zv_cSp (pc := 17) g cw_X5_77 (ctX5_bits h) (by decide) (by decide) zz_pN rfl rfl (Nat.le_of_ble_eq_true rfl) dX5_memoriesOfAll_17 (fun v3 h => ?_)
      refine zv_iadd (pc := 20) g dX5_memoriesOfAll_20 ?_
      refine zv_topi (fun y4 ey4 => ?_)
      replace h := h y4 ey4
      refine zv_istore_n (pc := 21) 1 [(1, .int y4), (0, .ref (a 0)), (2, .int x2)] g dX5_memoriesOfAll_21 rfl (by decide) rfl ?_
      refine zv_iinc (pc := 22) 1 [(2, .int (x2 + 1)), (1, .int y4), (0, .ref (a 0))] g dX5_memoriesOfAll_22 2 rfl (by decide) (by decide) rfl ?_
      refine zv_goto (pc := 25) 4 g dX5_memoriesOfAll_25 rfl ?_
      refine zv_sub [2, 1, 0] rfl ?_
      exact ih0 _ _ h
def wX5_memoriesOfAll (post : Int32 → Prop) (S : MSt) : Prop := ∃ f5 : Nat, wX5_memoriesOfAll_4 post S f5 0 0
set_option maxRecDepth 100000 in
set_option maxHeartbeats 4000000 in
theorem ctX5_memoriesOfAll {β : zz_B} {a : Nat → Nat} {post : Int32 → Prop} {S : MSt} (h : wX5_memoriesOfAll post S) : zCp β yX5_memoriesOfAll cX5_memoriesOfAll 3 (some .int) 1 22 [.ref (a 0)] ((mW β a) S) post := by
  unfold wX5_memoriesOfAll at h
  unfold zCp
  refine zC.of (by decide) (Nat.le_of_ble_eq_true rfl) ?_
  intro Γ g hR
  show zV β 3 Γ ((mW β a) S) 0 [(0, .ref (a 0))] []
  refine zv_iconst (pc := 0) g dX5_memoriesOfAll_0 (v := 0) (by decide) ?_
  refine zv_istore_n (pc := 1) 1 [(1, .int 0), (0, .ref (a 0))] g dX5_memoriesOfAll_1 rfl (by decide) rfl ?_
  refine zv_iconst (pc := 2) g dX5_memoriesOfAll_2 (v := 0) (by decide) ?_
  refine zv_istore_n (pc := 3) 2 [(2, .int 0), (1, .int 0), (0, .ref (a 0))] g dX5_memoriesOfAll_3 rfl (by decide) rfl ?_
  obtain ⟨f5, h⟩ := h
  refine zv_sub [2, 1, 0] rfl ?_
  exact lX5_memoriesOfAll_4 g hR f5 _ _ h
def wX5_common_6 (post : Int32 → Prop) (S : MSt) : Nat → (Int32) → (Int32) → Prop
  | 0, _, _ => False
  | f0 + 1, x1, x2 => ((8 : Int32) ≤ x2 → post x1) ∧ (¬ (8 : Int32) ≤ x2 → wX5_there (fun v2 => ∀ y3 : Int32, y3 = (x1 &&& v2) → (wX5_common_6 post S f0 y3 (x2 + 1))) S x2 1)
set_option maxRecDepth 100000 in
set_option maxHeartbeats 4000000 in
theorem lX5_common_6 {β : zz_B} {Γ : zz_X} {a : Nat → Nat} {post : Int32 → Prop} {S : MSt} (g : zG β 3 Γ cX5_common RX5 1 22) (hR : zR β Γ (some .int) (fun r w => ∃ v : Int32, r = some (.int v) ∧ w = ((mW β a) S) ∧ post v)) : ∀ (f0 : Nat) (x1 : Int32) (x2 : Int32) , wX5_common_6 post S f0 x1 x2 → zV β 3 Γ ((mW β a) S) 6 [(0, .ref (a 0)), (1, .int x1), (2, .int x2)] [] := by
  intro f0
  induction f0 with
  | zero => intro x1 x2 h; exact h.elim
  | succ f0 ih0 =>
    intro x1 x2 h
    rw [wX5_common_6] at h
    refine zv_iload_n (pc := 6) g dX5_common_6 2 rfl rfl ?_
    refine zv_bipush (pc := 7) g dX5_common_7 (v := 8) (by decide) ?_
    refine zv_icmp_ge (pc := 9) 27 g dX5_common_9 rfl (fun c1 => ?_) (fun c1 => ?_)
    · replace h := h.1 c1
      refine zv_iload_n (pc := 27) g dX5_common_27 1 rfl rfl ?_
      exact zv_iret (pc := 28) g hR dX5_common_28 ⟨_, rfl, rfl, h⟩
    · replace h := h.2 c1
      refine zv_iload_n (pc := 12) g dX5_common_12 1 rfl rfl ?_
      refine zv_aload_n (pc := 13) g dX5_common_13 0 rfl rfl ?_
      refine zv_iload_n (pc := 14) g dX5_common_14 2 rfl rfl ?_
      refine zv_iconst (pc := 15) g dX5_common_15 (v := 1) (by decide) ?_
      refine zv_cVp (pc := 16) g cw_X5_71 (ctX5_there h) (by decide) (by decide) zz_p0 (q := 0) rfl rfl rfl rfl rfl (Nat.le_of_ble_eq_true rfl) dX5_common_16 (fun v2 h => ?_)
      refine zv_iand (pc := 19) g dX5_common_19 ?_
      refine zv_topi (fun y3 ey3 => ?_)
      replace h := h y3 ey3
      refine zv_istore_n (pc := 20) 1 [(1, .int y3), (0, .ref (a 0)), (2, .int x2)] g dX5_common_20 rfl (by decide) rfl ?_
      refine zv_iinc (pc := 21) 1 [(2, .int (x2 + 1)), (1, .int y3), (0, .ref (a 0))] g dX5_common_21 2 rfl (by decide) (by decide) rfl ?_
      refine zv_goto (pc := 24) 6 g dX5_common_24 rfl ?_
      refine zv_sub [2, 1, 0] rfl ?_
      exact ih0 _ _ h
def wX5_common (post : Int32 → Prop) (S : MSt) : Prop := ∃ f4 : Nat, wX5_common_6 post S f4 1023 0
set_option maxRecDepth 100000 in
set_option maxHeartbeats 4000000 in
theorem ctX5_common {β : zz_B} {a : Nat → Nat} {post : Int32 → Prop} {S : MSt} (h : wX5_common post S) : zCp β yX5_common cX5_common 3 (some .int) 1 22 [.ref (a 0)] ((mW β a) S) post := by
  unfold wX5_common at h
  unfold zCp
  refine zC.of (by decide) (Nat.le_of_ble_eq_true rfl) ?_
  intro Γ g hR
  show zV β 3 Γ ((mW β a) S) 0 [(0, .ref (a 0))] []
  refine zv_sipush (pc := 0) g dX5_common_0 (v := 1023) (by decide) ?_
  refine zv_istore_n (pc := 3) 1 [(1, .int 1023), (0, .ref (a 0))] g dX5_common_3 rfl (by decide) rfl ?_
  refine zv_iconst (pc := 4) g dX5_common_4 (v := 0) (by decide) ?_
  refine zv_istore_n (pc := 5) 2 [(2, .int 0), (1, .int 1023), (0, .ref (a 0))] g dX5_common_5 rfl (by decide) rfl ?_
  obtain ⟨f4, h⟩ := h
  refine zv_sub [2, 1, 0] rfl ?_
  exact lX5_common_6 g hR f4 _ _ h
def wX5_anywhere_4 (post : Int32 → Prop) (S : MSt) : Nat → (Int32) → (Int32) → Prop
  | 0, _, _ => False
  | f0 + 1, x1, x2 => ((8 : Int32) ≤ x2 → post x1) ∧ (¬ (8 : Int32) ≤ x2 → wX5_there (fun v2 => ∀ y3 : Int32, y3 = (x1 ||| v2) → (wX5_anywhere_4 post S f0 y3 (x2 + 1))) S x2 1)
set_option maxRecDepth 100000 in
set_option maxHeartbeats 4000000 in
theorem lX5_anywhere_4 {β : zz_B} {Γ : zz_X} {a : Nat → Nat} {post : Int32 → Prop} {S : MSt} (g : zG β 3 Γ cX5_anywhere RX5 1 22) (hR : zR β Γ (some .int) (fun r w => ∃ v : Int32, r = some (.int v) ∧ w = ((mW β a) S) ∧ post v)) : ∀ (f0 : Nat) (x1 : Int32) (x2 : Int32) , wX5_anywhere_4 post S f0 x1 x2 → zV β 3 Γ ((mW β a) S) 4 [(0, .ref (a 0)), (1, .int x1), (2, .int x2)] [] := by
  intro f0
  induction f0 with
  | zero => intro x1 x2 h; exact h.elim
  | succ f0 ih0 =>
    intro x1 x2 h
    rw [wX5_anywhere_4] at h
    refine zv_iload_n (pc := 4) g dX5_anywhere_4 2 rfl rfl ?_
    refine zv_bipush (pc := 5) g dX5_anywhere_5 (v := 8) (by decide) ?_
    refine zv_icmp_ge (pc := 7) 25 g dX5_anywhere_7 rfl (fun c1 => ?_) (fun c1 => ?_)
    · replace h := h.1 c1
      refine zv_iload_n (pc := 25) g dX5_anywhere_25 1 rfl rfl ?_
      exact zv_iret (pc := 26) g hR dX5_anywhere_26 ⟨_, rfl, rfl, h⟩
    · replace h := h.2 c1
      refine zv_iload_n (pc := 10) g dX5_anywhere_10 1 rfl rfl ?_
      refine zv_aload_n (pc := 11) g dX5_anywhere_11 0 rfl rfl ?_
      refine zv_iload_n (pc := 12) g dX5_anywhere_12 2 rfl rfl ?_
      refine zv_iconst (pc := 13) g dX5_anywhere_13 (v := 1) (by decide) ?_
      refine zv_cVp (pc := 14) g cw_X5_71 (ctX5_there h) (by decide) (by decide) zz_p0 (q := 0) rfl rfl rfl rfl rfl (Nat.le_of_ble_eq_true rfl) dX5_anywhere_14 (fun v2 h => ?_)
      refine zv_ior (pc := 17) g dX5_anywhere_17 ?_
      refine zv_topi (fun y3 ey3 => ?_)
      replace h := h y3 ey3
      refine zv_istore_n (pc := 18) 1 [(1, .int y3), (0, .ref (a 0)), (2, .int x2)] g dX5_anywhere_18 rfl (by decide) rfl ?_
      refine zv_iinc (pc := 19) 1 [(2, .int (x2 + 1)), (1, .int y3), (0, .ref (a 0))] g dX5_anywhere_19 2 rfl (by decide) (by decide) rfl ?_
      refine zv_goto (pc := 22) 4 g dX5_anywhere_22 rfl ?_
      refine zv_sub [2, 1, 0] rfl ?_
      exact ih0 _ _ h
def wX5_anywhere (post : Int32 → Prop) (S : MSt) : Prop := ∃ f4 : Nat, wX5_anywhere_4 post S f4 0 0
set_option maxRecDepth 100000 in
set_option maxHeartbeats 4000000 in
theorem ctX5_anywhere {β : zz_B} {a : Nat → Nat} {post : Int32 → Prop} {S : MSt} (h : wX5_anywhere post S) : zCp β yX5_anywhere cX5_anywhere 3 (some .int) 1 22 [.ref (a 0)] ((mW β a) S) post := by
  unfold wX5_anywhere at h
  unfold zCp
  refine zC.of (by decide) (Nat.le_of_ble_eq_true rfl) ?_
  intro Γ g hR
  show zV β 3 Γ ((mW β a) S) 0 [(0, .ref (a 0))] []
  refine zv_iconst (pc := 0) g dX5_anywhere_0 (v := 0) (by decide) ?_
  refine zv_istore_n (pc := 1) 1 [(1, .int 0), (0, .ref (a 0))] g dX5_anywhere_1 rfl (by decide) rfl ?_
  refine zv_iconst (pc := 2) g dX5_anywhere_2 (v := 0) (by decide) ?_
  refine zv_istore_n (pc := 3) 2 [(2, .int 0), (1, .int 0), (0, .ref (a 0))] g dX5_anywhere_3 rfl (by decide) rfl ?_
  obtain ⟨f4, h⟩ := h
  refine zv_sub [2, 1, 0] rfl ?_
  exact lX5_anywhere_4 g hR f4 _ _ h
def wX5_heldByAny_4 (post : Int32 → Prop) (S : MSt) : Nat → (Int32) → (Int32) → Prop
  | 0, _, _ => False
  | f0 + 1, x1, x2 => vp_in 2 51 ∧ (((m_row S (Int32.toNatClampNeg 2)) ≤ x2 → post x1) ∧ (¬ (m_row S (Int32.toNatClampNeg 2)) ≤ x2 → wX5_its (fun v2 => ∀ y3 : Int32, y3 = (x1 ||| v2) → (wX5_heldByAny_4 post S f0 y3 (x2 + 1))) S x2 1))
set_option maxRecDepth 100000 in
set_option maxHeartbeats 4000000 in
theorem lX5_heldByAny_4 {β : zz_B} {Γ : zz_X} {a : Nat → Nat} {post : Int32 → Prop} {S : MSt} (g : zG β 3 Γ cX5_heldByAny RX5 1 22) (hR : zR β Γ (some .int) (fun r w => ∃ v : Int32, r = some (.int v) ∧ w = ((mW β a) S) ∧ post v)) : ∀ (f0 : Nat) (x1 : Int32) (x2 : Int32) , wX5_heldByAny_4 post S f0 x1 x2 → zV β 3 Γ ((mW β a) S) 4 [(0, .ref (a 0)), (1, .int x1), (2, .int x2)] [] := by
  intro f0
  induction f0 with
  | zero => intro x1 x2 h; exact h.elim
  | succ f0 ih0 =>
    intro x1 x2 h
    rw [wX5_heldByAny_4] at h
    refine zv_iload_n (pc := 4) g dX5_heldByAny_4 2 rfl rfl ?_
    refine zv_aload_n (pc := 5) g dX5_heldByAny_5 0 rfl rfl ?_
    refine zv_get (pc := 6) g fl_X5_7 0 rfl rfl dX5_heldByAny_6 ?_
    refine zv_iconst (pc := 9) g dX5_heldByAny_9 (v := 2) (by decide) ?_
    obtain ⟨hi, h⟩ := h
    refine zv_iald (pc := 10) g 1 rfl hi dX5_heldByAny_10 ?_
    refine zv_icmp_ge (pc := 11) 29 g dX5_heldByAny_11 rfl (fun c1 => ?_) (fun c1 => ?_)
    · replace h := h.1 c1
      refine zv_iload_n (pc := 29) g dX5_heldByAny_29 1 rfl rfl ?_
      exact zv_iret (pc := 30) g hR dX5_heldByAny_30 ⟨_, rfl, rfl, h⟩
    · replace h := h.2 c1
      refine zv_iload_n (pc := 14) g dX5_heldByAny_14 1 rfl rfl ?_
      refine zv_aload_n (pc := 15) g dX5_heldByAny_15 0 rfl rfl ?_
      refine zv_iload_n (pc := 16) g dX5_heldByAny_16 2 rfl rfl ?_
      refine zv_iconst (pc := 17) g dX5_heldByAny_17 (v := 1) (by decide) ?_
      refine zv_cVp (pc := 18) g cw_X5_65 (ctX5_its h) (by decide) (by decide) zz_p0 (q := 0) rfl rfl rfl rfl rfl (Nat.le_of_ble_eq_true rfl) dX5_heldByAny_18 (fun v2 h => ?_)
      refine zv_ior (pc := 21) g dX5_heldByAny_21 ?_
      refine zv_topi (fun y3 ey3 => ?_)
      replace h := h y3 ey3
      refine zv_istore_n (pc := 22) 1 [(1, .int y3), (0, .ref (a 0)), (2, .int x2)] g dX5_heldByAny_22 rfl (by decide) rfl ?_
      refine zv_iinc (pc := 23) 1 [(2, .int (x2 + 1)), (1, .int y3), (0, .ref (a 0))] g dX5_heldByAny_23 2 rfl (by decide) (by decide) rfl ?_
      refine zv_goto (pc := 26) 4 g dX5_heldByAny_26 rfl ?_
      refine zv_sub [2, 1, 0] rfl ?_
      exact ih0 _ _ h
def wX5_heldByAny (post : Int32 → Prop) (S : MSt) : Prop := ∃ f4 : Nat, wX5_heldByAny_4 post S f4 0 0
set_option maxRecDepth 100000 in
set_option maxHeartbeats 4000000 in
theorem ctX5_heldByAny {β : zz_B} {a : Nat → Nat} {post : Int32 → Prop} {S : MSt} (h : wX5_heldByAny post S) : zCp β yX5_heldByAny cX5_heldByAny 3 (some .int) 1 22 [.ref (a 0)] ((mW β a) S) post := by
  unfold wX5_heldByAny at h
  unfold zCp
  refine zC.of (by decide) (Nat.le_of_ble_eq_true rfl) ?_
  intro Γ g hR
  show zV β 3 Γ ((mW β a) S) 0 [(0, .ref (a 0))] []
  refine zv_iconst (pc := 0) g dX5_heldByAny_0 (v := 0) (by decide) ?_
  refine zv_istore_n (pc := 1) 1 [(1, .int 0), (0, .ref (a 0))] g dX5_heldByAny_1 rfl (by decide) rfl ?_
  refine zv_iconst (pc := 2) g dX5_heldByAny_2 (v := 0) (by decide) ?_
  refine zv_istore_n (pc := 3) 2 [(2, .int 0), (1, .int 0), (0, .ref (a 0))] g dX5_heldByAny_3 rfl (by decide) rfl ?_
  obtain ⟨f4, h⟩ := h
  refine zv_sub [2, 1, 0] rfl ?_
  exact lX5_heldByAny_4 g hR f4 _ _ h
def wX5_now (post : Int32 → (MSt) → Prop) (S : MSt) (x1 : Int32) : Prop := (x1 = 0 → vp_in 0 51 ∧ (post (m_row S (Int32.toNatClampNeg 0)) S)) ∧ (x1 = 1 → vp_in 1 51 ∧ (post (m_row S (Int32.toNatClampNeg 1)) S)) ∧ (x1 = 2 → wX5_dustOfAll (fun v2 => post v2 S) S) ∧ (x1 = 3 → wX5_common (fun v3 => post v3 S) S) ∧ (x1 = 4 → wX5_anywhere (fun v4 => post v4 S) S) ∧ (x1 = 5 → wX5_heldByAny (fun v5 => post v5 S) S) ∧ (((x1).toInt < 0 ∨ 5 < (x1).toInt) → wX5_finds (fun v6 S7 => post v6 S7) S (-1000000001))
set_option maxRecDepth 100000 in
set_option maxHeartbeats 4000000 in
theorem ctX5_now {β : zz_B} {a : Nat → Nat} {post : Int32 → (MSt) → Prop} {S : MSt} {x1 : Int32} (h : wX5_now post S x1) : zCi β yX5_now cX5_now 2 (some .int) 2 44 [.ref (a 0), .int x1] (mW β a) S post := by
  unfold wX5_now at h
  unfold zCi
  refine zC.of (by decide) (Nat.le_of_ble_eq_true rfl) ?_
  intro Γ g hR
  show zV β 2 Γ ((mW β a) S) 0 [(0, .ref (a 0)), (1, .int x1)] []
  refine zv_iload_n (pc := 0) g dX5_now_0 1 rfl rfl ?_
  rcases zz_ts_0_5 x1 with c1 | c1 | c1 | c1 | c1 | c1 | c1
  · refine zv_tblIn (pc := 1) 0 40 g dX5_now_1 c1 (by decide) (by decide) rfl rfl ?_
    replace h := h.1 c1
    refine zv_aload_n (pc := 40) g dX5_now_40 0 rfl rfl ?_
    refine zv_get (pc := 41) g fl_X5_7 0 rfl rfl dX5_now_41 ?_
    refine zv_iconst (pc := 44) g dX5_now_44 (v := 0) (by decide) ?_
    obtain ⟨hi, h⟩ := h
    refine zv_iald (pc := 45) g 1 rfl hi dX5_now_45 ?_
    exact zv_iret (pc := 46) g hR dX5_now_46 ⟨_, _, rfl, rfl, h⟩
  · refine zv_tblIn (pc := 1) 1 47 g dX5_now_1 c1 (by decide) (by decide) rfl rfl ?_
    replace h := h.2.1 c1
    refine zv_aload_n (pc := 47) g dX5_now_47 0 rfl rfl ?_
    refine zv_get (pc := 48) g fl_X5_7 0 rfl rfl dX5_now_48 ?_
    refine zv_iconst (pc := 51) g dX5_now_51 (v := 1) (by decide) ?_
    obtain ⟨hi, h⟩ := h
    refine zv_iald (pc := 52) g 1 rfl hi dX5_now_52 ?_
    exact zv_iret (pc := 53) g hR dX5_now_53 ⟨_, _, rfl, rfl, h⟩
  · refine zv_tblIn (pc := 1) 2 54 g dX5_now_1 c1 (by decide) (by decide) rfl rfl ?_
    replace h := h.2.2.1 c1
    refine zv_aload_n (pc := 54) g dX5_now_54 0 rfl rfl ?_
    refine zv_cVp (pc := 55) g cw_X5_80 (ctX5_dustOfAll h) (by decide) (by decide) zz_p0 (q := 0) rfl rfl rfl rfl rfl (Nat.le_of_ble_eq_true rfl) dX5_now_55 (fun v2 h => ?_)
    exact zv_iret (pc := 58) g hR dX5_now_58 ⟨_, _, rfl, rfl, h⟩
  · refine zv_tblIn (pc := 1) 3 59 g dX5_now_1 c1 (by decide) (by decide) rfl rfl ?_
    replace h := h.2.2.2.1 c1
    refine zv_aload_n (pc := 59) g dX5_now_59 0 rfl rfl ?_
    refine zv_cVp (pc := 60) g cw_X5_84 (ctX5_common h) (by decide) (by decide) zz_p0 (q := 0) rfl rfl rfl rfl rfl (Nat.le_of_ble_eq_true rfl) dX5_now_60 (fun v3 h => ?_)
    exact zv_iret (pc := 63) g hR dX5_now_63 ⟨_, _, rfl, rfl, h⟩
  · refine zv_tblIn (pc := 1) 4 64 g dX5_now_1 c1 (by decide) (by decide) rfl rfl ?_
    replace h := h.2.2.2.2.1 c1
    refine zv_aload_n (pc := 64) g dX5_now_64 0 rfl rfl ?_
    refine zv_cVp (pc := 65) g cw_X5_87 (ctX5_anywhere h) (by decide) (by decide) zz_p0 (q := 0) rfl rfl rfl rfl rfl (Nat.le_of_ble_eq_true rfl) dX5_now_65 (fun v4 h => ?_)
    exact zv_iret (pc := 68) g hR dX5_now_68 ⟨_, _, rfl, rfl, h⟩
  · refine zv_tblIn (pc := 1) 5 69 g dX5_now_1 c1 (by decide) (by decide) rfl rfl ?_
    replace h := h.2.2.2.2.2.1 c1
    refine zv_aload_n (pc := 69) g dX5_now_69 0 rfl rfl ?_
    refine zv_cVp (pc := 70) g cw_X5_90 (ctX5_heldByAny h) (by decide) (by decide) zz_p0 (q := 0) rfl rfl rfl rfl rfl (Nat.le_of_ble_eq_true rfl) dX5_now_70 (fun v5 h => ?_)
    exact zv_iret (pc := 73) g hR dX5_now_73 ⟨_, _, rfl, rfl, h⟩
  · refine zv_tblOut (pc := 1) 74 g dX5_now_1 c1 rfl ?_
    replace h := h.2.2.2.2.2.2 c1
    refine zv_aload_n (pc := 74) g dX5_now_74 0 rfl rfl ?_
    refine zv_ldc (pc := 75) g wd_744 dX5_now_75 ?_
    refine zv_cVi (pc := 77) g cw_X5_57 (ctX5_finds h) (by decide) (by decide) zz_p0 (mW β a) (fun T => zz_p1 T) (q := 0) rfl rfl rfl rfl rfl (Nat.le_of_ble_eq_true rfl) dX5_now_77 (fun v6 S7 h => ?_)
    exact zv_iret (pc := 80) g hR dX5_now_80 ⟨_, _, rfl, rfl, h⟩
def wX5_wipes_28 (post : Int32 → Prop) (S : MSt) (x1 : Int32) (x3 : Int32) (s0 : Int32) : Prop := wX5_its (fun v4 => (v4 = 1 → post (x3 + 3)) ∧ (v4 = 2 → post s0) ∧ (v4 = 3 → post 9) ∧ (v4 = 4 → post (x3 - 2)) ∧ (v4 = 5 → post (s0 - 1)) ∧ (((v4).toInt < 1 ∨ 5 < (v4).toInt) → post x3)) S x1 0
set_option maxRecDepth 100000 in
set_option maxHeartbeats 4000000 in
theorem lX5_wipes_28 {β : zz_B} {Γ : zz_X} {a : Nat → Nat} {post : Int32 → Prop} {S : MSt} (g : zG β 5 Γ cX5_wipes RX5 1 22) (hR : zR β Γ (some .int) (fun r w => ∃ v : Int32, r = some (.int v) ∧ w = ((mW β a) S) ∧ post v)) (x1 : Int32) (x3 : Int32) (s0 : Int32) (h : wX5_wipes_28 post S x1 x3 s0) : zV β 5 Γ ((mW β a) S) 28 [(0, .ref (a 0)), (1, .int x1), (3, .int x3)] [.int s0] := by
  unfold wX5_wipes_28 at h
  refine zv_istore (pc := 28) [(4, .int s0), (0, .ref (a 0)), (1, .int x1), (3, .int x3)] g dX5_wipes_28 (by decide) rfl ?_
  refine zv_aload_n (pc := 30) g dX5_wipes_30 1 rfl rfl ?_
  refine zv_iload_n (pc := 31) g dX5_wipes_31 2 rfl rfl ?_
  refine zv_iconst (pc := 32) g dX5_wipes_32 (v := 0) (by decide) ?_
  refine zv_cVp (pc := 33) g cw_X5_65 (ctX5_its h) (by decide) (by decide) zz_p0 (q := 0) rfl rfl rfl rfl rfl (Nat.le_of_ble_eq_true rfl) dX5_wipes_33 (fun v4 h => ?_)
  rcases zz_ts_1_5 v4 with c5 | c5 | c5 | c5 | c5 | c5
  · refine zv_tblIn (pc := 36) 1 72 g dX5_wipes_36 c5 (by decide) (by decide) rfl rfl ?_
    replace h := h.1 c5
    refine zv_iload_n (pc := 72) g dX5_wipes_72 3 rfl rfl ?_
    refine zv_iconst (pc := 73) g dX5_wipes_73 (v := 3) (by decide) ?_
    refine zv_iadd (pc := 74) g dX5_wipes_74 ?_
    exact zv_iret (pc := 75) g hR dX5_wipes_75 ⟨_, rfl, rfl, h⟩
  · refine zv_tblIn (pc := 36) 2 80 g dX5_wipes_36 c5 (by decide) (by decide) rfl rfl ?_
    replace h := h.2.1 c5
    refine zv_iload (pc := 80) g dX5_wipes_80 0 rfl ?_
    exact zv_iret (pc := 82) g hR dX5_wipes_82 ⟨_, rfl, rfl, h⟩
  · refine zv_tblIn (pc := 36) 3 88 g dX5_wipes_36 c5 (by decide) (by decide) rfl rfl ?_
    replace h := h.2.2.1 c5
    refine zv_bipush (pc := 88) g dX5_wipes_88 (v := 9) (by decide) ?_
    exact zv_iret (pc := 90) g hR dX5_wipes_90 ⟨_, rfl, rfl, h⟩
  · refine zv_tblIn (pc := 36) 4 76 g dX5_wipes_36 c5 (by decide) (by decide) rfl rfl ?_
    replace h := h.2.2.2.1 c5
    refine zv_iload_n (pc := 76) g dX5_wipes_76 3 rfl rfl ?_
    refine zv_iconst (pc := 77) g dX5_wipes_77 (v := 2) (by decide) ?_
    refine zv_isub (pc := 78) g dX5_wipes_78 ?_
    exact zv_iret (pc := 79) g hR dX5_wipes_79 ⟨_, rfl, rfl, h⟩
  · refine zv_tblIn (pc := 36) 5 83 g dX5_wipes_36 c5 (by decide) (by decide) rfl rfl ?_
    replace h := h.2.2.2.2.1 c5
    refine zv_iload (pc := 83) g dX5_wipes_83 0 rfl ?_
    refine zv_iconst (pc := 85) g dX5_wipes_85 (v := 1) (by decide) ?_
    refine zv_isub (pc := 86) g dX5_wipes_86 ?_
    exact zv_iret (pc := 87) g hR dX5_wipes_87 ⟨_, rfl, rfl, h⟩
  · refine zv_tblOut (pc := 36) 91 g dX5_wipes_36 c5 rfl ?_
    replace h := h.2.2.2.2.2 c5
    refine zv_iload_n (pc := 91) g dX5_wipes_91 3 rfl rfl ?_
    exact zv_iret (pc := 92) g hR dX5_wipes_92 ⟨_, rfl, rfl, h⟩
def wX5_wipes (post : Int32 → Prop) (S : MSt) (x1 : Int32) : Prop := wX5_its (fun v1 => ∀ y2 : Int32, y2 = (12 - (v1 / 10)) → (((20 : Int32) ≤ v1 → wX5_wipes_28 post S x1 y2 y2) ∧ (¬ (20 : Int32) ≤ v1 → wX5_wipes_28 post S x1 y2 (2 * y2)))) S x1 2
set_option maxRecDepth 100000 in
set_option maxHeartbeats 4000000 in
theorem ctX5_wipes {β : zz_B} {a : Nat → Nat} {post : Int32 → Prop} {S : MSt} {x1 : Int32} (h : wX5_wipes post S x1) : zCp β yX5_wipes cX5_wipes 5 (some .int) 1 22 [.ref (a 0), .int x1] ((mW β a) S) post := by
  unfold wX5_wipes at h
  unfold zCp
  refine zC.of (by decide) (Nat.le_of_ble_eq_true rfl) ?_
  intro Γ g hR
  show zV β 5 Γ ((mW β a) S) 0 [(0, .ref (a 0)), (1, .int x1)] []
  refine zv_aload_n (pc := 0) g dX5_wipes_0 0 rfl rfl ?_
  refine zv_iload_n (pc := 1) g dX5_wipes_1 1 rfl rfl ?_
  refine zv_iconst (pc := 2) g dX5_wipes_2 (v := 2) (by decide) ?_
  refine zv_cVp (pc := 3) g cw_X5_65 (ctX5_its h) (by decide) (by decide) zz_p0 (q := 0) rfl rfl rfl rfl rfl (Nat.le_of_ble_eq_true rfl) dX5_wipes_3 (fun v1 h => ?_)
  refine zv_istore_n (pc := 6) 2 [(2, .int v1), (0, .ref (a 0)), (1, .int x1)] g dX5_wipes_6 rfl (by decide) rfl ?_
  refine zv_bipush (pc := 7) g dX5_wipes_7 (v := 12) (by decide) ?_
  refine zv_iload_n (pc := 9) g dX5_wipes_9 0 rfl rfl ?_
  refine zv_bipush (pc := 10) g dX5_wipes_10 (v := 10) (by decide) ?_
  refine zv_idiv (pc := 12) g dX5_wipes_12 (by decide) ?_
  refine zv_isub (pc := 13) g dX5_wipes_13 ?_
  refine zv_topi (fun y2 ey2 => ?_)
  replace h := h y2 ey2
  refine zv_istore_n (pc := 14) 3 [(3, .int y2), (2, .int v1), (0, .ref (a 0)), (1, .int x1)] g dX5_wipes_14 rfl (by decide) rfl ?_
  refine zv_iload_n (pc := 15) g dX5_wipes_15 1 rfl rfl ?_
  refine zv_bipush (pc := 16) g dX5_wipes_16 (v := 20) (by decide) ?_
  refine zv_icmp_ge (pc := 18) 27 g dX5_wipes_18 rfl (fun c3 => ?_) (fun c3 => ?_)
  · replace h := h.1 c3
    refine zv_iload_n (pc := 27) g dX5_wipes_27 0 rfl rfl ?_
    refine zv_sub [2, 3, 0] rfl ?_
    exact lX5_wipes_28 g hR _ _ _ h
  · replace h := h.2 c3
    refine zv_iconst (pc := 21) g dX5_wipes_21 (v := 2) (by decide) ?_
    refine zv_iload_n (pc := 22) g dX5_wipes_22 0 rfl rfl ?_
    refine zv_imul (pc := 23) g dX5_wipes_23 ?_
    refine zv_goto (pc := 24) 28 g dX5_wipes_24 rfl ?_
    refine zv_sub [2, 3, 0] rfl ?_
    exact lX5_wipes_28 g hR _ _ _ h
def wX5_takesUp (post : Int32 → Prop) (S : MSt) (x1 : Int32) : Prop := wX5_its (fun v1 => (v1 = 1 → post 2) ∧ (v1 = 2 → wX5_its (fun v3 => (v3 ≤ (60 : Int32) → post 1) ∧ (¬ v3 ≤ (60 : Int32) → post 0)) S x1 2) ∧ (v1 = 3 → post 9) ∧ (v1 = 4 → post 2) ∧ (v1 = 5 → post 0) ∧ (((v1).toInt < 1 ∨ 5 < (v1).toInt) → post 1)) S x1 0
set_option maxRecDepth 100000 in
set_option maxHeartbeats 4000000 in
theorem ctX5_takesUp {β : zz_B} {a : Nat → Nat} {post : Int32 → Prop} {S : MSt} {x1 : Int32} (h : wX5_takesUp post S x1) : zCp β yX5_takesUp cX5_takesUp 2 (some .int) 1 22 [.ref (a 0), .int x1] ((mW β a) S) post := by
  unfold wX5_takesUp at h
  unfold zCp
  refine zC.of (by decide) (Nat.le_of_ble_eq_true rfl) ?_
  intro Γ g hR
  show zV β 2 Γ ((mW β a) S) 0 [(0, .ref (a 0)), (1, .int x1)] []
  refine zv_aload_n (pc := 0) g dX5_takesUp_0 0 rfl rfl ?_
  refine zv_iload_n (pc := 1) g dX5_takesUp_1 1 rfl rfl ?_
  refine zv_iconst (pc := 2) g dX5_takesUp_2 (v := 0) (by decide) ?_
  refine zv_cVp (pc := 3) g cw_X5_65 (ctX5_its h) (by decide) (by decide) zz_p0 (q := 0) rfl rfl rfl rfl rfl (Nat.le_of_ble_eq_true rfl) dX5_takesUp_3 (fun v1 h => ?_)
  rcases zz_ts_1_5 v1 with c2 | c2 | c2 | c2 | c2 | c2
  · refine zv_tblIn (pc := 6) 1 40 g dX5_takesUp_6 c2 (by decide) (by decide) rfl rfl ?_
    replace h := h.1 c2
    refine zv_iconst (pc := 40) g dX5_takesUp_40 (v := 2) (by decide) ?_
    exact zv_iret (pc := 41) g hR dX5_takesUp_41 ⟨_, rfl, rfl, h⟩
  · refine zv_tblIn (pc := 6) 2 42 g dX5_takesUp_6 c2 (by decide) (by decide) rfl rfl ?_
    replace h := h.2.1 c2
    refine zv_aload_n (pc := 42) g dX5_takesUp_42 0 rfl rfl ?_
    refine zv_iload_n (pc := 43) g dX5_takesUp_43 1 rfl rfl ?_
    refine zv_iconst (pc := 44) g dX5_takesUp_44 (v := 2) (by decide) ?_
    refine zv_cVp (pc := 45) g cw_X5_65 (ctX5_its h) (by decide) (by decide) zz_p0 (q := 0) rfl rfl rfl rfl rfl (Nat.le_of_ble_eq_true rfl) dX5_takesUp_45 (fun v3 h => ?_)
    refine zv_bipush (pc := 48) g dX5_takesUp_48 (v := 60) (by decide) ?_
    refine zv_icmp_le (pc := 50) 57 g dX5_takesUp_50 rfl (fun c4 => ?_) (fun c4 => ?_)
    · replace h := h.1 c4
      refine zv_iconst (pc := 57) g dX5_takesUp_57 (v := 1) (by decide) ?_
      exact zv_iret (pc := 58) g hR dX5_takesUp_58 ⟨_, rfl, rfl, h⟩
    · replace h := h.2 c4
      refine zv_iconst (pc := 53) g dX5_takesUp_53 (v := 0) (by decide) ?_
      refine zv_goto (pc := 54) 58 g dX5_takesUp_54 rfl ?_
      exact zv_iret (pc := 58) g hR dX5_takesUp_58 ⟨_, rfl, rfl, h⟩
  · refine zv_tblIn (pc := 6) 3 59 g dX5_takesUp_6 c2 (by decide) (by decide) rfl rfl ?_
    replace h := h.2.2.1 c2
    refine zv_bipush (pc := 59) g dX5_takesUp_59 (v := 9) (by decide) ?_
    exact zv_iret (pc := 61) g hR dX5_takesUp_61 ⟨_, rfl, rfl, h⟩
  · refine zv_tblIn (pc := 6) 4 40 g dX5_takesUp_6 c2 (by decide) (by decide) rfl rfl ?_
    replace h := h.2.2.2.1 c2
    refine zv_iconst (pc := 40) g dX5_takesUp_40 (v := 2) (by decide) ?_
    exact zv_iret (pc := 41) g hR dX5_takesUp_41 ⟨_, rfl, rfl, h⟩
  · refine zv_tblIn (pc := 6) 5 62 g dX5_takesUp_6 c2 (by decide) (by decide) rfl rfl ?_
    replace h := h.2.2.2.2.1 c2
    refine zv_iconst (pc := 62) g dX5_takesUp_62 (v := 0) (by decide) ?_
    exact zv_iret (pc := 63) g hR dX5_takesUp_63 ⟨_, rfl, rfl, h⟩
  · refine zv_tblOut (pc := 6) 64 g dX5_takesUp_6 c2 rfl ?_
    replace h := h.2.2.2.2.2 c2
    refine zv_iconst (pc := 64) g dX5_takesUp_64 (v := 1) (by decide) ?_
    exact zv_iret (pc := 65) g hR dX5_takesUp_65 ⟨_, rfl, rfl, h⟩
def wX5_leaves (post : Int32 → Prop) (S : MSt) (x1 : Int32) : Prop := wX5_its (fun v1 => ∀ y2 : Int32, y2 = (v1 / 25) → (wX5_its (fun v3 => (v3 = 1 → post (y2 + 1)) ∧ (v3 = 2 → post y2) ∧ (v3 = 3 → (y2 ≤ 0 → post 0) ∧ (¬ y2 ≤ 0 → post (y2 - 1))) ∧ (v3 = 4 → post (2 * (y2 + 1))) ∧ (v3 = 5 → wX5_its (fun v6 => (¬ v6 = 0 → post y2) ∧ (v6 = 0 → post (y2 + 1))) S x1 2) ∧ (((v3).toInt < 1 ∨ 5 < (v3).toInt) → post y2)) S x1 0)) S x1 2
set_option maxRecDepth 100000 in
set_option maxHeartbeats 4000000 in
theorem ctX5_leaves {β : zz_B} {a : Nat → Nat} {post : Int32 → Prop} {S : MSt} {x1 : Int32} (h : wX5_leaves post S x1) : zCp β yX5_leaves cX5_leaves 3 (some .int) 1 22 [.ref (a 0), .int x1] ((mW β a) S) post := by
  unfold wX5_leaves at h
  unfold zCp
  refine zC.of (by decide) (Nat.le_of_ble_eq_true rfl) ?_
  intro Γ g hR
  show zV β 3 Γ ((mW β a) S) 0 [(0, .ref (a 0)), (1, .int x1)] []
  refine zv_aload_n (pc := 0) g dX5_leaves_0 0 rfl rfl ?_
  refine zv_iload_n (pc := 1) g dX5_leaves_1 1 rfl rfl ?_
  refine zv_iconst (pc := 2) g dX5_leaves_2 (v := 2) (by decide) ?_
  refine zv_cVp (pc := 3) g cw_X5_65 (ctX5_its h) (by decide) (by decide) zz_p0 (q := 0) rfl rfl rfl rfl rfl (Nat.le_of_ble_eq_true rfl) dX5_leaves_3 (fun v1 h => ?_)
  refine zv_bipush (pc := 6) g dX5_leaves_6 (v := 25) (by decide) ?_
  refine zv_idiv (pc := 8) g dX5_leaves_8 (by decide) ?_
  refine zv_topi (fun y2 ey2 => ?_)
  replace h := h y2 ey2
  refine zv_istore_n (pc := 9) 2 [(2, .int y2), (0, .ref (a 0)), (1, .int x1)] g dX5_leaves_9 rfl (by decide) rfl ?_
  refine zv_aload_n (pc := 10) g dX5_leaves_10 1 rfl rfl ?_
  refine zv_iload_n (pc := 11) g dX5_leaves_11 2 rfl rfl ?_
  refine zv_iconst (pc := 12) g dX5_leaves_12 (v := 0) (by decide) ?_
  refine zv_cVp (pc := 13) g cw_X5_65 (ctX5_its h) (by decide) (by decide) zz_p0 (q := 0) rfl rfl rfl rfl rfl (Nat.le_of_ble_eq_true rfl) dX5_leaves_13 (fun v3 h => ?_)
  rcases zz_ts_1_5 v3 with c4 | c4 | c4 | c4 | c4 | c4
  · refine zv_tblIn (pc := 16) 1 52 g dX5_leaves_16 c4 (by decide) (by decide) rfl rfl ?_
    replace h := h.1 c4
    refine zv_iload_n (pc := 52) g dX5_leaves_52 0 rfl rfl ?_
    refine zv_iconst (pc := 53) g dX5_leaves_53 (v := 1) (by decide) ?_
    refine zv_iadd (pc := 54) g dX5_leaves_54 ?_
    exact zv_iret (pc := 55) g hR dX5_leaves_55 ⟨_, rfl, rfl, h⟩
  · refine zv_tblIn (pc := 16) 2 91 g dX5_leaves_16 c4 (by decide) (by decide) rfl rfl ?_
    replace h := h.2.1 c4
    refine zv_iload_n (pc := 91) g dX5_leaves_91 0 rfl rfl ?_
    exact zv_iret (pc := 92) g hR dX5_leaves_92 ⟨_, rfl, rfl, h⟩
  · refine zv_tblIn (pc := 16) 3 62 g dX5_leaves_16 c4 (by decide) (by decide) rfl rfl ?_
    replace h := h.2.2.1 c4
    refine zv_iload_n (pc := 62) g dX5_leaves_62 0 rfl rfl ?_
    refine zv_if_le (pc := 63) 72 g dX5_leaves_63 rfl (fun c5 => ?_) (fun c5 => ?_)
    · replace h := h.1 c5
      refine zv_iconst (pc := 72) g dX5_leaves_72 (v := 0) (by decide) ?_
      exact zv_iret (pc := 73) g hR dX5_leaves_73 ⟨_, rfl, rfl, h⟩
    · replace h := h.2 c5
      refine zv_iload_n (pc := 66) g dX5_leaves_66 0 rfl rfl ?_
      refine zv_iconst (pc := 67) g dX5_leaves_67 (v := 1) (by decide) ?_
      refine zv_isub (pc := 68) g dX5_leaves_68 ?_
      refine zv_goto (pc := 69) 73 g dX5_leaves_69 rfl ?_
      exact zv_iret (pc := 73) g hR dX5_leaves_73 ⟨_, rfl, rfl, h⟩
  · refine zv_tblIn (pc := 16) 4 56 g dX5_leaves_16 c4 (by decide) (by decide) rfl rfl ?_
    replace h := h.2.2.2.1 c4
    refine zv_iconst (pc := 56) g dX5_leaves_56 (v := 2) (by decide) ?_
    refine zv_iload_n (pc := 57) g dX5_leaves_57 0 rfl rfl ?_
    refine zv_iconst (pc := 58) g dX5_leaves_58 (v := 1) (by decide) ?_
    refine zv_iadd (pc := 59) g dX5_leaves_59 ?_
    refine zv_imul (pc := 60) g dX5_leaves_60 ?_
    exact zv_iret (pc := 61) g hR dX5_leaves_61 ⟨_, rfl, rfl, h⟩
  · refine zv_tblIn (pc := 16) 5 74 g dX5_leaves_16 c4 (by decide) (by decide) rfl rfl ?_
    replace h := h.2.2.2.2.1 c4
    refine zv_aload_n (pc := 74) g dX5_leaves_74 1 rfl rfl ?_
    refine zv_iload_n (pc := 75) g dX5_leaves_75 2 rfl rfl ?_
    refine zv_iconst (pc := 76) g dX5_leaves_76 (v := 2) (by decide) ?_
    refine zv_cVp (pc := 77) g cw_X5_65 (ctX5_its h) (by decide) (by decide) zz_p0 (q := 0) rfl rfl rfl rfl rfl (Nat.le_of_ble_eq_true rfl) dX5_leaves_77 (fun v6 h => ?_)
    refine zv_if_ne (pc := 80) 89 g dX5_leaves_80 rfl (fun c7 => ?_) (fun c7 => ?_)
    · replace h := h.1 c7
      refine zv_iload_n (pc := 89) g dX5_leaves_89 0 rfl rfl ?_
      exact zv_iret (pc := 90) g hR dX5_leaves_90 ⟨_, rfl, rfl, h⟩
    · replace h := h.2 c7
      refine zv_iload_n (pc := 83) g dX5_leaves_83 0 rfl rfl ?_
      refine zv_iconst (pc := 84) g dX5_leaves_84 (v := 1) (by decide) ?_
      refine zv_iadd (pc := 85) g dX5_leaves_85 ?_
      refine zv_goto (pc := 86) 90 g dX5_leaves_86 rfl ?_
      exact zv_iret (pc := 90) g hR dX5_leaves_90 ⟨_, rfl, rfl, h⟩
  · refine zv_tblOut (pc := 16) 91 g dX5_leaves_16 c4 rfl ?_
    replace h := h.2.2.2.2.2 c4
    refine zv_iload_n (pc := 91) g dX5_leaves_91 0 rfl rfl ?_
    exact zv_iret (pc := 92) g hR dX5_leaves_92 ⟨_, rfl, rfl, h⟩
def wX5_isKeeping (post : Int32 → Prop) (S : MSt) (x1 : Int32) : Prop := wX5_its (fun v1 => (¬ v1 = (5 : Int32) → (v1 = (2 : Int32) → post 0) ∧ (¬ v1 = (2 : Int32) → post 1)) ∧ (v1 = (5 : Int32) → wX5_its (fun v4 => wX5_bits (fun v5 => (v5 < (5 : Int32) → post 0) ∧ (¬ v5 < (5 : Int32) → post 1)) v4) S x1 1)) S x1 0
set_option maxRecDepth 100000 in
set_option maxHeartbeats 4000000 in
theorem ctX5_isKeeping {β : zz_B} {a : Nat → Nat} {post : Int32 → Prop} {S : MSt} {x1 : Int32} (h : wX5_isKeeping post S x1) : zCp β yX5_isKeeping cX5_isKeeping 3 (some .boolean) 1 22 [.ref (a 0), .int x1] ((mW β a) S) post := by
  unfold wX5_isKeeping at h
  unfold zCp
  refine zC.of (by decide) (Nat.le_of_ble_eq_true rfl) ?_
  intro Γ g hR
  show zV β 3 Γ ((mW β a) S) 0 [(0, .ref (a 0)), (1, .int x1)] []
  refine zv_aload_n (pc := 0) g dX5_isKeeping_0 0 rfl rfl ?_
  refine zv_iload_n (pc := 1) g dX5_isKeeping_1 1 rfl rfl ?_
  refine zv_iconst (pc := 2) g dX5_isKeeping_2 (v := 0) (by decide) ?_
  refine zv_cVp (pc := 3) g cw_X5_65 (ctX5_its h) (by decide) (by decide) zz_p0 (q := 0) rfl rfl rfl rfl rfl (Nat.le_of_ble_eq_true rfl) dX5_isKeeping_3 (fun v1 h => ?_)
  refine zv_istore_n (pc := 6) 2 [(2, .int v1), (0, .ref (a 0)), (1, .int x1)] g dX5_isKeeping_6 rfl (by decide) rfl ?_
  refine zv_iload_n (pc := 7) g dX5_isKeeping_7 0 rfl rfl ?_
  refine zv_iconst (pc := 8) g dX5_isKeeping_8 (v := 5) (by decide) ?_
  refine zv_icmp_ne (pc := 9) 33 g dX5_isKeeping_9 rfl (fun c2 => ?_) (fun c2 => ?_)
  · replace h := h.1 c2
    refine zv_iload_n (pc := 33) g dX5_isKeeping_33 0 rfl rfl ?_
    refine zv_iconst (pc := 34) g dX5_isKeeping_34 (v := 2) (by decide) ?_
    refine zv_icmp_eq (pc := 35) 42 g dX5_isKeeping_35 rfl (fun c3 => ?_) (fun c3 => ?_)
    · replace h := h.1 c3
      refine zv_iconst (pc := 42) g dX5_isKeeping_42 (v := 0) (by decide) ?_
      exact zv_zret (pc := 43) g hR (by decide) dX5_isKeeping_43 ⟨_, rfl, rfl, h⟩
    · replace h := h.2 c3
      refine zv_iconst (pc := 38) g dX5_isKeeping_38 (v := 1) (by decide) ?_
      refine zv_goto (pc := 39) 43 g dX5_isKeeping_39 rfl ?_
      exact zv_zret (pc := 43) g hR (by decide) dX5_isKeeping_43 ⟨_, rfl, rfl, h⟩
  · replace h := h.2 c2
    refine zv_aload_n (pc := 12) g dX5_isKeeping_12 1 rfl rfl ?_
    refine zv_iload_n (pc := 13) g dX5_isKeeping_13 2 rfl rfl ?_
    refine zv_iconst (pc := 14) g dX5_isKeeping_14 (v := 1) (by decide) ?_
    refine zv_cVp (pc := 15) g cw_X5_65 (ctX5_its h) (by decide) (by decide) zz_p0 (q := 0) rfl rfl rfl rfl rfl (Nat.le_of_ble_eq_true rfl) dX5_isKeeping_15 (fun v4 h => ?_)
    refine zv_cSp (pc := 18) g cw_X5_77 (ctX5_bits h) (by decide) (by decide) zz_pN rfl rfl (Nat.le_of_ble_eq_true rfl) dX5_isKeeping_18 (fun v5 h => ?_)
    refine zv_iconst (pc := 21) g dX5_isKeeping_21 (v := 5) (by decide) ?_
    refine zv_icmp_lt (pc := 22) 29 g dX5_isKeeping_22 rfl (fun c6 => ?_) (fun c6 => ?_)
    · replace h := h.1 c6
      refine zv_iconst (pc := 29) g dX5_isKeeping_29 (v := 0) (by decide) ?_
      refine zv_goto (pc := 30) 43 g dX5_isKeeping_30 rfl ?_
      exact zv_zret (pc := 43) g hR (by decide) dX5_isKeeping_43 ⟨_, rfl, rfl, h⟩
    · replace h := h.2 c6
      refine zv_iconst (pc := 25) g dX5_isKeeping_25 (v := 1) (by decide) ?_
      refine zv_goto (pc := 26) 43 g dX5_isKeeping_26 rfl ?_
      exact zv_zret (pc := 43) g hR (by decide) dX5_isKeeping_43 ⟨_, rfl, rfl, h⟩
def wX5_adds (post : (MSt) → Prop) (S : MSt) (x1 : Int32) (x2 : Int32) (x3 : Int32) : Prop := vp_in 2 51 ∧ (∀ y1 : Int32, y1 = (m_row S (Int32.toNatClampNeg 2)) → (wX5_puts (fun S2 => wX5_puts (fun S3 => wX5_puts (fun S4 => wX5_puts (fun S5 => vp_in 2 51 ∧ (vp_in 2 51 ∧ (∀ S6 : MSt, S6 = (m_row_s S5 (upd (m_row S5) (Int32.toNatClampNeg 2) ((m_row S5 (Int32.toNatClampNeg 2)) + 1))) → (post S6)))) S4 y1 3 y1) S3 y1 2 x3) S2 y1 1 x2) S y1 0 x1))
set_option maxRecDepth 100000 in
set_option maxHeartbeats 4000000 in
theorem ctX5_adds {β : zz_B} {a : Nat → Nat} {post : (MSt) → Prop} {S : MSt} {x1 : Int32} {x2 : Int32} {x3 : Int32} (h : wX5_adds post S x1 x2 x3) : zCv β yX5_adds cX5_adds 5 none 1 23 [.ref (a 0), .int x1, .int x2, .int x3] (mW β a) S post := by
  unfold wX5_adds at h
  unfold zCv
  refine zC.of (by decide) (Nat.le_of_ble_eq_true rfl) ?_
  intro Γ g hR
  show zV β 5 Γ ((mW β a) S) 0 [(0, .ref (a 0)), (1, .int x1), (2, .int x2), (3, .int x3)] []
  refine zv_aload_n (pc := 0) g dX5_adds_0 0 rfl rfl ?_
  refine zv_get (pc := 1) g fl_X5_7 0 rfl rfl dX5_adds_1 ?_
  refine zv_iconst (pc := 4) g dX5_adds_4 (v := 2) (by decide) ?_
  obtain ⟨hi, h⟩ := h
  refine zv_iald (pc := 5) g 1 rfl hi dX5_adds_5 ?_
  refine zv_topi (fun y1 ey1 => ?_)
  replace h := h y1 ey1
  refine zv_istore (pc := 6) [(4, .int y1), (0, .ref (a 0)), (1, .int x1), (2, .int x2), (3, .int x3)] g dX5_adds_6 (by decide) rfl ?_
  refine zv_aload_n (pc := 8) g dX5_adds_8 1 rfl rfl ?_
  refine zv_iload (pc := 9) g dX5_adds_9 0 rfl ?_
  refine zv_iconst (pc := 11) g dX5_adds_11 (v := 0) (by decide) ?_
  refine zv_iload_n (pc := 12) g dX5_adds_12 2 rfl rfl ?_
  refine zv_cVv (pc := 13) g cw_X5_93 (ctX5_puts h) (by decide) (by decide) zz_p0 (mW β a) (fun T => zz_p1 T) (q := 0) rfl rfl rfl rfl rfl (Nat.le_of_ble_eq_true rfl) dX5_adds_13 (fun S2 h => ?_)
  refine zv_aload_n (pc := 16) g dX5_adds_16 1 rfl rfl ?_
  refine zv_iload (pc := 17) g dX5_adds_17 0 rfl ?_
  refine zv_iconst (pc := 19) g dX5_adds_19 (v := 1) (by decide) ?_
  refine zv_iload_n (pc := 20) g dX5_adds_20 3 rfl rfl ?_
  refine zv_cVv (pc := 21) g cw_X5_93 (ctX5_puts h) (by decide) (by decide) zz_p0 (mW β a) (fun T => zz_p1 T) (q := 0) rfl rfl rfl rfl rfl (Nat.le_of_ble_eq_true rfl) dX5_adds_21 (fun S3 h => ?_)
  refine zv_aload_n (pc := 24) g dX5_adds_24 1 rfl rfl ?_
  refine zv_iload (pc := 25) g dX5_adds_25 0 rfl ?_
  refine zv_iconst (pc := 27) g dX5_adds_27 (v := 2) (by decide) ?_
  refine zv_iload_n (pc := 28) g dX5_adds_28 4 rfl rfl ?_
  refine zv_cVv (pc := 29) g cw_X5_93 (ctX5_puts h) (by decide) (by decide) zz_p0 (mW β a) (fun T => zz_p1 T) (q := 0) rfl rfl rfl rfl rfl (Nat.le_of_ble_eq_true rfl) dX5_adds_29 (fun S4 h => ?_)
  refine zv_aload_n (pc := 32) g dX5_adds_32 1 rfl rfl ?_
  refine zv_iload (pc := 33) g dX5_adds_33 0 rfl ?_
  refine zv_iconst (pc := 35) g dX5_adds_35 (v := 3) (by decide) ?_
  refine zv_iload (pc := 36) g dX5_adds_36 0 rfl ?_
  refine zv_cVv (pc := 38) g cw_X5_93 (ctX5_puts h) (by decide) (by decide) zz_p0 (mW β a) (fun T => zz_p1 T) (q := 0) rfl rfl rfl rfl rfl (Nat.le_of_ble_eq_true rfl) dX5_adds_38 (fun S5 h => ?_)
  refine zv_aload_n (pc := 41) g dX5_adds_41 1 rfl rfl ?_
  refine zv_get (pc := 42) g fl_X5_7 0 rfl rfl dX5_adds_42 ?_
  refine zv_iconst (pc := 45) g dX5_adds_45 (v := 2) (by decide) ?_
  refine zv_dup2 (pc := 46) g dX5_adds_46 rfl rfl ?_
  obtain ⟨hi, h⟩ := h
  refine zv_iald (pc := 47) g 1 rfl hi dX5_adds_47 ?_
  refine zv_iconst (pc := 48) g dX5_adds_48 (v := 1) (by decide) ?_
  refine zv_iadd (pc := 49) g dX5_adds_49 ?_
  obtain ⟨hi, h⟩ := h
  refine zv_ials (pc := 50) ((mW β a) (m_row_s S5 (upd (m_row S5) (Int32.toNatClampNeg 2) ((m_row S5 (Int32.toNatClampNeg 2)) + 1)))) g 1 rfl hi rfl dX5_adds_50 ?_
  refine zv_nmS (wf := (mW β a)) (fun S6 eS6 => ?_)
  replace h := h S6 eS6
  exact zv_vret (pc := 51) g hR dX5_adds_51 ⟨_, rfl, rfl, h⟩
def wX5_duster (post : Int32 → (MSt) → Prop) (S : MSt) (x1 : Int32) : Prop := wX5_isKind (fun v1 => (¬ v1 = 0 → vp_in 2 51 ∧ ((¬ (m_row S (Int32.toNatClampNeg 2)) = (8 : Int32) → wX5_adds (fun S4 => vp_in 2 51 ∧ (post ((m_row S4 (Int32.toNatClampNeg 2)) - 1) S4)) S x1 0 0) ∧ ((m_row S (Int32.toNatClampNeg 2)) = (8 : Int32) → wX5_finds (fun v5 S6 => post v5 S6) S (-1000000002)))) ∧ (v1 = 0 → wX5_finds (fun v7 S8 => post v7 S8) S (-1000000001))) x1
set_option maxRecDepth 100000 in
set_option maxHeartbeats 4000000 in
theorem ctX5_duster {β : zz_B} {a : Nat → Nat} {post : Int32 → (MSt) → Prop} {S : MSt} {x1 : Int32} (h : wX5_duster post S x1) : zCi β yX5_duster cX5_duster 2 (some .int) 2 47 [.ref (a 0), .int x1] (mW β a) S post := by
  unfold wX5_duster at h
  unfold zCi
  refine zC.of (by decide) (Nat.le_of_ble_eq_true rfl) ?_
  intro Γ g hR
  show zV β 2 Γ ((mW β a) S) 0 [(0, .ref (a 0)), (1, .int x1)] []
  refine zv_iload_n (pc := 0) g dX5_duster_0 1 rfl rfl ?_
  refine zv_cSp (pc := 1) g cw_X5_96 (ctX5_isKind h) (by decide) (by decide) zz_pN rfl rfl (Nat.le_of_ble_eq_true rfl) dX5_duster_1 (fun v1 h => ?_)
  refine zv_if_ne (pc := 4) 14 g dX5_duster_4 rfl (fun c2 => ?_) (fun c2 => ?_)
  · replace h := h.1 c2
    refine zv_aload_n (pc := 14) g dX5_duster_14 0 rfl rfl ?_
    refine zv_get (pc := 15) g fl_X5_7 0 rfl rfl dX5_duster_15 ?_
    refine zv_iconst (pc := 18) g dX5_duster_18 (v := 2) (by decide) ?_
    obtain ⟨hi, h⟩ := h
    refine zv_iald (pc := 19) g 1 rfl hi dX5_duster_19 ?_
    refine zv_bipush (pc := 20) g dX5_duster_20 (v := 8) (by decide) ?_
    refine zv_icmp_ne (pc := 22) 32 g dX5_duster_22 rfl (fun c3 => ?_) (fun c3 => ?_)
    · replace h := h.1 c3
      refine zv_aload_n (pc := 32) g dX5_duster_32 0 rfl rfl ?_
      refine zv_iload_n (pc := 33) g dX5_duster_33 1 rfl rfl ?_
      refine zv_iconst (pc := 34) g dX5_duster_34 (v := 0) (by decide) ?_
      refine zv_iconst (pc := 35) g dX5_duster_35 (v := 0) (by decide) ?_
      refine zv_cVv (pc := 36) g cw_X5_100 (ctX5_adds h) (by decide) (by decide) zz_p0 (mW β a) (fun T => zz_p1 T) (q := 0) rfl rfl rfl rfl rfl (Nat.le_of_ble_eq_true rfl) dX5_duster_36 (fun S4 h => ?_)
      refine zv_aload_n (pc := 39) g dX5_duster_39 0 rfl rfl ?_
      refine zv_get (pc := 40) g fl_X5_7 0 rfl rfl dX5_duster_40 ?_
      refine zv_iconst (pc := 43) g dX5_duster_43 (v := 2) (by decide) ?_
      obtain ⟨hi, h⟩ := h
      refine zv_iald (pc := 44) g 1 rfl hi dX5_duster_44 ?_
      refine zv_iconst (pc := 45) g dX5_duster_45 (v := 1) (by decide) ?_
      refine zv_isub (pc := 46) g dX5_duster_46 ?_
      exact zv_iret (pc := 47) g hR dX5_duster_47 ⟨_, _, rfl, rfl, h⟩
    · replace h := h.2 c3
      refine zv_aload_n (pc := 25) g dX5_duster_25 0 rfl rfl ?_
      refine zv_ldc (pc := 26) g wd_803 dX5_duster_26 ?_
      refine zv_cVi (pc := 28) g cw_X5_57 (ctX5_finds h) (by decide) (by decide) zz_p0 (mW β a) (fun T => zz_p1 T) (q := 0) rfl rfl rfl rfl rfl (Nat.le_of_ble_eq_true rfl) dX5_duster_28 (fun v5 S6 h => ?_)
      exact zv_iret (pc := 31) g hR dX5_duster_31 ⟨_, _, rfl, rfl, h⟩
  · replace h := h.2 c2
    refine zv_aload_n (pc := 7) g dX5_duster_7 0 rfl rfl ?_
    refine zv_ldc (pc := 8) g wd_744 dX5_duster_8 ?_
    refine zv_cVi (pc := 10) g cw_X5_57 (ctX5_finds h) (by decide) (by decide) zz_p0 (mW β a) (fun T => zz_p1 T) (q := 0) rfl rfl rfl rfl rfl (Nat.le_of_ble_eq_true rfl) dX5_duster_10 (fun v7 S8 h => ?_)
    exact zv_iret (pc := 13) g hR dX5_duster_13 ⟨_, _, rfl, rfl, h⟩
def wX5_of (post : Int32 → (MSt) → Prop) (S : MSt) (x1 : Int32) (x2 : Int32) : Prop := wX5_isOne (fun v1 => (v1 = 0 → wX5_finds (fun v3 S4 => post v3 S4) S (-1000000001)) ∧ (¬ v1 = 0 → wX5_in (fun v5 => (¬ v5 = 0 → (x2 = 4 → wX5_roomOfOne (fun v8 => post v8 S) S x1) ∧ (x2 = 5 → wX5_wipes (fun v9 => post v9 S) S x1) ∧ (x2 = 6 → wX5_takesUp (fun v10 => post v10 S) S x1) ∧ (x2 = 7 → wX5_leaves (fun v11 => post v11 S) S x1) ∧ (x2 = 8 → wX5_isKeeping (fun v12 => (v12 = 0 → post 0 S) ∧ (¬ v12 = 0 → post 1 S)) S x1) ∧ (((x2).toInt < 4 ∨ 8 < (x2).toInt) → wX5_its (fun v14 => post v14 S) S x1 x2)) ∧ (v5 = 0 → wX5_finds (fun v15 S16 => post v15 S16) S (-1000000001))) x2 0 8)) S x1
set_option maxRecDepth 100000 in
set_option maxHeartbeats 4000000 in
theorem ctX5_of {β : zz_B} {a : Nat → Nat} {post : Int32 → (MSt) → Prop} {S : MSt} {x1 : Int32} {x2 : Int32} (h : wX5_of post S x1 x2) : zCi β yX5_of cX5_of 3 (some .int) 2 46 [.ref (a 0), .int x1, .int x2] (mW β a) S post := by
  unfold wX5_of at h
  unfold zCi
  refine zC.of (by decide) (Nat.le_of_ble_eq_true rfl) ?_
  intro Γ g hR
  show zV β 3 Γ ((mW β a) S) 0 [(0, .ref (a 0)), (1, .int x1), (2, .int x2)] []
  refine zv_aload_n (pc := 0) g dX5_of_0 0 rfl rfl ?_
  refine zv_iload_n (pc := 1) g dX5_of_1 1 rfl rfl ?_
  refine zv_cVp (pc := 2) g cw_X5_103 (ctX5_isOne h) (by decide) (by decide) zz_p0 (q := 0) rfl rfl rfl rfl rfl (Nat.le_of_ble_eq_true rfl) dX5_of_2 (fun v1 h => ?_)
  refine zv_if_eq (pc := 5) 18 g dX5_of_5 rfl (fun c2 => ?_) (fun c2 => ?_)
  · replace h := h.1 c2
    refine zv_aload_n (pc := 18) g dX5_of_18 0 rfl rfl ?_
    refine zv_ldc (pc := 19) g wd_744 dX5_of_19 ?_
    refine zv_cVi (pc := 21) g cw_X5_57 (ctX5_finds h) (by decide) (by decide) zz_p0 (mW β a) (fun T => zz_p1 T) (q := 0) rfl rfl rfl rfl rfl (Nat.le_of_ble_eq_true rfl) dX5_of_21 (fun v3 S4 h => ?_)
    exact zv_iret (pc := 24) g hR dX5_of_24 ⟨_, _, rfl, rfl, h⟩
  · replace h := h.2 c2
    refine zv_iload_n (pc := 8) g dX5_of_8 2 rfl rfl ?_
    refine zv_iconst (pc := 9) g dX5_of_9 (v := 0) (by decide) ?_
    refine zv_bipush (pc := 10) g dX5_of_10 (v := 8) (by decide) ?_
    refine zv_cSp (pc := 12) g cw_X5_49 (ctX5_in h) (by decide) (by decide) zz_pN rfl rfl (Nat.le_of_ble_eq_true rfl) dX5_of_12 (fun v5 h => ?_)
    refine zv_if_ne (pc := 15) 25 g dX5_of_15 rfl (fun c6 => ?_) (fun c6 => ?_)
    · replace h := h.1 c6
      refine zv_iload_n (pc := 25) g dX5_of_25 2 rfl rfl ?_
      rcases zz_ts_4_8 x2 with c7 | c7 | c7 | c7 | c7 | c7
      · refine zv_tblIn (pc := 26) 4 60 g dX5_of_26 c7 (by decide) (by decide) rfl rfl ?_
        replace h := h.1 c7
        refine zv_aload_n (pc := 60) g dX5_of_60 0 rfl rfl ?_
        refine zv_iload_n (pc := 61) g dX5_of_61 1 rfl rfl ?_
        refine zv_cVp (pc := 62) g cw_X5_68 (ctX5_roomOfOne h) (by decide) (by decide) zz_p0 (q := 0) rfl rfl rfl rfl rfl (Nat.le_of_ble_eq_true rfl) dX5_of_62 (fun v8 h => ?_)
        exact zv_iret (pc := 65) g hR dX5_of_65 ⟨_, _, rfl, rfl, h⟩
      · refine zv_tblIn (pc := 26) 5 66 g dX5_of_26 c7 (by decide) (by decide) rfl rfl ?_
        replace h := h.2.1 c7
        refine zv_aload_n (pc := 66) g dX5_of_66 0 rfl rfl ?_
        refine zv_iload_n (pc := 67) g dX5_of_67 1 rfl rfl ?_
        refine zv_cVp (pc := 68) g cw_X5_106 (ctX5_wipes h) (by decide) (by decide) zz_p0 (q := 0) rfl rfl rfl rfl rfl (Nat.le_of_ble_eq_true rfl) dX5_of_68 (fun v9 h => ?_)
        exact zv_iret (pc := 71) g hR dX5_of_71 ⟨_, _, rfl, rfl, h⟩
      · refine zv_tblIn (pc := 26) 6 72 g dX5_of_26 c7 (by decide) (by decide) rfl rfl ?_
        replace h := h.2.2.1 c7
        refine zv_aload_n (pc := 72) g dX5_of_72 0 rfl rfl ?_
        refine zv_iload_n (pc := 73) g dX5_of_73 1 rfl rfl ?_
        refine zv_cVp (pc := 74) g cw_X5_109 (ctX5_takesUp h) (by decide) (by decide) zz_p0 (q := 0) rfl rfl rfl rfl rfl (Nat.le_of_ble_eq_true rfl) dX5_of_74 (fun v10 h => ?_)
        exact zv_iret (pc := 77) g hR dX5_of_77 ⟨_, _, rfl, rfl, h⟩
      · refine zv_tblIn (pc := 26) 7 78 g dX5_of_26 c7 (by decide) (by decide) rfl rfl ?_
        replace h := h.2.2.2.1 c7
        refine zv_aload_n (pc := 78) g dX5_of_78 0 rfl rfl ?_
        refine zv_iload_n (pc := 79) g dX5_of_79 1 rfl rfl ?_
        refine zv_cVp (pc := 80) g cw_X5_112 (ctX5_leaves h) (by decide) (by decide) zz_p0 (q := 0) rfl rfl rfl rfl rfl (Nat.le_of_ble_eq_true rfl) dX5_of_80 (fun v11 h => ?_)
        exact zv_iret (pc := 83) g hR dX5_of_83 ⟨_, _, rfl, rfl, h⟩
      · refine zv_tblIn (pc := 26) 8 84 g dX5_of_26 c7 (by decide) (by decide) rfl rfl ?_
        replace h := h.2.2.2.2.1 c7
        refine zv_aload_n (pc := 84) g dX5_of_84 0 rfl rfl ?_
        refine zv_iload_n (pc := 85) g dX5_of_85 1 rfl rfl ?_
        refine zv_cVp (pc := 86) g cw_X5_115 (ctX5_isKeeping h) (by decide) (by decide) zz_p0 (q := 0) rfl rfl rfl rfl rfl (Nat.le_of_ble_eq_true rfl) dX5_of_86 (fun v12 h => ?_)
        refine zv_if_eq (pc := 89) 96 g dX5_of_89 rfl (fun c13 => ?_) (fun c13 => ?_)
        · replace h := h.1 c13
          refine zv_iconst (pc := 96) g dX5_of_96 (v := 0) (by decide) ?_
          exact zv_iret (pc := 97) g hR dX5_of_97 ⟨_, _, rfl, rfl, h⟩
        · replace h := h.2 c13
          refine zv_iconst (pc := 92) g dX5_of_92 (v := 1) (by decide) ?_
          refine zv_goto (pc := 93) 97 g dX5_of_93 rfl ?_
          exact zv_iret (pc := 97) g hR dX5_of_97 ⟨_, _, rfl, rfl, h⟩
      · refine zv_tblOut (pc := 26) 98 g dX5_of_26 c7 rfl ?_
        replace h := h.2.2.2.2.2 c7
        refine zv_aload_n (pc := 98) g dX5_of_98 0 rfl rfl ?_
        refine zv_iload_n (pc := 99) g dX5_of_99 1 rfl rfl ?_
        refine zv_iload_n (pc := 100) g dX5_of_100 2 rfl rfl ?_
        refine zv_cVp (pc := 101) g cw_X5_65 (ctX5_its h) (by decide) (by decide) zz_p0 (q := 0) rfl rfl rfl rfl rfl (Nat.le_of_ble_eq_true rfl) dX5_of_101 (fun v14 h => ?_)
        exact zv_iret (pc := 104) g hR dX5_of_104 ⟨_, _, rfl, rfl, h⟩
    · replace h := h.2 c6
      refine zv_aload_n (pc := 18) g dX5_of_18 0 rfl rfl ?_
      refine zv_ldc (pc := 19) g wd_744 dX5_of_19 ?_
      refine zv_cVi (pc := 21) g cw_X5_57 (ctX5_finds h) (by decide) (by decide) zz_p0 (mW β a) (fun T => zz_p1 T) (q := 0) rfl rfl rfl rfl rfl (Nat.le_of_ble_eq_true rfl) dX5_of_21 (fun v15 S16 h => ?_)
      exact zv_iret (pc := 24) g hR dX5_of_24 ⟨_, _, rfl, rfl, h⟩
def wX5_isPart (post : Int32 → Prop) (x0 : Int32) (x1 : Int32) : Prop := (x0 = 1 → wX5_in (fun v2 => (v2 = 0 ∨ v2 = 1) ∧ post v2) x1 0 1023) ∧ (x0 = 2 → wX5_in (fun v3 => (v3 = 0 ∨ v3 = 1) ∧ post v3) x1 0 99) ∧ ((¬ x0 = 1 ∧ ¬ x0 = 2) → (¬ x0 = (3 : Int32) → post 0) ∧ (x0 = (3 : Int32) → wX5_isRoom (fun v5 => (v5 = 0 → post 0) ∧ (¬ v5 = 0 → post 1)) x1))
set_option maxRecDepth 100000 in
set_option maxHeartbeats 4000000 in
theorem ctX5_isPart {β : zz_B} {post : Int32 → Prop} {x0 : Int32} {x1 : Int32} (h : wX5_isPart post x0 x1) : zCp β yX5_isPart cX5_isPart 2 (some .boolean) 2 42 [.int x0, .int x1] [] post := by
  unfold wX5_isPart at h
  unfold zCp
  refine zC.of (by decide) (Nat.le_of_ble_eq_true rfl) ?_
  intro Γ g hR
  show zV β 2 Γ [] 0 [(0, .int x0), (1, .int x1)] []
  refine zv_iload_n (pc := 0) g dX5_isPart_0 0 rfl rfl ?_
  rcases zz_ls_1_2 x0 with c1 | c1 | c1
  · refine zv_lkp (pc := 1) 28 g dX5_isPart_1 (by decide) (by rw [c1]) rfl ?_
    replace h := h.1 c1
    refine zv_iload_n (pc := 28) g dX5_isPart_28 1 rfl rfl ?_
    refine zv_iconst (pc := 29) g dX5_isPart_29 (v := 0) (by decide) ?_
    refine zv_sipush (pc := 30) g dX5_isPart_30 (v := 1023) (by decide) ?_
    refine zv_cSp (pc := 33) g cw_X5_49 (ctX5_in h) (by decide) (by decide) zz_pN rfl rfl (Nat.le_of_ble_eq_true rfl) dX5_isPart_33 (fun v2 h => ?_)
    exact zv_zret (pc := 36) g hR (zz_nb h.1).1 dX5_isPart_36 ⟨_, rfl, rfl, h.2⟩
  · refine zv_lkp (pc := 1) 37 g dX5_isPart_1 (by decide) (by rw [c1]) rfl ?_
    replace h := h.2.1 c1
    refine zv_iload_n (pc := 37) g dX5_isPart_37 1 rfl rfl ?_
    refine zv_iconst (pc := 38) g dX5_isPart_38 (v := 0) (by decide) ?_
    refine zv_bipush (pc := 39) g dX5_isPart_39 (v := 99) (by decide) ?_
    refine zv_cSp (pc := 41) g cw_X5_49 (ctX5_in h) (by decide) (by decide) zz_pN rfl rfl (Nat.le_of_ble_eq_true rfl) dX5_isPart_41 (fun v3 h => ?_)
    exact zv_zret (pc := 44) g hR (zz_nb h.1).1 dX5_isPart_44 ⟨_, rfl, rfl, h.2⟩
  · refine zv_lkp (pc := 1) 45 g dX5_isPart_1 (by decide) (zz_lo_1_2 x0 c1) rfl ?_
    replace h := h.2.2 c1
    refine zv_iload_n (pc := 45) g dX5_isPart_45 0 rfl rfl ?_
    refine zv_iconst (pc := 46) g dX5_isPart_46 (v := 3) (by decide) ?_
    refine zv_icmp_ne (pc := 47) 61 g dX5_isPart_47 rfl (fun c4 => ?_) (fun c4 => ?_)
    · replace h := h.1 c4
      refine zv_iconst (pc := 61) g dX5_isPart_61 (v := 0) (by decide) ?_
      exact zv_zret (pc := 62) g hR (by decide) dX5_isPart_62 ⟨_, rfl, rfl, h⟩
    · replace h := h.2 c4
      refine zv_iload_n (pc := 50) g dX5_isPart_50 1 rfl rfl ?_
      refine zv_cSp (pc := 51) g cw_X5_61 (ctX5_isRoom h) (by decide) (by decide) zz_pN rfl rfl (Nat.le_of_ble_eq_true rfl) dX5_isPart_51 (fun v5 h => ?_)
      refine zv_if_eq (pc := 54) 61 g dX5_isPart_54 rfl (fun c6 => ?_) (fun c6 => ?_)
      · replace h := h.1 c6
        refine zv_iconst (pc := 61) g dX5_isPart_61 (v := 0) (by decide) ?_
        exact zv_zret (pc := 62) g hR (by decide) dX5_isPart_62 ⟨_, rfl, rfl, h⟩
      · replace h := h.2 c6
        refine zv_iconst (pc := 57) g dX5_isPart_57 (v := 1) (by decide) ?_
        refine zv_goto (pc := 58) 62 g dX5_isPart_58 rfl ?_
        exact zv_zret (pc := 62) g hR (by decide) dX5_isPart_62 ⟨_, rfl, rfl, h⟩
def wX5_set (post : Int32 → (MSt) → Prop) (S : MSt) (x1 : Int32) (x2 : Int32) (x3 : Int32) : Prop := wX5_isOne (fun v1 => (v1 = 0 → wX5_finds (fun v3 S4 => post v3 S4) S (-1000000001)) ∧ (¬ v1 = 0 → wX5_isPart (fun v5 => (v5 = 0 → wX5_finds (fun v7 S8 => post v7 S8) S (-1000000001)) ∧ (¬ v5 = 0 → wX5_becomes (fun v9 S10 => post v9 S10) S ((19 + (4 * x1)) + x2) x3)) x2 x3)) S x1
set_option maxRecDepth 100000 in
set_option maxHeartbeats 4000000 in
theorem ctX5_set {β : zz_B} {a : Nat → Nat} {post : Int32 → (MSt) → Prop} {S : MSt} {x1 : Int32} {x2 : Int32} {x3 : Int32} (h : wX5_set post S x1 x2 x3) : zCi β yX5_set cX5_set 4 (some .int) 3 63 [.ref (a 0), .int x1, .int x2, .int x3] (mW β a) S post := by
  unfold wX5_set at h
  unfold zCi
  refine zC.of (by decide) (Nat.le_of_ble_eq_true rfl) ?_
  intro Γ g hR
  show zV β 4 Γ ((mW β a) S) 0 [(0, .ref (a 0)), (1, .int x1), (2, .int x2), (3, .int x3)] []
  refine zv_aload_n (pc := 0) g dX5_set_0 0 rfl rfl ?_
  refine zv_iload_n (pc := 1) g dX5_set_1 1 rfl rfl ?_
  refine zv_cVp (pc := 2) g cw_X5_103 (ctX5_isOne h) (by decide) (by decide) zz_p0 (q := 0) rfl rfl rfl rfl rfl (Nat.le_of_ble_eq_true rfl) dX5_set_2 (fun v1 h => ?_)
  refine zv_if_eq (pc := 5) 32 g dX5_set_5 rfl (fun c2 => ?_) (fun c2 => ?_)
  · replace h := h.1 c2
    refine zv_aload_n (pc := 32) g dX5_set_32 0 rfl rfl ?_
    refine zv_ldc (pc := 33) g wd_744 dX5_set_33 ?_
    refine zv_cVi (pc := 35) g cw_X5_57 (ctX5_finds h) (by decide) (by decide) zz_p0 (mW β a) (fun T => zz_p1 T) (q := 0) rfl rfl rfl rfl rfl (Nat.le_of_ble_eq_true rfl) dX5_set_35 (fun v3 S4 h => ?_)
    exact zv_iret (pc := 38) g hR dX5_set_38 ⟨_, _, rfl, rfl, h⟩
  · replace h := h.2 c2
    refine zv_iload_n (pc := 8) g dX5_set_8 2 rfl rfl ?_
    refine zv_iload_n (pc := 9) g dX5_set_9 3 rfl rfl ?_
    refine zv_cSp (pc := 10) g cw_X5_118 (ctX5_isPart h) (by decide) (by decide) zz_pN rfl rfl (Nat.le_of_ble_eq_true rfl) dX5_set_10 (fun v5 h => ?_)
    refine zv_if_eq (pc := 13) 32 g dX5_set_13 rfl (fun c6 => ?_) (fun c6 => ?_)
    · replace h := h.1 c6
      refine zv_aload_n (pc := 32) g dX5_set_32 0 rfl rfl ?_
      refine zv_ldc (pc := 33) g wd_744 dX5_set_33 ?_
      refine zv_cVi (pc := 35) g cw_X5_57 (ctX5_finds h) (by decide) (by decide) zz_p0 (mW β a) (fun T => zz_p1 T) (q := 0) rfl rfl rfl rfl rfl (Nat.le_of_ble_eq_true rfl) dX5_set_35 (fun v7 S8 h => ?_)
      exact zv_iret (pc := 38) g hR dX5_set_38 ⟨_, _, rfl, rfl, h⟩
    · replace h := h.2 c6
      refine zv_aload_n (pc := 16) g dX5_set_16 0 rfl rfl ?_
      refine zv_bipush (pc := 17) g dX5_set_17 (v := 19) (by decide) ?_
      refine zv_iconst (pc := 19) g dX5_set_19 (v := 4) (by decide) ?_
      refine zv_iload_n (pc := 20) g dX5_set_20 1 rfl rfl ?_
      refine zv_imul (pc := 21) g dX5_set_21 ?_
      refine zv_iadd (pc := 22) g dX5_set_22 ?_
      refine zv_iload_n (pc := 23) g dX5_set_23 2 rfl rfl ?_
      refine zv_iadd (pc := 24) g dX5_set_24 ?_
      refine zv_iload_n (pc := 25) g dX5_set_25 3 rfl rfl ?_
      refine zv_cVi (pc := 26) g cw_X5_53 (ctX5_becomes h) (by decide) (by decide) zz_p0 (mW β a) (fun T => zz_p1 T) (q := 0) rfl rfl rfl rfl rfl (Nat.le_of_ble_eq_true rfl) dX5_set_26 (fun v9 S10 h => ?_)
      refine zv_goto (pc := 29) 38 g dX5_set_29 rfl ?_
      exact zv_iret (pc := 38) g hR dX5_set_38 ⟨_, _, rfl, rfl, h⟩
def wX5_turn (post : Int32 → (MSt) → Prop) (S : MSt) (x1 : Int32) (x2 : Int32) : Prop := wX5_isOne (fun v1 => (v1 = 0 → wX5_finds (fun v3 S4 => post v3 S4) S (-1000000001)) ∧ (¬ v1 = 0 → wX5_isKind (fun v5 => (v5 = 0 → wX5_finds (fun v7 S8 => post v7 S8) S (-1000000001)) ∧ (¬ v5 = 0 → wX5_becomes (fun v9 S10 => post v9 S10) S (19 + (4 * x1)) x2)) x2)) S x1
set_option maxRecDepth 100000 in
set_option maxHeartbeats 4000000 in
theorem ctX5_turn {β : zz_B} {a : Nat → Nat} {post : Int32 → (MSt) → Prop} {S : MSt} {x1 : Int32} {x2 : Int32} (h : wX5_turn post S x1 x2) : zCi β yX5_turn cX5_turn 3 (some .int) 2 43 [.ref (a 0), .int x1, .int x2] (mW β a) S post := by
  unfold wX5_turn at h
  unfold zCi
  refine zC.of (by decide) (Nat.le_of_ble_eq_true rfl) ?_
  intro Γ g hR
  show zV β 3 Γ ((mW β a) S) 0 [(0, .ref (a 0)), (1, .int x1), (2, .int x2)] []
  refine zv_aload_n (pc := 0) g dX5_turn_0 0 rfl rfl ?_
  refine zv_iload_n (pc := 1) g dX5_turn_1 1 rfl rfl ?_
  refine zv_cVp (pc := 2) g cw_X5_103 (ctX5_isOne h) (by decide) (by decide) zz_p0 (q := 0) rfl rfl rfl rfl rfl (Nat.le_of_ble_eq_true rfl) dX5_turn_2 (fun v1 h => ?_)
  refine zv_if_eq (pc := 5) 29 g dX5_turn_5 rfl (fun c2 => ?_) (fun c2 => ?_)
  · replace h := h.1 c2
    refine zv_aload_n (pc := 29) g dX5_turn_29 0 rfl rfl ?_
    refine zv_ldc (pc := 30) g wd_744 dX5_turn_30 ?_
    refine zv_cVi (pc := 32) g cw_X5_57 (ctX5_finds h) (by decide) (by decide) zz_p0 (mW β a) (fun T => zz_p1 T) (q := 0) rfl rfl rfl rfl rfl (Nat.le_of_ble_eq_true rfl) dX5_turn_32 (fun v3 S4 h => ?_)
    exact zv_iret (pc := 35) g hR dX5_turn_35 ⟨_, _, rfl, rfl, h⟩
  · replace h := h.2 c2
    refine zv_iload_n (pc := 8) g dX5_turn_8 2 rfl rfl ?_
    refine zv_cSp (pc := 9) g cw_X5_96 (ctX5_isKind h) (by decide) (by decide) zz_pN rfl rfl (Nat.le_of_ble_eq_true rfl) dX5_turn_9 (fun v5 h => ?_)
    refine zv_if_eq (pc := 12) 29 g dX5_turn_12 rfl (fun c6 => ?_) (fun c6 => ?_)
    · replace h := h.1 c6
      refine zv_aload_n (pc := 29) g dX5_turn_29 0 rfl rfl ?_
      refine zv_ldc (pc := 30) g wd_744 dX5_turn_30 ?_
      refine zv_cVi (pc := 32) g cw_X5_57 (ctX5_finds h) (by decide) (by decide) zz_p0 (mW β a) (fun T => zz_p1 T) (q := 0) rfl rfl rfl rfl rfl (Nat.le_of_ble_eq_true rfl) dX5_turn_32 (fun v7 S8 h => ?_)
      exact zv_iret (pc := 35) g hR dX5_turn_35 ⟨_, _, rfl, rfl, h⟩
    · replace h := h.2 c6
      refine zv_aload_n (pc := 15) g dX5_turn_15 0 rfl rfl ?_
      refine zv_bipush (pc := 16) g dX5_turn_16 (v := 19) (by decide) ?_
      refine zv_iconst (pc := 18) g dX5_turn_18 (v := 4) (by decide) ?_
      refine zv_iload_n (pc := 19) g dX5_turn_19 1 rfl rfl ?_
      refine zv_imul (pc := 20) g dX5_turn_20 ?_
      refine zv_iadd (pc := 21) g dX5_turn_21 ?_
      refine zv_iload_n (pc := 22) g dX5_turn_22 2 rfl rfl ?_
      refine zv_cVi (pc := 23) g cw_X5_53 (ctX5_becomes h) (by decide) (by decide) zz_p0 (mW β a) (fun T => zz_p1 T) (q := 0) rfl rfl rfl rfl rfl (Nat.le_of_ble_eq_true rfl) dX5_turn_23 (fun v9 S10 h => ?_)
      refine zv_goto (pc := 26) 35 g dX5_turn_26 rfl ?_
      exact zv_iret (pc := 35) g hR dX5_turn_35 ⟨_, _, rfl, rfl, h⟩
def wX5_as_63 (post : Int32 → (MSt) → Prop) (S : MSt) (x1 : Int32) (s0 : Int32) : Prop := (s0 = 0 → wX5_finds (fun v10 S11 => post v10 S11) S (-1000000003)) ∧ (¬ s0 = 0 → wX5_its (fun v12 => post v12 S) S x1 2)
set_option maxRecDepth 100000 in
set_option maxHeartbeats 4000000 in
theorem lX5_as_63 {β : zz_B} {Γ : zz_X} {a : Nat → Nat} {post : Int32 → (MSt) → Prop} (g : zG β 5 Γ cX5_as RX5 2 43) (hR : zR β Γ (some .int) (fun r w => ∃ (v : Int32) (T : MSt), r = some (.int v) ∧ w = (mW β a) T ∧ post v T)) (S : MSt) (x1 : Int32) (s0 : Int32) (h : wX5_as_63 post S x1 s0) : zV β 5 Γ ((mW β a) S) 63 [(0, .ref (a 0)), (1, .int x1)] [.int s0] := by
  unfold wX5_as_63 at h
  refine zv_istore (pc := 63) [(4, .int s0), (0, .ref (a 0)), (1, .int x1)] g dX5_as_63 (by decide) rfl ?_
  refine zv_iload (pc := 65) g dX5_as_65 0 rfl ?_
  refine zv_if_eq (pc := 67) 79 g dX5_as_67 rfl (fun c9 => ?_) (fun c9 => ?_)
  · replace h := h.1 c9
    refine zv_aload_n (pc := 79) g dX5_as_79 1 rfl rfl ?_
    refine zv_ldc (pc := 80) g wd_854 dX5_as_80 ?_
    refine zv_cVi (pc := 82) g cw_X5_57 (ctX5_finds h) (by decide) (by decide) zz_p0 (mW β a) (fun T => zz_p1 T) (q := 0) rfl rfl rfl rfl rfl (Nat.le_of_ble_eq_true rfl) dX5_as_82 (fun v10 S11 h => ?_)
    exact zv_iret (pc := 85) g hR dX5_as_85 ⟨_, _, rfl, rfl, h⟩
  · replace h := h.2 c9
    refine zv_aload_n (pc := 70) g dX5_as_70 1 rfl rfl ?_
    refine zv_iload_n (pc := 71) g dX5_as_71 2 rfl rfl ?_
    refine zv_iconst (pc := 72) g dX5_as_72 (v := 2) (by decide) ?_
    refine zv_cVp (pc := 73) g cw_X5_65 (ctX5_its h) (by decide) (by decide) zz_p0 (q := 0) rfl rfl rfl rfl rfl (Nat.le_of_ble_eq_true rfl) dX5_as_73 (fun v12 h => ?_)
    refine zv_goto (pc := 76) 85 g dX5_as_76 rfl ?_
    exact zv_iret (pc := 85) g hR dX5_as_85 ⟨_, _, rfl, rfl, h⟩
def wX5_as_58 (post : Int32 → (MSt) → Prop) (S : MSt) (x1 : Int32) : Prop := wX5_as_63 post S x1 1
set_option maxRecDepth 100000 in
set_option maxHeartbeats 4000000 in
theorem lX5_as_58 {β : zz_B} {Γ : zz_X} {a : Nat → Nat} {post : Int32 → (MSt) → Prop} (g : zG β 5 Γ cX5_as RX5 2 43) (hR : zR β Γ (some .int) (fun r w => ∃ (v : Int32) (T : MSt), r = some (.int v) ∧ w = (mW β a) T ∧ post v T)) (S : MSt) (x1 : Int32) (h : wX5_as_58 post S x1) : zV β 5 Γ ((mW β a) S) 58 [(0, .ref (a 0)), (1, .int x1)] [] := by
  unfold wX5_as_58 at h
  refine zv_iconst (pc := 58) g dX5_as_58 (v := 1) (by decide) ?_
  refine zv_goto (pc := 59) 63 g dX5_as_59 rfl ?_
  refine zv_sub [0, 1] rfl ?_
  exact lX5_as_63 g hR _ _ _ h
def wX5_as_62 (post : Int32 → (MSt) → Prop) (S : MSt) (x1 : Int32) : Prop := wX5_as_63 post S x1 0
set_option maxRecDepth 100000 in
set_option maxHeartbeats 4000000 in
theorem lX5_as_62 {β : zz_B} {Γ : zz_X} {a : Nat → Nat} {post : Int32 → (MSt) → Prop} (g : zG β 5 Γ cX5_as RX5 2 43) (hR : zR β Γ (some .int) (fun r w => ∃ (v : Int32) (T : MSt), r = some (.int v) ∧ w = (mW β a) T ∧ post v T)) (S : MSt) (x1 : Int32) (h : wX5_as_62 post S x1) : zV β 5 Γ ((mW β a) S) 62 [(0, .ref (a 0)), (1, .int x1)] [] := by
  unfold wX5_as_62 at h
  refine zv_iconst (pc := 62) g dX5_as_62 (v := 0) (by decide) ?_
  refine zv_sub [0, 1] rfl ?_
  exact lX5_as_63 g hR _ _ _ h
def wX5_as_48 (post : Int32 → (MSt) → Prop) (S : MSt) (x1 : Int32) (x2 : Int32) (x3 : Int32) : Prop := (¬ x2 = (2 : Int32) → wX5_as_62 post S x1) ∧ (x2 = (2 : Int32) → (¬ x3 = (5 : Int32) → wX5_as_62 post S x1) ∧ (x3 = (5 : Int32) → wX5_as_58 post S x1))
set_option maxRecDepth 100000 in
set_option maxHeartbeats 4000000 in
theorem lX5_as_48 {β : zz_B} {Γ : zz_X} {a : Nat → Nat} {post : Int32 → (MSt) → Prop} (g : zG β 5 Γ cX5_as RX5 2 43) (hR : zR β Γ (some .int) (fun r w => ∃ (v : Int32) (T : MSt), r = some (.int v) ∧ w = (mW β a) T ∧ post v T)) (S : MSt) (x1 : Int32) (x2 : Int32) (x3 : Int32) (h : wX5_as_48 post S x1 x2 x3) : zV β 5 Γ ((mW β a) S) 48 [(0, .ref (a 0)), (1, .int x1), (2, .int x2), (3, .int x3)] [] := by
  unfold wX5_as_48 at h
  refine zv_iload_n (pc := 48) g dX5_as_48 2 rfl rfl ?_
  refine zv_iconst (pc := 49) g dX5_as_49 (v := 2) (by decide) ?_
  refine zv_icmp_ne (pc := 50) 62 g dX5_as_50 rfl (fun c15 => ?_) (fun c15 => ?_)
  · replace h := h.1 c15
    refine zv_sub [0, 1] rfl ?_
    exact lX5_as_62 g hR _ _ h
  · replace h := h.2 c15
    refine zv_iload_n (pc := 53) g dX5_as_53 3 rfl rfl ?_
    refine zv_iconst (pc := 54) g dX5_as_54 (v := 5) (by decide) ?_
    refine zv_icmp_ne (pc := 55) 62 g dX5_as_55 rfl (fun c16 => ?_) (fun c16 => ?_)
    · replace h := h.1 c16
      refine zv_sub [0, 1] rfl ?_
      exact lX5_as_62 g hR _ _ h
    · replace h := h.2 c16
      refine zv_sub [0, 1] rfl ?_
      exact lX5_as_58 g hR _ _ h
def wX5_as (post : Int32 → (MSt) → Prop) (S : MSt) (x1 : Int32) (x2 : Int32) : Prop := wX5_isOne (fun v1 => (v1 = 0 → wX5_finds (fun v3 S4 => post v3 S4) S (-1000000001)) ∧ (¬ v1 = 0 → wX5_isKind (fun v5 => (¬ v5 = 0 → wX5_its (fun v7 => (x2 = 0 → wX5_as_58 post S x1) ∧ (¬ x2 = 0 → (x2 = v7 → wX5_as_58 post S x1) ∧ (¬ x2 = v7 → (¬ x2 = (1 : Int32) → wX5_as_48 post S x1 x2 v7) ∧ (x2 = (1 : Int32) → (v7 = (4 : Int32) → wX5_as_58 post S x1) ∧ (¬ v7 = (4 : Int32) → wX5_as_48 post S x1 x2 v7))))) S x1 0) ∧ (v5 = 0 → wX5_finds (fun v18 S19 => post v18 S19) S (-1000000001))) x2)) S x1
set_option maxRecDepth 100000 in
set_option maxHeartbeats 4000000 in
theorem ctX5_as {β : zz_B} {a : Nat → Nat} {post : Int32 → (MSt) → Prop} {S : MSt} {x1 : Int32} {x2 : Int32} (h : wX5_as post S x1 x2) : zCi β yX5_as cX5_as 5 (some .int) 2 43 [.ref (a 0), .int x1, .int x2] (mW β a) S post := by
  unfold wX5_as at h
  unfold zCi
  refine zC.of (by decide) (Nat.le_of_ble_eq_true rfl) ?_
  intro Γ g hR
  show zV β 5 Γ ((mW β a) S) 0 [(0, .ref (a 0)), (1, .int x1), (2, .int x2)] []
  refine zv_aload_n (pc := 0) g dX5_as_0 0 rfl rfl ?_
  refine zv_iload_n (pc := 1) g dX5_as_1 1 rfl rfl ?_
  refine zv_cVp (pc := 2) g cw_X5_103 (ctX5_isOne h) (by decide) (by decide) zz_p0 (q := 0) rfl rfl rfl rfl rfl (Nat.le_of_ble_eq_true rfl) dX5_as_2 (fun v1 h => ?_)
  refine zv_if_eq (pc := 5) 15 g dX5_as_5 rfl (fun c2 => ?_) (fun c2 => ?_)
  · replace h := h.1 c2
    refine zv_aload_n (pc := 15) g dX5_as_15 0 rfl rfl ?_
    refine zv_ldc (pc := 16) g wd_744 dX5_as_16 ?_
    refine zv_cVi (pc := 18) g cw_X5_57 (ctX5_finds h) (by decide) (by decide) zz_p0 (mW β a) (fun T => zz_p1 T) (q := 0) rfl rfl rfl rfl rfl (Nat.le_of_ble_eq_true rfl) dX5_as_18 (fun v3 S4 h => ?_)
    exact zv_iret (pc := 21) g hR dX5_as_21 ⟨_, _, rfl, rfl, h⟩
  · replace h := h.2 c2
    refine zv_iload_n (pc := 8) g dX5_as_8 2 rfl rfl ?_
    refine zv_cSp (pc := 9) g cw_X5_96 (ctX5_isKind h) (by decide) (by decide) zz_pN rfl rfl (Nat.le_of_ble_eq_true rfl) dX5_as_9 (fun v5 h => ?_)
    refine zv_if_ne (pc := 12) 22 g dX5_as_12 rfl (fun c6 => ?_) (fun c6 => ?_)
    · replace h := h.1 c6
      refine zv_aload_n (pc := 22) g dX5_as_22 0 rfl rfl ?_
      refine zv_iload_n (pc := 23) g dX5_as_23 1 rfl rfl ?_
      refine zv_iconst (pc := 24) g dX5_as_24 (v := 0) (by decide) ?_
      refine zv_cVp (pc := 25) g cw_X5_65 (ctX5_its h) (by decide) (by decide) zz_p0 (q := 0) rfl rfl rfl rfl rfl (Nat.le_of_ble_eq_true rfl) dX5_as_25 (fun v7 h => ?_)
      refine zv_istore_n (pc := 28) 3 [(3, .int v7), (0, .ref (a 0)), (1, .int x1), (2, .int x2)] g dX5_as_28 rfl (by decide) rfl ?_
      refine zv_iload_n (pc := 29) g dX5_as_29 3 rfl rfl ?_
      refine zv_if_eq (pc := 30) 58 g dX5_as_30 rfl (fun c8 => ?_) (fun c8 => ?_)
      · replace h := h.1 c8
        refine zv_sub [1, 2] rfl ?_
        exact lX5_as_58 g hR _ _ h
      · replace h := h.2 c8
        refine zv_iload_n (pc := 33) g dX5_as_33 3 rfl rfl ?_
        refine zv_iload_n (pc := 34) g dX5_as_34 0 rfl rfl ?_
        refine zv_icmp_eq (pc := 35) 58 g dX5_as_35 rfl (fun c13 => ?_) (fun c13 => ?_)
        · replace h := h.1 c13
          refine zv_sub [1, 2] rfl ?_
          exact lX5_as_58 g hR _ _ h
        · replace h := h.2 c13
          refine zv_iload_n (pc := 38) g dX5_as_38 3 rfl rfl ?_
          refine zv_iconst (pc := 39) g dX5_as_39 (v := 1) (by decide) ?_
          refine zv_icmp_ne (pc := 40) 48 g dX5_as_40 rfl (fun c14 => ?_) (fun c14 => ?_)
          · replace h := h.1 c14
            refine zv_sub [1, 2, 3, 0] rfl ?_
            exact lX5_as_48 g hR _ _ _ _ h
          · replace h := h.2 c14
            refine zv_iload_n (pc := 43) g dX5_as_43 0 rfl rfl ?_
            refine zv_iconst (pc := 44) g dX5_as_44 (v := 4) (by decide) ?_
            refine zv_icmp_eq (pc := 45) 58 g dX5_as_45 rfl (fun c17 => ?_) (fun c17 => ?_)
            · replace h := h.1 c17
              refine zv_sub [1, 2] rfl ?_
              exact lX5_as_58 g hR _ _ h
            · replace h := h.2 c17
              refine zv_sub [1, 2, 3, 0] rfl ?_
              exact lX5_as_48 g hR _ _ _ _ h
    · replace h := h.2 c6
      refine zv_aload_n (pc := 15) g dX5_as_15 0 rfl rfl ?_
      refine zv_ldc (pc := 16) g wd_744 dX5_as_16 ?_
      refine zv_cVi (pc := 18) g cw_X5_57 (ctX5_finds h) (by decide) (by decide) zz_p0 (mW β a) (fun T => zz_p1 T) (q := 0) rfl rfl rfl rfl rfl (Nat.le_of_ble_eq_true rfl) dX5_as_18 (fun v18 S19 h => ?_)
      exact zv_iret (pc := 21) g hR dX5_as_21 ⟨_, _, rfl, rfl, h⟩
def wX5_least_4 (post : Int32 → Prop) : Nat → (Int32) → (Int32) → (Int32) → (Int32) → Prop
  | 0, _, _, _, _ => False
  | f0 + 1, x0, x1, x2, x3 => (x1 ≤ x3 → post (x0 &&& (x2 ^^^ (-1)))) ∧ (¬ x1 ≤ x3 → ∀ y2 : Int32, y2 = (x2 &&& (x2 - 1)) → (wX5_least_4 post f0 x0 x1 y2 (x3 + 1)))
set_option maxRecDepth 100000 in
set_option maxHeartbeats 4000000 in
theorem lX5_least_4 {β : zz_B} {Γ : zz_X} {post : Int32 → Prop} (g : zG β 4 Γ cX5_least RX5 0 0) (hR : zR β Γ (some .int) (fun r w => ∃ v : Int32, r = some (.int v) ∧ w = [] ∧ post v)) : ∀ (f0 : Nat) (x0 : Int32) (x1 : Int32) (x2 : Int32) (x3 : Int32) , wX5_least_4 post f0 x0 x1 x2 x3 → zV β 4 Γ [] 4 [(0, .int x0), (1, .int x1), (2, .int x2), (3, .int x3)] [] := by
  intro f0
  induction f0 with
  | zero => intro x0 x1 x2 x3 h; exact h.elim
  | succ f0 ih0 =>
    intro x0 x1 x2 x3 h
    rw [wX5_least_4] at h
    refine zv_iload_n (pc := 4) g dX5_least_4 3 rfl rfl ?_
    refine zv_iload_n (pc := 5) g dX5_least_5 1 rfl rfl ?_
    refine zv_icmp_ge (pc := 6) 21 g dX5_least_6 rfl (fun c1 => ?_) (fun c1 => ?_)
    · replace h := h.1 c1
      refine zv_iload_n (pc := 21) g dX5_least_21 0 rfl rfl ?_
      refine zv_iload_n (pc := 22) g dX5_least_22 2 rfl rfl ?_
      refine zv_iconst (pc := 23) g dX5_least_23 (v := (-1)) (by decide) ?_
      refine zv_ixor (pc := 24) g dX5_least_24 ?_
      refine zv_iand (pc := 25) g dX5_least_25 ?_
      exact zv_iret (pc := 26) g hR dX5_least_26 ⟨_, rfl, rfl, h⟩
    · replace h := h.2 c1
      refine zv_iload_n (pc := 9) g dX5_least_9 2 rfl rfl ?_
      refine zv_iload_n (pc := 10) g dX5_least_10 2 rfl rfl ?_
      refine zv_iconst (pc := 11) g dX5_least_11 (v := 1) (by decide) ?_
      refine zv_isub (pc := 12) g dX5_least_12 ?_
      refine zv_iand (pc := 13) g dX5_least_13 ?_
      refine zv_topi (fun y2 ey2 => ?_)
      replace h := h y2 ey2
      refine zv_istore_n (pc := 14) 2 [(2, .int y2), (0, .int x0), (1, .int x1), (3, .int x3)] g dX5_least_14 rfl (by decide) rfl ?_
      refine zv_iinc (pc := 15) 1 [(3, .int (x3 + 1)), (2, .int y2), (0, .int x0), (1, .int x1)] g dX5_least_15 3 rfl (by decide) (by decide) rfl ?_
      refine zv_goto (pc := 18) 4 g dX5_least_18 rfl ?_
      refine zv_sub [2, 3, 1, 0] rfl ?_
      exact ih0 _ _ _ _ h
def wX5_least (post : Int32 → Prop) (x0 : Int32) (x1 : Int32) : Prop := ∃ f3 : Nat, wX5_least_4 post f3 x0 x1 x0 0
set_option maxRecDepth 100000 in
set_option maxHeartbeats 4000000 in
theorem ctX5_least {β : zz_B} {post : Int32 → Prop} {x0 : Int32} {x1 : Int32} (h : wX5_least post x0 x1) : zCp β yX5_least cX5_least 4 (some .int) 0 0 [.int x0, .int x1] [] post := by
  unfold wX5_least at h
  unfold zCp
  refine zC.of (by decide) (Nat.le_of_ble_eq_true rfl) ?_
  intro Γ g hR
  show zV β 4 Γ [] 0 [(0, .int x0), (1, .int x1)] []
  refine zv_iload_n (pc := 0) g dX5_least_0 0 rfl rfl ?_
  refine zv_istore_n (pc := 1) 2 [(2, .int x0), (0, .int x0), (1, .int x1)] g dX5_least_1 rfl (by decide) rfl ?_
  refine zv_iconst (pc := 2) g dX5_least_2 (v := 0) (by decide) ?_
  refine zv_istore_n (pc := 3) 3 [(3, .int 0), (2, .int x0), (0, .int x0), (1, .int x1)] g dX5_least_3 rfl (by decide) rfl ?_
  obtain ⟨f3, h⟩ := h
  refine zv_sub [2, 3, 1, 0] rfl ?_
  exact lX5_least_4 g hR f3 _ _ _ _ h
