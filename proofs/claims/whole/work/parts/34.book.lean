section Ops9
variable {X : XSt} {M : MSt}
/-! the book -/
set_option maxHeartbeats 400000 in
theorem zupd_eq {α : Type} {f : Nat → α} {k : Nat} {v : α} : zupd f k v k = v := if_pos rfl
set_option maxHeartbeats 400000 in
theorem zupd_zupd {α : Type} {f : Nat → α} {k : Nat} {v w : α} : zupd (zupd f k v) k w = zupd f k w := by
  funext j
  unfold zupd
  by_cases e : j = k
  · rw [if_pos e, if_pos e]
  · rw [if_neg e, if_neg e, if_neg e]
def bkX (X : XSt) (k : Nat) (g : Nat → Int64) (A : HSt) : XSt := x_ahead_s (x_sh_s X (zupd (x_sh X) k (s_numbers_s (x_sh X k) g))) A
set_option maxHeartbeats 400000 in
theorem bkX_sh (X : XSt) (k : Nat) (g : Nat → Int64) (A : HSt) : x_sh (bkX X k g A) k = s_numbers_s (x_sh X k) g := zupd_eq
set_option maxHeartbeats 400000 in
theorem bkX_put (X : XSt) (k : Nat) (g g2 : Nat → Int64) (A : HSt) : x_sh_s (bkX X k g A) (zupd (x_sh (bkX X k g A)) k (s_numbers_s (s_numbers_s (x_sh X k) g) g2)) = bkX X k g2 A := by
  show x_ahead_s (x_sh_s X (zupd (zupd (x_sh X) k (s_numbers_s (x_sh X k) g)) k (s_numbers_s (x_sh X k) g2))) A = _
  rw [zupd_zupd]
  rfl
def bkV (b : Int32) (L : HSt) (r i : Nat) : Int64 := nrw b (Int32.toInt64 (h_memories (nDay i L) r))
set_option maxHeartbeats 400000 in
theorem s4_book_l {post : Int32 → XSt → Prop} {k z r : Nat} (L : HSt) (okL : okS 9999 L) (hr : r < 8) (hz : z ≤ 40) (ez : s_size (x_sh X k) = nI z) (h : ∀ g A, zS A → (∀ i, i < z → g i = bkV (s_bits (x_sh X k)) L r i) → (∀ i, z ≤ i → g i = s_numbers (x_sh X k) i) → post (nI z) (bkX X k g A)) : ∀ (c i : Nat) (g : Nat → Int64), i + c = z → (∀ j, j < i → g j = bkV (s_bits (x_sh X k)) L r j) → (∀ j, z ≤ j → g j = s_numbers (x_sh X k) j) → wX4_book_59 post k (c + 1) (bkX X k g (nDay i L)) (nI r) (nI i) := by
  intro c
  induction c with
  | zero =>
    intro i g e h1 h2
    rw [wX4_book_59, bkX_sh]
    have e1 : s_size (s_numbers_s (x_sh X k) g) = nI z := ez
    rw [e1]
    exact br_t (nI_le (by omega) (by omega)) (h g _ (okL.dayN i (by omega)).z (fun j hj => h1 j (by omega)) h2)
  | succ c ih =>
    intro i g e h1 h2
    rw [wX4_book_59, bkX_sh]
    have e1 : s_size (s_numbers_s (x_sh X k) g) = nI z := ez
    rw [e1, c8 hr]
    refine br_f (nI_ge (by omega) (by omega)) ⟨v8 hr, s2_put (by omega) (fun S13 e13 => ?_)⟩
    have e2 : S13 = bkX X k (vp_updL g i (bkV (s_bits (x_sh X k)) L r i)) (nDay i L) := by
      rw [e13]
      exact bkX_put X k g _ (nDay i L)
    clear e13
    subst e2
    refine s0_goDay (D := 9999 + i) (S := nDay i L) (by omega) (okL.dayN i (by omega)) (fun S15 e15 => ?_)
    have e3 : S15 = bkX X k (vp_updL g i (bkV (s_bits (x_sh X k)) L r i)) (nDay (i + 1) L) := by
      rw [e15, nDay_s]
      rfl
    clear e15
    subst e3
    rw [← nI_succ]
    refine ih (i + 1) _ (by omega) (fun j hj => ?_) (fun j hj => ?_)
    · by_cases q : j = i
      · rw [q, pk_uLs]
      · rw [pk_uLn q]
        exact h1 j (by omega)
    · rw [pk_uLn (by omega)]
      exact h2 j hj
theorem ms_comm (N : MSt) (g g2 : Nat → Int64) (q : Nat → Int32) : m_sheets_s (m_row_s (m_sheets_s N g) q) g2 = m_row_s (m_sheets_s N g2) q := rfl
theorem ms_get (N : MSt) (g : Nat → Int64) (q : Nat → Int32) : m_sheets (m_row_s (m_sheets_s N g) q) = g := rfl
theorem ms_val {N : MSt} {g : Nat → Int64} {q : Nat → Int32} {L : HSt} {k r i : Nat} (eq : rowH q = nDay i L) : nrw (m_bitsOf (m_row_s (m_sheets_s N g) q) k) (Int32.toInt64 (h_memories (rowH (m_row (m_row_s (m_sheets_s N g) q))) r)) = bkV (m_bitsOf N k) L r i := by
  unfold bkV
  rw [← eq]
  rfl
set_option maxHeartbeats 400000 in
theorem s5_book_l {post : Int32 → MSt → Prop} {N : MSt} {k z r : Nat} (L : HSt) (okL : okS 9999 L) (h4 : k < 4) (hr : r < 8) (hz : z ≤ 40) (ez : m_sizeOf N k = nI z) (h : ∀ g q, rowH q = rowH (m_tried N) → (∀ i, i < z → g (40 * k + i) = bkV (m_bitsOf N k) L r i) → (∀ j, (∀ i, i < z → j ≠ 40 * k + i) → g j = m_sheets N j) → post (nI z) (m_row_s (m_sheets_s N g) q)) : ∀ (c i : Nat) (g : Nat → Int64) (q : Nat → Int32), rowH q = nDay i L → i + c = z → (∀ j, j < i → g (40 * k + j) = bkV (m_bitsOf N k) L r j) → (∀ j, (∀ i, i < z → j ≠ 40 * k + i) → g j = m_sheets N j) → wX5_book_42 post (c + 1) (m_row_s (m_sheets_s N g) q) (nI k) (nI r) (nI i) := by
  intro c
  induction c with
  | zero =>
    intro i g q eq e h1 h2
    rw [wX5_book_42, c4 h4, show m_sizeOf (m_row_s (m_sheets_s N g) q) k = nI z from ez]
    refine ⟨v4 h4, br_t (nI_le (by omega) (by omega)) (s5_back_tried (fun q2 e2 => ⟨v4 h4, ?_⟩))⟩
    have := h g q2 e2 (fun j hj => h1 j (by omega)) h2
    rw [← ez] at this
    exact this
  | succ c ih =>
    intro i g q eq e h1 h2
    rw [wX5_book_42, c4 h4, show m_sizeOf (m_row_s (m_sheets_s N g) q) k = nI z from ez]
    refine ⟨v4 h4, br_f (nI_ge (by omega) (by omega)) ⟨v4 h4, s5_there_memories hr (s5_narrow ?_)⟩⟩
    rw [ix40, nI_clamp (n := 40 * k + i) (by omega)]
    refine ⟨vp_in_nI (by omega) (by decide), fun S10 e10 => ?_⟩
    have e2 : S10 = m_row_s (m_sheets_s N (vp_updL g (40 * k + i) (bkV (m_bitsOf N k) L r i))) q := by
      have hv : nrw (m_bitsOf (m_row_s (m_sheets_s N g) q) k) (Int32.toInt64 (h_memories (rowH (m_row (m_row_s (m_sheets_s N g) q))) r)) = bkV (m_bitsOf N k) L r i := ms_val eq
      rw [e10, hv, ms_get]
      exact ms_comm N g _ q
    clear e10
    subst e2
    refine s5_oneDay (D := 9999 + i) (by omega) ?_ (fun q2 e2 => ?_)
    · show okS (9999 + i) (rowH q)
      rw [eq]
      exact okL.dayN i (by omega)
    · replace e2 : rowH q2 = dayS (rowH q) := e2
      rw [eq, ← nDay_s] at e2
      rw [← nI_succ]
      refine ih (i + 1) (vp_updL g (40 * k + i) (bkV (m_bitsOf N k) L r i)) q2 e2 (by omega) (fun j hj => ?_) (fun j hj => ?_)
      · by_cases q : j = i
        · rw [q, pk_uLs]
        · rw [pk_uLn (by omega)]
          exact h1 j (by omega)
      · rw [pk_uLn (hj i (by omega))]
        exact h2 j hj
set_option maxHeartbeats 400000 in
theorem op_book (R : Rel X M) (s r : Int32) : wX4_book (fun a T => wX5_book (fun b N => a = b ∧ Rel T N) M s r) X s r := by
  by_cases c : ∃ j, j < 4 ∧ s = nI j
  · obtain ⟨k, h4, rfl⟩ := c
    obtain ⟨q1, q2, q3, ⟨z, hz, ez⟩⟩ := R.sh h4
    have ez4 : s_size (x_sh X k) = nI z := q2.trans ez
    refine s4_sheetAt_t h4 (sho_some h4 ?_)
    by_cases cm : s_bits (x_sh X k) = 0
    · exact s2_isMissing_t cm (br_f (by decide) (s4_finding_MISSING (s5_badSheet_m h4 (q1 ▸ cm) (br_f (by decide) (s5_finds_MISSING ⟨rfl, R.found 5⟩)))))
    · refine s2_isMissing_f cm (br_t rfl ?_)
      by_cases cr : ∃ j, j < 8 ∧ r = nI j
      · obtain ⟨j, hj, rfl⟩ := cr
        refine s4_isRoom_t hj (bn_f (by decide) (s4_become R R.za (fun S10 e10 => ⟨z + 1, ?_⟩)))
        have e1 : S10 = bkX X k (s_numbers (x_sh X k)) (nDay 0 (x_live X)) := by
          rw [e10]
          have e2 : zupd (x_sh X) k (s_numbers_s (x_sh X k) (s_numbers (x_sh X k))) = x_sh X := by
            funext i
            unfold zupd
            by_cases e : i = k
            · rw [if_pos e, e]; rfl
            · rw [if_neg e]
          unfold bkX
          rw [e2]
          rfl
        clear e10
        subst e1
        refine s4_book_l (X := X) (x_live X) R.ok hj hz ez4 (fun g A zA g1 g2 => ?_) z 0 (s_numbers (x_sh X k)) (by omega) (fun i hi => absurd hi (Nat.not_lt_zero i)) (fun i hi => rfl)
        refine s5_badSheet_t h4 (q1 ▸ cm) (br_t rfl (s5_isRoom_t hj (bn_f (by decide) (s5_save_tried (fun t et => ⟨z + 1, ?_⟩)))))
        refine s5_book_l (N := m_tried_s M t) (x_live X) R.ok h4 hj hz ez (fun g' q eq k1 k2 => ⟨rfl, ?_⟩) z 0 (m_sheets M) (m_row M) R.eL.symm (by omega) (fun i hi => absurd hi (Nat.not_lt_zero i)) (fun i hi => rfl)
        have R2 : Rel (x_sh_s X (zupd (x_sh X) k (s_numbers_s (x_sh X k) g))) (m_sheets_s (m_tried_s M t) g') := by
          refine (R.tried t).numbers h4 (fun j2 h5 h6 i hi => k2 _ (fun i2 hi2 => by omega)) (fun i hi => ?_)
          by_cases w : i < z
          · rw [g1 i w, k1 i w, q1]
            rfl
          · rw [g2 i (by omega), q3 i hi]
            exact (k2 _ (fun i2 hi2 => by omega)).symm
        exact (R2.ahead zA).row (eq.trans et)
      · exact s4_isRoom_f cr (bn_t rfl (s4_finding_BEYOND (s5_badSheet_t h4 (q1 ▸ cm) (br_t rfl (s5_isRoom_f cr (bn_t rfl (s5_finds_BEYOND ⟨rfl, R.found 0⟩)))))))
  · exact s4_sheetAt_f c (sho_none (s4_finding_BEYOND (s5_badSheet_f c (br_f (by decide) (s5_finds_BEYOND ⟨rfl, R.found 0⟩)))))
end Ops9
