/-! small methods of both sides -/
theorem cl0 : Int32.toNatClampNeg 0 = 0 := by decide
theorem cl1 : Int32.toNatClampNeg 1 = 1 := by decide
theorem cl2 : Int32.toNatClampNeg 2 = 2 := by decide
theorem cl8 : Int32.toNatClampNeg 8 = 8 := by decide
theorem vp0 : vp_in 0 51 := vp_in_nI (n := 0) (by decide) (by decide)
theorem vp1 : vp_in 1 51 := vp_in_nI (n := 1) (by decide) (by decide)
theorem vp2 : vp_in 2 51 := vp_in_nI (n := 2) (by decide) (by decide)
theorem v8 {n : Nat} (h : n < 8) : vp_in (nI n) 8 := vp_in_nI h (by decide)
theorem c8 {n : Nat} (h : n < 8) : Int32.toNatClampNeg (nI n) = n := nI_clamp (by omega)
theorem ix_dust (d : Nat) : ((3 + (2 * nI d)) + 0 : Int32) = nI (3 + 2 * d) := by
  show ((nI 3 + (nI 2 * nI d)) + nI 0 : Int32) = _
  rw [nI_mul, nI_add, nI_add]
  exact congrArg nI (by omega)
theorem s5_there_dust {post : Int32 → Prop} {M : MSt} {d : Nat} (hd : d < 8) (h : post (h_dust (rowH (m_row M)) d)) : wX5_there post M (nI d) 0 := by
  unfold wX5_there
  rw [ix_dust, nI_clamp (by omega), rowH_dust (r := m_row M) hd]
  exact ⟨vp_in_nI (by omega) (by decide), h⟩
theorem s5_places_dust {post : MSt → Prop} {M : MSt} {d : Nat} {v : Int32} (hd : d < 8) (h : ∀ r, rowH r = h_dust_s (rowH (m_row M)) (upd (h_dust (rowH (m_row M))) d v) → post (m_row_s M r)) : wX5_places post M (nI d) 0 v := by
  unfold wX5_places
  rw [ix_dust, nI_clamp (by omega)]
  exact ⟨vp_in_nI (by omega) (by decide), fun S1 e => by rw [e]; exact h _ (rowU_dust hd)⟩
theorem s5_bec_dust {post : Int32 → MSt → Prop} {M : MSt} {d : Nat} {v : Int32} (hd : d < 8) (h : ∀ r, rowH r = h_dust_s (rowH (m_row M)) (upd (h_dust (rowH (m_row M))) d v) → post (h_dust (rowH (m_row M)) d) (m_row_s M r)) : wX5_becomes post M (nI (3 + 2 * d)) v := by
  unfold wX5_becomes
  rw [nI_clamp (by omega), rowH_dust (r := m_row M) hd]
  exact ⟨vp_in_nI (by omega) (by decide), fun y e => ⟨vp_in_nI (by omega) (by decide), fun S1 e1 => by rw [e, e1]; exact h _ (rowU_dust hd)⟩⟩
theorem ix_memories (d : Nat) : ((3 + (2 * nI d)) + 1 : Int32) = nI (4 + 2 * d) := by
  show ((nI 3 + (nI 2 * nI d)) + nI 1 : Int32) = _
  rw [nI_mul, nI_add, nI_add]
  exact congrArg nI (by omega)
theorem s5_there_memories {post : Int32 → Prop} {M : MSt} {d : Nat} (hd : d < 8) (h : post (h_memories (rowH (m_row M)) d)) : wX5_there post M (nI d) 1 := by
  unfold wX5_there
  rw [ix_memories, nI_clamp (by omega), rowH_memories (r := m_row M) hd]
  exact ⟨vp_in_nI (by omega) (by decide), h⟩
theorem s5_places_memories {post : MSt → Prop} {M : MSt} {d : Nat} {v : Int32} (hd : d < 8) (h : ∀ r, rowH r = h_memories_s (rowH (m_row M)) (upd (h_memories (rowH (m_row M))) d v) → post (m_row_s M r)) : wX5_places post M (nI d) 1 v := by
  unfold wX5_places
  rw [ix_memories, nI_clamp (by omega)]
  exact ⟨vp_in_nI (by omega) (by decide), fun S1 e => by rw [e]; exact h _ (rowU_memories hd)⟩
theorem s5_bec_memories {post : Int32 → MSt → Prop} {M : MSt} {d : Nat} {v : Int32} (hd : d < 8) (h : ∀ r, rowH r = h_memories_s (rowH (m_row M)) (upd (h_memories (rowH (m_row M))) d v) → post (h_memories (rowH (m_row M)) d) (m_row_s M r)) : wX5_becomes post M (nI (4 + 2 * d)) v := by
  unfold wX5_becomes
  rw [nI_clamp (by omega), rowH_memories (r := m_row M) hd]
  exact ⟨vp_in_nI (by omega) (by decide), fun y e => ⟨vp_in_nI (by omega) (by decide), fun S1 e1 => by rw [e, e1]; exact h _ (rowU_memories hd)⟩⟩
theorem ix_kinds (d : Nat) : ((19 + (4 * nI d)) + 0 : Int32) = nI (19 + 4 * d) := by
  show ((nI 19 + (nI 4 * nI d)) + nI 0 : Int32) = _
  rw [nI_mul, nI_add, nI_add]
  exact congrArg nI (by omega)
theorem s5_its_kinds {post : Int32 → Prop} {M : MSt} {d : Nat} (hd : d < 8) (h : post (h_kinds (rowH (m_row M)) d)) : wX5_its post M (nI d) 0 := by
  unfold wX5_its
  rw [ix_kinds, nI_clamp (by omega), rowH_kinds (r := m_row M) hd]
  exact ⟨vp_in_nI (by omega) (by decide), h⟩
theorem s5_puts_kinds {post : MSt → Prop} {M : MSt} {d : Nat} {v : Int32} (hd : d < 8) (h : ∀ r, rowH r = h_kinds_s (rowH (m_row M)) (upd (h_kinds (rowH (m_row M))) d v) → post (m_row_s M r)) : wX5_puts post M (nI d) 0 v := by
  unfold wX5_puts
  rw [ix_kinds, nI_clamp (by omega)]
  exact ⟨vp_in_nI (by omega) (by decide), fun S1 e => by rw [e]; exact h _ (rowU_kinds hd)⟩
theorem s5_bec_kinds {post : Int32 → MSt → Prop} {M : MSt} {d : Nat} {v : Int32} (hd : d < 8) (h : ∀ r, rowH r = h_kinds_s (rowH (m_row M)) (upd (h_kinds (rowH (m_row M))) d v) → post (h_kinds (rowH (m_row M)) d) (m_row_s M r)) : wX5_becomes post M (nI (19 + 4 * d)) v := by
  unfold wX5_becomes
  rw [nI_clamp (by omega), rowH_kinds (r := m_row M) hd]
  exact ⟨vp_in_nI (by omega) (by decide), fun y e => ⟨vp_in_nI (by omega) (by decide), fun S1 e1 => by rw [e, e1]; exact h _ (rowU_kinds hd)⟩⟩
theorem ix_held (d : Nat) : ((19 + (4 * nI d)) + 1 : Int32) = nI (20 + 4 * d) := by
  show ((nI 19 + (nI 4 * nI d)) + nI 1 : Int32) = _
  rw [nI_mul, nI_add, nI_add]
  exact congrArg nI (by omega)
theorem s5_its_held {post : Int32 → Prop} {M : MSt} {d : Nat} (hd : d < 8) (h : post (h_held (rowH (m_row M)) d)) : wX5_its post M (nI d) 1 := by
  unfold wX5_its
  rw [ix_held, nI_clamp (by omega), rowH_held (r := m_row M) hd]
  exact ⟨vp_in_nI (by omega) (by decide), h⟩
theorem s5_puts_held {post : MSt → Prop} {M : MSt} {d : Nat} {v : Int32} (hd : d < 8) (h : ∀ r, rowH r = h_held_s (rowH (m_row M)) (upd (h_held (rowH (m_row M))) d v) → post (m_row_s M r)) : wX5_puts post M (nI d) 1 v := by
  unfold wX5_puts
  rw [ix_held, nI_clamp (by omega)]
  exact ⟨vp_in_nI (by omega) (by decide), fun S1 e => by rw [e]; exact h _ (rowU_held hd)⟩
theorem s5_bec_held {post : Int32 → MSt → Prop} {M : MSt} {d : Nat} {v : Int32} (hd : d < 8) (h : ∀ r, rowH r = h_held_s (rowH (m_row M)) (upd (h_held (rowH (m_row M))) d v) → post (h_held (rowH (m_row M)) d) (m_row_s M r)) : wX5_becomes post M (nI (20 + 4 * d)) v := by
  unfold wX5_becomes
  rw [nI_clamp (by omega), rowH_held (r := m_row M) hd]
  exact ⟨vp_in_nI (by omega) (by decide), fun y e => ⟨vp_in_nI (by omega) (by decide), fun S1 e1 => by rw [e, e1]; exact h _ (rowU_held hd)⟩⟩
theorem ix_grimes (d : Nat) : ((19 + (4 * nI d)) + 2 : Int32) = nI (21 + 4 * d) := by
  show ((nI 19 + (nI 4 * nI d)) + nI 2 : Int32) = _
  rw [nI_mul, nI_add, nI_add]
  exact congrArg nI (by omega)
theorem s5_its_grimes {post : Int32 → Prop} {M : MSt} {d : Nat} (hd : d < 8) (h : post (h_grimes (rowH (m_row M)) d)) : wX5_its post M (nI d) 2 := by
  unfold wX5_its
  rw [ix_grimes, nI_clamp (by omega), rowH_grimes (r := m_row M) hd]
  exact ⟨vp_in_nI (by omega) (by decide), h⟩
theorem s5_puts_grimes {post : MSt → Prop} {M : MSt} {d : Nat} {v : Int32} (hd : d < 8) (h : ∀ r, rowH r = h_grimes_s (rowH (m_row M)) (upd (h_grimes (rowH (m_row M))) d v) → post (m_row_s M r)) : wX5_puts post M (nI d) 2 v := by
  unfold wX5_puts
  rw [ix_grimes, nI_clamp (by omega)]
  exact ⟨vp_in_nI (by omega) (by decide), fun S1 e => by rw [e]; exact h _ (rowU_grimes hd)⟩
theorem s5_bec_grimes {post : Int32 → MSt → Prop} {M : MSt} {d : Nat} {v : Int32} (hd : d < 8) (h : ∀ r, rowH r = h_grimes_s (rowH (m_row M)) (upd (h_grimes (rowH (m_row M))) d v) → post (h_grimes (rowH (m_row M)) d) (m_row_s M r)) : wX5_becomes post M (nI (21 + 4 * d)) v := by
  unfold wX5_becomes
  rw [nI_clamp (by omega), rowH_grimes (r := m_row M) hd]
  exact ⟨vp_in_nI (by omega) (by decide), fun y e => ⟨vp_in_nI (by omega) (by decide), fun S1 e1 => by rw [e, e1]; exact h _ (rowU_grimes hd)⟩⟩
theorem ix_rounds (d : Nat) : ((19 + (4 * nI d)) + 3 : Int32) = nI (22 + 4 * d) := by
  show ((nI 19 + (nI 4 * nI d)) + nI 3 : Int32) = _
  rw [nI_mul, nI_add, nI_add]
  exact congrArg nI (by omega)
theorem s5_its_rounds {post : Int32 → Prop} {M : MSt} {d : Nat} (hd : d < 8) (h : post (h_rounds (rowH (m_row M)) d)) : wX5_its post M (nI d) 3 := by
  unfold wX5_its
  rw [ix_rounds, nI_clamp (by omega), rowH_rounds (r := m_row M) hd]
  exact ⟨vp_in_nI (by omega) (by decide), h⟩
theorem s5_puts_rounds {post : MSt → Prop} {M : MSt} {d : Nat} {v : Int32} (hd : d < 8) (h : ∀ r, rowH r = h_rounds_s (rowH (m_row M)) (upd (h_rounds (rowH (m_row M))) d v) → post (m_row_s M r)) : wX5_puts post M (nI d) 3 v := by
  unfold wX5_puts
  rw [ix_rounds, nI_clamp (by omega)]
  exact ⟨vp_in_nI (by omega) (by decide), fun S1 e => by rw [e]; exact h _ (rowU_rounds hd)⟩
theorem s5_bec_rounds {post : Int32 → MSt → Prop} {M : MSt} {d : Nat} {v : Int32} (hd : d < 8) (h : ∀ r, rowH r = h_rounds_s (rowH (m_row M)) (upd (h_rounds (rowH (m_row M))) d v) → post (h_rounds (rowH (m_row M)) d) (m_row_s M r)) : wX5_becomes post M (nI (22 + 4 * d)) v := by
  unfold wX5_becomes
  rw [nI_clamp (by omega), rowH_rounds (r := m_row M) hd]
  exact ⟨vp_in_nI (by omega) (by decide), fun y e => ⟨vp_in_nI (by omega) (by decide), fun S1 e1 => by rw [e, e1]; exact h _ (rowU_rounds hd)⟩⟩
theorem s5_bec_fall {post : Int32 → MSt → Prop} {M : MSt} {v : Int32} (h : ∀ r, rowH r = h_fall_s (rowH (m_row M)) v → post (h_fall (rowH (m_row M))) (m_row_s M r)) : wX5_becomes post M 1 v := by
  unfold wX5_becomes
  rw [cl1]
  exact ⟨vp1, fun y e => ⟨vp1, fun S1 e1 => by rw [e, e1]; exact h _ rowU_fall⟩⟩
theorem s5_in_t {post : Int32 → Prop} {v a b : Int32} (h1 : a ≤ v) (h2 : v ≤ b) (h : post 1) : wX5_in post v a b := br_f (Int32.not_lt.mpr h1) (br_f (Int32.not_lt.mpr h2) h)
theorem s5_in_f {post : Int32 → Prop} {v a b : Int32} (hn : ¬ (a ≤ v ∧ v ≤ b)) (h : post 0) : wX5_in post v a b := by
  by_cases c : v < a
  · exact br_t c h
  · refine br_f c (br_t ?_ h)
    exact Int32.not_le.mp (fun q => hn ⟨Int32.not_lt.mp c, q⟩)
theorem s4_in_t {post : Int32 → Prop} {v a b : Int32} (h1 : a ≤ v) (h2 : v ≤ b) (h : post 1) : wX4_within post v a b := br_f (Int32.not_lt.mpr h1) (br_f (Int32.not_lt.mpr h2) h)
theorem s4_in_f {post : Int32 → Prop} {v a b : Int32} (hn : ¬ (a ≤ v ∧ v ≤ b)) (h : post 0) : wX4_within post v a b := by
  by_cases c : v < a
  · exact br_t c h
  · refine br_f c (br_t ?_ h)
    exact Int32.not_le.mp (fun q => hn ⟨Int32.not_lt.mp c, q⟩)
/-- v lies in 0 .. n -/
theorem in_of {v : Int32} {n : Nat} (hn : n < 2 ^ 31) (h : 0 ≤ v ∧ v ≤ nI n) : ∃ j, j ≤ n ∧ v = nI j := Rg.of hn h.1 h.2
theorem in_nI {j n : Nat} (hn : n < 2 ^ 31) (h : j ≤ n) : 0 ≤ nI j ∧ nI j ≤ nI n := ⟨nI_pos' (by omega), nI_le h hn⟩
theorem s4_isRoom_t {post : Int32 → Prop} {j : Nat} (hj : j < 8) (h : post 1) : wX4_isRoom post (nI j) := s4_in_t (in_nI (n := 7) (by decide) (by omega)).1 (in_nI (n := 7) (by decide) (by omega)).2 ⟨Or.inr rfl, h⟩
theorem s4_isRoom_f {post : Int32 → Prop} {v : Int32} (hn : ¬ ∃ j, j < 8 ∧ v = nI j) (h : post 0) : wX4_isRoom post v := s4_in_f (fun q => hn (by obtain ⟨j, h1, h2⟩ := in_of (n := 7) (by decide) q; exact ⟨j, by omega, h2⟩)) ⟨Or.inl rfl, h⟩
theorem s5_isRoom_t {post : Int32 → Prop} {j : Nat} (hj : j < 8) (h : post 1) : wX5_isRoom post (nI j) := s5_in_t (in_nI (n := 7) (by decide) (by omega)).1 (in_nI (n := 7) (by decide) (by omega)).2 ⟨Or.inr rfl, h⟩
theorem s5_isRoom_f {post : Int32 → Prop} {v : Int32} (hn : ¬ ∃ j, j < 8 ∧ v = nI j) (h : post 0) : wX5_isRoom post v := s5_in_f (fun q => hn (by obtain ⟨j, h1, h2⟩ := in_of (n := 7) (by decide) q; exact ⟨j, by omega, h2⟩)) ⟨Or.inl rfl, h⟩
theorem s4_isKind_t {post : Int32 → Prop} {j : Nat} (hj : j < 6) (h : post 1) : wX4_isKind post (nI j) := s4_in_t (in_nI (n := 5) (by decide) (by omega)).1 (in_nI (n := 5) (by decide) (by omega)).2 ⟨Or.inr rfl, h⟩
theorem s4_isKind_f {post : Int32 → Prop} {v : Int32} (hn : ¬ ∃ j, j < 6 ∧ v = nI j) (h : post 0) : wX4_isKind post v := s4_in_f (fun q => hn (by obtain ⟨j, h1, h2⟩ := in_of (n := 5) (by decide) q; exact ⟨j, by omega, h2⟩)) ⟨Or.inl rfl, h⟩
theorem s5_isKind_t {post : Int32 → Prop} {j : Nat} (hj : j < 6) (h : post 1) : wX5_isKind post (nI j) := s5_in_t (in_nI (n := 5) (by decide) (by omega)).1 (in_nI (n := 5) (by decide) (by omega)).2 ⟨Or.inr rfl, h⟩
theorem s5_isKind_f {post : Int32 → Prop} {v : Int32} (hn : ¬ ∃ j, j < 6 ∧ v = nI j) (h : post 0) : wX5_isKind post v := s5_in_f (fun q => hn (by obtain ⟨j, h1, h2⟩ := in_of (n := 5) (by decide) q; exact ⟨j, by omega, h2⟩)) ⟨Or.inl rfl, h⟩
theorem s4_isMemory_t {post : Int32 → Prop} {j : Nat} (hj : j < 10) (h : post 1) : wX4_isMemory post (nI j) := s4_in_t (in_nI (n := 9) (by decide) (by omega)).1 (in_nI (n := 9) (by decide) (by omega)).2 ⟨Or.inr rfl, h⟩
theorem s4_isMemory_f {post : Int32 → Prop} {v : Int32} (hn : ¬ ∃ j, j < 10 ∧ v = nI j) (h : post 0) : wX4_isMemory post v := s4_in_f (fun q => hn (by obtain ⟨j, h1, h2⟩ := in_of (n := 9) (by decide) q; exact ⟨j, by omega, h2⟩)) ⟨Or.inl rfl, h⟩
theorem s5_isMemory_t {post : Int32 → Prop} {j : Nat} (hj : j < 10) (h : post 1) : wX5_isMemory post (nI j) := s5_in_t (in_nI (n := 9) (by decide) (by omega)).1 (in_nI (n := 9) (by decide) (by omega)).2 ⟨Or.inr rfl, h⟩
theorem s5_isMemory_f {post : Int32 → Prop} {v : Int32} (hn : ¬ ∃ j, j < 10 ∧ v = nI j) (h : post 0) : wX5_isMemory post v := s5_in_f (fun q => hn (by obtain ⟨j, h1, h2⟩ := in_of (n := 9) (by decide) q; exact ⟨j, by omega, h2⟩)) ⟨Or.inl rfl, h⟩
theorem isD_iff {v : Int32} {k : Nat} (hk : k ≤ 8) : (0 ≤ v ∧ v ≤ nI k - 1) ↔ ∃ j, j < k ∧ v = nI j := by
  constructor
  · rintro ⟨h1, h2⟩
    cases k with
    | zero =>
      have h3 : (0 : Int32) ≤ nI 0 - 1 := Int32.le_trans h1 h2
      exact absurd h3 (by decide)
    | succ k =>
      rw [nI_pred] at h2
      obtain ⟨j, hj, e⟩ := in_of (n := k) (by omega) ⟨h1, h2⟩
      exact ⟨j, by omega, e⟩
  · rintro ⟨j, hj, rfl⟩
    cases k with
    | zero => omega
    | succ k =>
      rw [nI_pred]
      exact in_nI (by omega) (by omega)
theorem s4_isDuster_t {post : Int32 → Prop} {X : XSt} {j k : Nat} (hk : k ≤ 8) (e : h_dusters (x_live X) = nI k) (hj : j < k) (h : post 1) : wX4_isDuster post X (nI j) := by
  unfold wX4_isDuster
  rw [e]
  have q := (isD_iff hk).mpr ⟨j, hj, rfl⟩
  exact s4_in_t q.1 q.2 ⟨Or.inr rfl, h⟩
theorem s4_isDuster_f {post : Int32 → Prop} {X : XSt} {v : Int32} {k : Nat} (hk : k ≤ 8) (e : h_dusters (x_live X) = nI k) (hj : ¬ ∃ j, j < k ∧ v = nI j) (h : post 0) : wX4_isDuster post X v := by
  unfold wX4_isDuster
  rw [e]
  exact s4_in_f (fun q => hj ((isD_iff hk).mp q)) ⟨Or.inl rfl, h⟩
theorem s5_isOne_t {post : Int32 → Prop} {M : MSt} {j k : Nat} (hk : k ≤ 8) (e : h_dusters (rowH (m_row M)) = nI k) (hj : j < k) (h : post 1) : wX5_isOne post M (nI j) := by
  unfold wX5_isOne
  rw [cl2, show m_row M 2 = nI k from e]
  have q := (isD_iff hk).mpr ⟨j, hj, rfl⟩
  exact ⟨vp2, s5_in_t q.1 q.2 ⟨Or.inr rfl, h⟩⟩
theorem s5_isOne_f {post : Int32 → Prop} {M : MSt} {v : Int32} {k : Nat} (hk : k ≤ 8) (e : h_dusters (rowH (m_row M)) = nI k) (hj : ¬ ∃ j, j < k ∧ v = nI j) (h : post 0) : wX5_isOne post M v := by
  unfold wX5_isOne
  rw [cl2, show m_row M 2 = nI k from e]
  exact ⟨vp2, s5_in_f (fun q => hj ((isD_iff hk).mp q)) ⟨Or.inl rfl, h⟩⟩
theorem s5_finds_BEYOND {post : Int32 → MSt → Prop} {M : MSt} (h : post (-1000000001) (m_found_s M (upd (m_found M) 0 (m_found M 0 + 1)))) : wX5_finds post M (-1000000001) := by
  have e : ((-1000000001) - (-1000000001) : Int32) = nI 0 := by decide
  unfold wX5_finds
  rw [e, nI_clamp (by decide)]
  exact ⟨vp_in_nI (by decide) (by decide), vp_in_nI (by decide) (by decide), fun S1 e1 => by rw [e1]; exact h⟩
theorem s4_finding_BEYOND {post : Int32 → XSt → Prop} {X : XSt} (h : post (-1000000001) (x_found_s X (upd (x_found X) 0 (x_found X 0 + 1)))) : wX4_finding post X (-1000000001) := by
  have e : ((-1000000001) - (-1000000001) : Int32) = nI 0 := by decide
  unfold wX4_finding
  intro y ey
  rw [e] at ey
  subst ey
  refine br_f (nI_pos (by decide)) (br_f (nI_ge (a := 0) (b := 7) (by decide) (by decide)) ⟨vp_in_nI (by decide) (by decide), vp_in_nI (by decide) (by decide), fun S1 e1 => ?_⟩)
  rw [e1, nI_clamp (by decide)]
  exact h
theorem s5_finds_FULL {post : Int32 → MSt → Prop} {M : MSt} (h : post (-1000000002) (m_found_s M (upd (m_found M) 1 (m_found M 1 + 1)))) : wX5_finds post M (-1000000002) := by
  have e : ((-1000000001) - (-1000000002) : Int32) = nI 1 := by decide
  unfold wX5_finds
  rw [e, nI_clamp (by decide)]
  exact ⟨vp_in_nI (by decide) (by decide), vp_in_nI (by decide) (by decide), fun S1 e1 => by rw [e1]; exact h⟩
theorem s4_finding_FULL {post : Int32 → XSt → Prop} {X : XSt} (h : post (-1000000002) (x_found_s X (upd (x_found X) 1 (x_found X 1 + 1)))) : wX4_finding post X (-1000000002) := by
  have e : ((-1000000001) - (-1000000002) : Int32) = nI 1 := by decide
  unfold wX4_finding
  intro y ey
  rw [e] at ey
  subst ey
  refine br_f (nI_pos (by decide)) (br_f (nI_ge (a := 1) (b := 7) (by decide) (by decide)) ⟨vp_in_nI (by decide) (by decide), vp_in_nI (by decide) (by decide), fun S1 e1 => ?_⟩)
  rw [e1, nI_clamp (by decide)]
  exact h
theorem s5_finds_KIND {post : Int32 → MSt → Prop} {M : MSt} (h : post (-1000000003) (m_found_s M (upd (m_found M) 2 (m_found M 2 + 1)))) : wX5_finds post M (-1000000003) := by
  have e : ((-1000000001) - (-1000000003) : Int32) = nI 2 := by decide
  unfold wX5_finds
  rw [e, nI_clamp (by decide)]
  exact ⟨vp_in_nI (by decide) (by decide), vp_in_nI (by decide) (by decide), fun S1 e1 => by rw [e1]; exact h⟩
theorem s4_finding_KIND {post : Int32 → XSt → Prop} {X : XSt} (h : post (-1000000003) (x_found_s X (upd (x_found X) 2 (x_found X 2 + 1)))) : wX4_finding post X (-1000000003) := by
  have e : ((-1000000001) - (-1000000003) : Int32) = nI 2 := by decide
  unfold wX4_finding
  intro y ey
  rw [e] at ey
  subst ey
  refine br_f (nI_pos (by decide)) (br_f (nI_ge (a := 2) (b := 7) (by decide) (by decide)) ⟨vp_in_nI (by decide) (by decide), vp_in_nI (by decide) (by decide), fun S1 e1 => ?_⟩)
  rw [e1, nI_clamp (by decide)]
  exact h
theorem s5_finds_NONE {post : Int32 → MSt → Prop} {M : MSt} (h : post (-1000000004) (m_found_s M (upd (m_found M) 3 (m_found M 3 + 1)))) : wX5_finds post M (-1000000004) := by
  have e : ((-1000000001) - (-1000000004) : Int32) = nI 3 := by decide
  unfold wX5_finds
  rw [e, nI_clamp (by decide)]
  exact ⟨vp_in_nI (by decide) (by decide), vp_in_nI (by decide) (by decide), fun S1 e1 => by rw [e1]; exact h⟩
theorem s4_finding_NONE {post : Int32 → XSt → Prop} {X : XSt} (h : post (-1000000004) (x_found_s X (upd (x_found X) 3 (x_found X 3 + 1)))) : wX4_finding post X (-1000000004) := by
  have e : ((-1000000001) - (-1000000004) : Int32) = nI 3 := by decide
  unfold wX4_finding
  intro y ey
  rw [e] at ey
  subst ey
  refine br_f (nI_pos (by decide)) (br_f (nI_ge (a := 3) (b := 7) (by decide) (by decide)) ⟨vp_in_nI (by decide) (by decide), vp_in_nI (by decide) (by decide), fun S1 e1 => ?_⟩)
  rw [e1, nI_clamp (by decide)]
  exact h
theorem s5_finds_STATE {post : Int32 → MSt → Prop} {M : MSt} (h : post (-1000000005) (m_found_s M (upd (m_found M) 4 (m_found M 4 + 1)))) : wX5_finds post M (-1000000005) := by
  have e : ((-1000000001) - (-1000000005) : Int32) = nI 4 := by decide
  unfold wX5_finds
  rw [e, nI_clamp (by decide)]
  exact ⟨vp_in_nI (by decide) (by decide), vp_in_nI (by decide) (by decide), fun S1 e1 => by rw [e1]; exact h⟩
theorem s4_finding_STATE {post : Int32 → XSt → Prop} {X : XSt} (h : post (-1000000005) (x_found_s X (upd (x_found X) 4 (x_found X 4 + 1)))) : wX4_finding post X (-1000000005) := by
  have e : ((-1000000001) - (-1000000005) : Int32) = nI 4 := by decide
  unfold wX4_finding
  intro y ey
  rw [e] at ey
  subst ey
  refine br_f (nI_pos (by decide)) (br_f (nI_ge (a := 4) (b := 7) (by decide) (by decide)) ⟨vp_in_nI (by decide) (by decide), vp_in_nI (by decide) (by decide), fun S1 e1 => ?_⟩)
  rw [e1, nI_clamp (by decide)]
  exact h
theorem s5_finds_MISSING {post : Int32 → MSt → Prop} {M : MSt} (h : post (-1000000006) (m_found_s M (upd (m_found M) 5 (m_found M 5 + 1)))) : wX5_finds post M (-1000000006) := by
  have e : ((-1000000001) - (-1000000006) : Int32) = nI 5 := by decide
  unfold wX5_finds
  rw [e, nI_clamp (by decide)]
  exact ⟨vp_in_nI (by decide) (by decide), vp_in_nI (by decide) (by decide), fun S1 e1 => by rw [e1]; exact h⟩
theorem s4_finding_MISSING {post : Int32 → XSt → Prop} {X : XSt} (h : post (-1000000006) (x_found_s X (upd (x_found X) 5 (x_found X 5 + 1)))) : wX4_finding post X (-1000000006) := by
  have e : ((-1000000001) - (-1000000006) : Int32) = nI 5 := by decide
  unfold wX4_finding
  intro y ey
  rw [e] at ey
  subst ey
  refine br_f (nI_pos (by decide)) (br_f (nI_ge (a := 5) (b := 7) (by decide) (by decide)) ⟨vp_in_nI (by decide) (by decide), vp_in_nI (by decide) (by decide), fun S1 e1 => ?_⟩)
  rw [e1, nI_clamp (by decide)]
  exact h
theorem s5_finds_SIZE {post : Int32 → MSt → Prop} {M : MSt} (h : post (-1000000007) (m_found_s M (upd (m_found M) 6 (m_found M 6 + 1)))) : wX5_finds post M (-1000000007) := by
  have e : ((-1000000001) - (-1000000007) : Int32) = nI 6 := by decide
  unfold wX5_finds
  rw [e, nI_clamp (by decide)]
  exact ⟨vp_in_nI (by decide) (by decide), vp_in_nI (by decide) (by decide), fun S1 e1 => by rw [e1]; exact h⟩
theorem s4_finding_SIZE {post : Int32 → XSt → Prop} {X : XSt} (h : post (-1000000007) (x_found_s X (upd (x_found X) 6 (x_found X 6 + 1)))) : wX4_finding post X (-1000000007) := by
  have e : ((-1000000001) - (-1000000007) : Int32) = nI 6 := by decide
  unfold wX4_finding
  intro y ey
  rw [e] at ey
  subst ey
  refine br_f (nI_pos (by decide)) (br_f (nI_ge (a := 6) (b := 7) (by decide) (by decide)) ⟨vp_in_nI (by decide) (by decide), vp_in_nI (by decide) (by decide), fun S1 e1 => ?_⟩)
  rw [e1, nI_clamp (by decide)]
  exact h
