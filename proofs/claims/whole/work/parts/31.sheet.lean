section Ops6
variable {X : XSt} {M : MSt}
set_option maxHeartbeats 400000 in
theorem s4_sheetAt_t {post : Option Nat → Prop} {k : Nat} (hk : k < 4) (h : post (some k)) : wX4_sheetAt post (nI k) := by
  unfold wX4_sheetAt
  rw [nI_clamp (by omega)]
  exact s4_in_t (in_nI (n := 3) (by decide) (by omega)).1 (in_nI (n := 3) (by decide) (by omega)).2 (br_f (by decide) ⟨vp_in_nI hk (by decide), h⟩)
set_option maxHeartbeats 400000 in
theorem s4_sheetAt_f {post : Option Nat → Prop} {v : Int32} (hn : ¬ ∃ j, j < 4 ∧ v = nI j) (h : post none) : wX4_sheetAt post v :=
  s4_in_f (fun q => hn (by obtain ⟨j, h1, h2⟩ := in_of (n := 3) (by decide) q; exact ⟨j, by omega, h2⟩)) (br_t rfl h)
set_option maxHeartbeats 400000 in
theorem s5_isSheet_t {post : Int32 → Prop} {k : Nat} (hk : k < 4) (h : post 1) : wX5_isSheet post (nI k) := s5_in_t (in_nI (n := 3) (by decide) (by omega)).1 (in_nI (n := 3) (by decide) (by omega)).2 ⟨Or.inr rfl, h⟩
set_option maxHeartbeats 400000 in
theorem s5_isSheet_f {post : Int32 → Prop} {v : Int32} (hn : ¬ ∃ j, j < 4 ∧ v = nI j) (h : post 0) : wX5_isSheet post v :=
  s5_in_f (fun q => hn (by obtain ⟨j, h1, h2⟩ := in_of (n := 3) (by decide) q; exact ⟨j, by omega, h2⟩)) ⟨Or.inl rfl, h⟩
set_option maxHeartbeats 400000 in
theorem v4 {n : Nat} (h : n < 4) : vp_in (nI n) 4 := vp_in_nI h (by decide)
set_option maxHeartbeats 400000 in
theorem c4 {n : Nat} (h : n < 4) : Int32.toNatClampNeg (nI n) = n := nI_clamp (by omega)
set_option maxHeartbeats 400000 in
theorem sho_none {P0 : Prop} {P1 : Nat → Prop} (h : P0) : ((none : Option Nat) = none → P0) ∧ (∀ k : Nat, (none : Option Nat) = some k → k < 4 ∧ P1 k) := ⟨fun _ => h, fun k q => by cases q⟩
set_option maxHeartbeats 400000 in
theorem sho_some {P0 : Prop} {P1 : Nat → Prop} {k : Nat} (hk : k < 4) (h : P1 k) : (some k = none → P0) ∧ (∀ j : Nat, some k = some j → j < 4 ∧ P1 j) := ⟨fun q => (by cases q), fun j q => (by cases q; exact ⟨hk, h⟩)⟩
/-! one sheet changes -/
set_option maxHeartbeats 400000 in
theorem Rel.sheet (R : Rel X M) {B Z : Nat → Int32} {N : Nat → Int64} {T : SSt} {k : Nat} (hj : ∀ j, j < 4 → j ≠ k → B j = m_bitsOf M j ∧ Z j = m_sizeOf M j ∧ ∀ i, i < 40 → N (40 * j + i) = m_sheets M (40 * j + i)) (hk : s_bits T = B k ∧ s_size T = Z k ∧ (∀ i, i < 40 → s_numbers T i = N (40 * k + i)) ∧ Rg 40 (Z k)) : Rel (x_sh_s X (zupd (x_sh X) k T)) (m_sheets_s (m_sizeOf_s (m_bitsOf_s M B) Z) N) := by
  obtain ⟨r1, r2, r3, r4, r5, r6⟩ := R
  refine ⟨r1, r2, r3, r4, r5, fun j h4 => ?_⟩
  by_cases e : j = k
  · subst e
    have q : x_sh (x_sh_s X (zupd (x_sh X) j T)) j = T := if_pos rfl
    show ShR _ _ j
    unfold ShR
    rw [q]
    exact hk
  · have q : x_sh (x_sh_s X (zupd (x_sh X) k T)) j = x_sh X j := if_neg e
    obtain ⟨a1, a2, a3, a4⟩ := r6 j h4
    obtain ⟨b1, b2, b3⟩ := hj j h4 e
    show ShR _ _ j
    unfold ShR
    rw [q]
    exact ⟨a1.trans b1.symm, a2.trans b2.symm, fun i hi => (a3 i hi).trans (b3 i hi).symm, by show Rg 40 (Z j); rw [b2]; exact a4⟩
set_option maxHeartbeats 400000 in
theorem Rel.numbers (R : Rel X M) {N : Nat → Int64} {g : Nat → Int64} {k : Nat} (h4 : k < 4) (hj : ∀ j, j < 4 → j ≠ k → ∀ i, i < 40 → N (40 * j + i) = m_sheets M (40 * j + i)) (hk : ∀ i, i < 40 → g i = N (40 * k + i)) : Rel (x_sh_s X (zupd (x_sh X) k (s_numbers_s (x_sh X k) g))) (m_sheets_s M N) := by
  obtain ⟨a1, a2, a3, a4⟩ := R.2.2.2.2.2 k h4
  exact R.sheet (B := m_bitsOf M) (Z := m_sizeOf M) (fun j h5 h6 => ⟨rfl, rfl, hj j h5 h6⟩) ⟨a1, a2, hk, a4⟩
/-! a new sheet -/
set_option maxHeartbeats 400000 in
theorem s2_begin_l {post : Int32 → SSt → Prop} {S : SSt} (h : ∀ g, (∀ i, i < 40 → g i = 0) → post (s_size S) (s_numbers_s S g)) : ∀ (c i : Nat) (g : Nat → Int64), i + c = 40 → (∀ j, j < i → g j = 0) → wX2_begin_20 post (c + 1) (s_numbers_s S g) (nI i) := by
  intro c
  induction c with
  | zero =>
    intro i g e hg
    rw [wX2_begin_20]
    exact br_t (nI_le (a := 40) (by omega) (by omega)) (h g (fun j hj => hg j (by omega)))
  | succ c ih =>
    intro i g e hg
    rw [wX2_begin_20, nI_clamp (by omega)]
    refine br_f (nI_ge (b := 40) (by omega) (by omega)) ⟨vp_in_nI (by omega) (by decide), fun S5 e5 => ?_⟩
    subst e5
    rw [← nI_succ]
    refine ih (i + 1) (vp_updL g i 0) (by omega) (fun j hj => ?_)
    by_cases q : j = i
    · rw [q, pk_uLs]
    · rw [pk_uLn q]
      exact hg j (by omega)
set_option maxHeartbeats 400000 in
theorem s2_begin {post : Int32 → SSt → Prop} {S : SSt} {b n : Int32} (h : ∀ T : SSt, s_bits T = b → s_size T = (if b = 0 then 0 else n) → (∀ i, i < 40 → s_numbers T i = 0) → post (if b = 0 then 0 else n) T) : wX2_begin post S b n := by
  intro S1 e1
  subst e1
  refine ⟨fun c S3 e3 => ?_, fun c S3 e3 => ?_⟩
  · subst e3
    rw [if_neg c] at h
    exact ⟨41, s2_begin_l (S := s_size_s (s_bits_s S b) n) (fun g hg => h _ rfl rfl hg) 40 0 (s_numbers S) rfl (fun j hj => absurd hj (Nat.not_lt_zero j))⟩
  · subst e3
    rw [if_pos c] at h
    exact ⟨41, s2_begin_l (S := s_size_s (s_bits_s S b) 0) (fun g hg => h _ rfl rfl hg) 40 0 (s_numbers S) rfl (fun j hj => absurd hj (Nat.not_lt_zero j))⟩
set_option maxHeartbeats 400000 in
theorem ix40 (k i : Nat) : ((40 * nI k) + nI i : Int32) = nI (40 * k + i) := by
  show ((nI 40 * nI k) + nI i : Int32) = _
  rw [nI_mul, nI_add]
set_option maxHeartbeats 400000 in
theorem s5_sheet_l {post : Int32 → MSt → Prop} {N : MSt} {k : Nat} (h4 : k < 4) (h : ∀ g, (∀ j, j < 4 → j ≠ k → ∀ i, i < 40 → g (40 * j + i) = m_sheets N (40 * j + i)) → (∀ i, i < 40 → g (40 * k + i) = 0) → post (m_sizeOf N k) (m_sheets_s N g)) : ∀ (c i : Nat) (g : Nat → Int64), i + c = 40 → (∀ j, j < 4 → j ≠ k → ∀ i, i < 40 → g (40 * j + i) = m_sheets N (40 * j + i)) → (∀ j, j < i → g (40 * k + j) = 0) → wX5_sheet_86 post (c + 1) (m_sheets_s N g) (nI k) (nI i) := by
  intro c
  induction c with
  | zero =>
    intro i g e hg h0
    rw [wX5_sheet_86, c4 h4]
    exact br_t (nI_le (a := 40) (by omega) (by omega)) ⟨v4 h4, h g hg (fun j hj => h0 j (by omega))⟩
  | succ c ih =>
    intro i g e hg h0
    rw [wX5_sheet_86, ix40, nI_clamp (n := 40 * k + i) (by omega)]
    refine br_f (nI_ge (b := 40) (by omega) (by omega)) ⟨vp_in_nI (by omega) (by decide), fun S5 e5 => ?_⟩
    subst e5
    rw [← nI_succ]
    refine ih (i + 1) (vp_updL g (40 * k + i) 0) (by omega) (fun j h5 h6 i2 hi2 => ?_) (fun j hj => ?_)
    · rw [pk_uLn (by omega)]
      exact hg j h5 h6 i2 hi2
    · by_cases q : j = i
      · rw [q, pk_uLs]
      · rw [pk_uLn (by omega)]
        exact h0 j (by omega)
set_option maxHeartbeats 400000 in
theorem s5_sheet_36 {post : Int32 → MSt → Prop} {k : Nat} {b n : Int32} (h4 : k < 4) (c : 0 ≤ n) (c2 : n ≤ 40) (h : ∀ g, (∀ j, j < 4 → j ≠ k → ∀ i, i < 40 → g (40 * j + i) = m_sheets M (40 * j + i)) → (∀ i, i < 40 → g (40 * k + i) = 0) → post (if b = 0 then 0 else n) (m_sheets_s (m_sizeOf_s (m_bitsOf_s M (upd (m_bitsOf M) k b)) (upd (m_sizeOf M) k (if b = 0 then 0 else n))) g)) : wX5_sheet_36 post M (nI k) b n := by
  unfold wX5_sheet_36
  rw [c4 h4]
  refine br_t c (br_t c2 ⟨v4 h4, fun S8 e8 => ?_⟩)
  subst e8
  refine ⟨fun q => ⟨v4 h4, fun S9 e9 => ⟨41, ?_⟩⟩, fun q => ⟨v4 h4, fun S9 e9 => ⟨41, ?_⟩⟩⟩
  · subst e9
    rw [if_neg q] at h
    refine s5_sheet_l (N := m_sizeOf_s (m_bitsOf_s M (upd (m_bitsOf M) k b)) (upd (m_sizeOf M) k n)) h4 (fun g h1 h2 => ?_) 40 0 (m_sheets M) rfl (fun j _ _ i _ => rfl) (fun j hj => absurd hj (Nat.not_lt_zero j))
    have := h g h1 h2
    rw [show m_sizeOf (m_sizeOf_s (m_bitsOf_s M (upd (m_bitsOf M) k b)) (upd (m_sizeOf M) k n)) k = n from upd_eq]
    exact this
  · subst e9
    rw [if_pos q] at h
    refine s5_sheet_l (N := m_sizeOf_s (m_bitsOf_s M (upd (m_bitsOf M) k b)) (upd (m_sizeOf M) k 0)) h4 (fun g h1 h2 => ?_) 40 0 (m_sheets M) rfl (fun j _ _ i _ => rfl) (fun j hj => absurd hj (Nat.not_lt_zero j))
    have := h g h1 h2
    rw [show m_sizeOf (m_sizeOf_s (m_bitsOf_s M (upd (m_bitsOf M) k b)) (upd (m_sizeOf M) k 0)) k = 0 from upd_eq]
    exact this
set_option maxHeartbeats 400000 in
theorem op_sheet (R : Rel X M) (s b n : Int32) : wX4_sheet (fun a T => wX5_sheet (fun b1 N => a = b1 ∧ Rel T N) M s b n) X s b n := by
  by_cases c : ∃ j, j < 4 ∧ s = nI j
  · obtain ⟨k, h4, rfl⟩ := c
    refine s4_sheetAt_t h4 (sho_some h4 ?_)
    have core : ∀ (post : Int32 → MSt → Prop), (b = 0 ∨ b = 8 ∨ b = 16 ∨ b = 64) → wX5_sheet_36 post M (nI k) b n → wX5_sheet post M (nI k) b n := by
      intro post hb h
      refine s5_isSheet_t h4 (br_f (by decide) (br_c (fun _ => h) (fun n0 => br_c (fun _ => h) (fun n1 => br_c (fun _ => h) (fun n2 => br_c (fun _ => h) (fun n3 => ?_))))))
      rcases hb with q | q | q | q
      · exact absurd q n0
      · exact absurd q n1
      · exact absurd q n2
      · exact absurd q n3
    have go : (b = 0 ∨ b = 8 ∨ b = 16 ∨ b = 64) → wX4_sheet_41 (fun a T => wX5_sheet (fun b1 N => a = b1 ∧ Rel T N) M (nI k) b n) k X b n := by
      intro hb
      refine br_c (fun c0 => br_c (fun c1 => s2_begin (fun T t1 t2 t3 S10 e10 => ?_)) (fun c1 => s4_finding_BEYOND (core _ hb ?_))) (fun c0 => s4_finding_SIZE (core _ hb ?_))
      · subst e10
        refine core _ hb (s5_sheet_36 h4 c0 c1 (fun g g1 g2 => ⟨rfl, R.sheet (fun j h5 h6 => ⟨upd_ne h6, upd_ne h6, g1 j h5 h6⟩) ⟨?_, ?_, fun i hi => (t3 i hi).trans (g2 i hi).symm, ?_⟩⟩))
        · rw [upd_eq]; exact t1
        · rw [upd_eq]; exact t2
        · rw [upd_eq]
          split
          · exact Rg0
          · exact Rg.of (n := 40) (by decide) c0 c1
      · exact br_t c0 (br_f c1 (s5_finds_BEYOND ⟨rfl, R.found 0⟩))
      · exact br_f c0 (s5_finds_SIZE ⟨rfl, R.found 6⟩)
    refine br_c (fun q => go (Or.inl q)) (fun n0 => br_c (fun q => go (Or.inr (Or.inl q))) (fun n1 => br_c (fun q => go (Or.inr (Or.inr (Or.inl q)))) (fun n2 => br_c (fun q => go (Or.inr (Or.inr (Or.inr q)))) (fun n3 => s4_finding_BEYOND (s5_isSheet_t h4 (br_f (by decide) (br_f n0 (br_f n1 (br_f n2 (br_f n3 (s5_finds_BEYOND ⟨rfl, R.found 0⟩)))))))))))
  · exact s4_sheetAt_f c (sho_none (s4_finding_BEYOND (s5_isSheet_f c (br_t rfl (s5_finds_BEYOND ⟨rfl, R.found 0⟩)))))
end Ops6
