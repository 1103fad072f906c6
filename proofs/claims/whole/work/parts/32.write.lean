section Ops7
variable {X : XSt} {M : MSt}
def nrw (b : Int32) (v : Int64) : Int64 := if b = 8 then Int32.toInt64 ((Int32.toInt8 (Int64.toInt32 v)).toInt32) else if b = 16 then Int32.toInt64 ((Int32.toInt16 (Int64.toInt32 v)).toInt32) else v
set_option maxHeartbeats 400000 in
theorem v40 {n : Nat} (h : n < 40) : vp_in (nI n) 40 := vp_in_nI h (by decide)
set_option maxHeartbeats 400000 in
theorem s2_put {post : SSt → Prop} {S : SSt} {i : Nat} {v : Int64} (hi : i < 40) (h : post (s_numbers_s S (vp_updL (s_numbers S) i (nrw (s_bits S) v)))) : wX2_put post S (nI i) v := by
  unfold wX2_put
  rw [nI_clamp (by omega)]
  unfold nrw at h
  refine ⟨fun c => ⟨fun c2 => ⟨v40 hi, fun S3 e3 => ?_⟩, fun c2 => ⟨v40 hi, fun S3 e3 => ?_⟩⟩, fun c => ⟨v40 hi, fun S3 e3 => ?_⟩⟩
  · subst e3
    rw [if_neg c, if_neg c2] at h
    exact h
  · subst e3
    rw [if_neg c, if_pos c2] at h
    exact h
  · subst e3
    rw [if_pos c] at h
    exact h
set_option maxHeartbeats 400000 in
theorem s5_narrow {post : Int64 → Prop} {b : Int32} {v : Int64} (h : post (nrw b v)) : wX5_narrow post b v := by
  unfold nrw at h
  refine ⟨fun c => ⟨fun c2 => ?_, fun c2 => ?_⟩, fun c => ?_⟩
  · rw [if_neg c, if_neg c2] at h
    exact h
  · rw [if_neg c, if_pos c2] at h
    rw [nar16]
    exact h
  · rw [if_pos c] at h
    rw [nar8]
    exact h
set_option maxHeartbeats 400000 in
theorem isZ_iff {v : Int32} {k : Nat} (hk : k ≤ 40) : (0 ≤ v ∧ v ≤ nI k - 1) ↔ ∃ j, j < k ∧ v = nI j := by
  constructor
  · rintro ⟨h1, h2⟩
    cases k with
    | zero =>
      have h3 : (0 : Int32) ≤ nI 0 - 1 := Int32.le_trans h1 h2
      exact absurd h3 (by decide)
    | succ k =>
      rw [nI_pred] at h2
      obtain ⟨j, hj, e⟩ := in_of (n := k) (by omega) ⟨h1, h2⟩
      exact ⟨j, by omega, e⟩
  · rintro ⟨j, hj, rfl⟩
    cases k with
    | zero => omega
    | succ k =>
      rw [nI_pred]
      exact in_nI (by omega) (by omega)
set_option maxHeartbeats 400000 in
theorem s2_isMissing_t {post : Int32 → Prop} {S : SSt} (c : s_bits S = 0) (h : post 1) : wX2_isMissing post S := bn_t c h
set_option maxHeartbeats 400000 in
theorem s2_isMissing_f {post : Int32 → Prop} {S : SSt} (c : ¬ s_bits S = 0) (h : post 0) : wX2_isMissing post S := bn_f c h
set_option maxHeartbeats 400000 in
theorem Rel.sh (R : Rel X M) {k : Nat} (h4 : k < 4) : ShR X M k := R.2.2.2.2.2 k h4
set_option maxHeartbeats 400000 in
theorem op_write (R : Rel X M) (s i : Int32) (v : Int64) : wX4_write (fun a T => wX5_write (fun b N => a = b ∧ Rel T N) M s i v) X s i v := by
  by_cases c : ∃ j, j < 4 ∧ s = nI j
  · obtain ⟨k, h4, rfl⟩ := c
    obtain ⟨q1, q2, q3, ⟨z, hz, ez⟩⟩ := R.sh h4
    have ez4 : s_size (x_sh X k) = nI z := q2.trans ez
    refine s4_sheetAt_t h4 (sho_some h4 ?_)
    by_cases cm : s_bits (x_sh X k) = 0
    · refine s2_isMissing_t cm (br_f (by decide) (s4_finding_MISSING (s5_isSheet_t h4 (bn_f (by decide) ?_))))
      rw [c4 h4]
      exact ⟨v4 h4, bn_t (q1 ▸ cm) (s5_finds_MISSING ⟨rfl, R.found 5⟩)⟩
    · refine s2_isMissing_f cm (br_t rfl ?_)
      rw [ez4]
      have m0 : ∀ (post : Int64 → MSt → Prop), wX5_in (fun v4 => (¬ v4 = 0 → vp_in ((40 * nI k) + i) 160 ∧ (∀ y6 : Int64, y6 = (m_sheets M (Int32.toNatClampNeg ((40 * nI k) + i))) → (vp_in (nI k) 4 ∧ (wX5_narrow (fun v7 => vp_in ((40 * nI k) + i) 160 ∧ (∀ S8 : MSt, S8 = (m_sheets_s M (vp_updL (m_sheets M) (Int32.toNatClampNeg ((40 * nI k) + i)) v7)) → (post y6 S8))) (m_bitsOf M k) v)))) ∧ (v4 = 0 → wX5_finds (fun v9 S10 => post (Int32.toInt64 v9) S10) M (-1000000001))) i 0 (nI z - 1) → wX5_write post M (nI k) i v := by
        intro post h
        refine s5_isSheet_t h4 (bn_f (by decide) ?_)
        rw [c4 h4, ez]
        exact ⟨v4 h4, bn_f (q1 ▸ cm) ⟨v4 h4, h⟩⟩
      by_cases ci : ∃ j, j < z ∧ i = nI j
      · obtain ⟨j, hj, rfl⟩ := ci
        have hj40 : j < 40 := by omega
        have cc := (isZ_iff hz).mpr ⟨j, hj, rfl⟩
        refine s4_in_t cc.1 cc.2 (bn_f (by decide) ?_)
        rw [nI_clamp (by omega)]
        refine ⟨v40 hj40, fun y ey => s2_put hj40 (fun S11 e11 => ?_)⟩
        subst ey; subst e11
        refine m0 _ (s5_in_t cc.1 cc.2 (bn_f (by decide) ?_))
        rw [ix40, nI_clamp (by omega)]
        refine ⟨vp_in_nI (by omega) (by decide), fun y ey => ⟨v4 h4, s5_narrow ⟨vp_in_nI (by omega) (by decide), fun S8 e8 => ?_⟩⟩⟩
        subst ey; subst e8
        refine ⟨q3 j hj40, R.numbers h4 (fun j2 h5 h6 i2 hi2 => pk_uLn (by omega)) (fun i2 hi2 => ?_)⟩
        rw [q1]
        by_cases e : i2 = j
        · rw [e, pk_uLs, pk_uLs]
        · rw [pk_uLn e, pk_uLn (by omega)]
          exact q3 i2 hi2
      · have cc : ¬ (0 ≤ i ∧ i ≤ nI z - 1) := fun q => ci ((isZ_iff hz).mp q)
        exact s4_in_f cc (bn_t rfl (s4_finding_BEYOND (m0 _ (s5_in_f cc (bn_t rfl (s5_finds_BEYOND ⟨rfl, R.found 0⟩))))))
  · exact s4_sheetAt_f c (sho_none (s4_finding_BEYOND (s5_isSheet_f c (bn_t rfl (s5_finds_BEYOND ⟨rfl, R.found 0⟩)))))
/-! copy -/
def hrP (z f n : Int32) : Prop := ¬ f < 0 ∧ ¬ n < 0 ∧ ¬ z < n ∧ ¬ z - n < f
set_option maxHeartbeats 400000 in
theorem s2_hasRun_t {post : Int32 → Prop} {S : SSt} {f n : Int32} (c : hrP (s_size S) f n) (h : post 1) : wX2_hasRun post S f n := br_f c.1 (br_f c.2.1 (br_f c.2.2.1 (br_f c.2.2.2 h)))
set_option maxHeartbeats 400000 in
theorem s2_hasRun_f {post : Int32 → Prop} {S : SSt} {f n : Int32} (c : ¬ hrP (s_size S) f n) (h : post 0) : wX2_hasRun post S f n :=
  br_c (fun _ => h) (fun c1 => br_c (fun _ => h) (fun c2 => br_c (fun _ => h) (fun c3 => br_c (fun _ => h) (fun c4 => absurd ⟨c1, c2, c3, c4⟩ c))))
set_option maxHeartbeats 400000 in
theorem s5_isPart_t {post : Int32 → Prop} {k : Nat} {f n : Int32} (h4 : k < 4) (c : hrP (m_sizeOf M k) f n) (h : post 1) : wX5_isPart_ post M (nI k) f n := by
  unfold wX5_isPart_
  rw [c4 h4]
  exact br_f c.1 (br_f c.2.1 ⟨v4 h4, br_f c.2.2.1 ⟨v4 h4, br_f c.2.2.2 h⟩⟩)
set_option maxHeartbeats 400000 in
theorem s5_isPart_f {post : Int32 → Prop} {k : Nat} {f n : Int32} (h4 : k < 4) (c : ¬ hrP (m_sizeOf M k) f n) (h : post 0) : wX5_isPart_ post M (nI k) f n := by
  unfold wX5_isPart_
  rw [c4 h4]
  exact br_c (fun _ => h) (fun c1 => br_c (fun _ => h) (fun c2 => ⟨v4 h4, br_c (fun _ => h) (fun c3 => ⟨v4 h4, br_c (fun _ => h) (fun c4 => absurd ⟨c1, c2, c3, c4⟩ c)⟩)⟩))
set_option maxHeartbeats 400000 in
theorem hrP_nI {z : Nat} {f n : Int32} (hz : z ≤ 40) (c : hrP (nI z) f n) : ∃ a m, a + m ≤ z ∧ f = nI a ∧ n = nI m := by
  obtain ⟨c1, c2, c3, c4⟩ := c
  obtain ⟨a, ha, rfl⟩ := nI_of c1
  obtain ⟨m, hm, rfl⟩ := nI_of c2
  have h1 : m ≤ z := (nI_leI hm (by omega)).mp (Int32.not_lt.mp c3)
  rw [nI_sub h1] at c4
  have h2 : a ≤ z - m := (nI_leI ha (by omega)).mp (Int32.not_lt.mp c4)
  exact ⟨a, m, by omega, rfl, rfl⟩
set_option maxHeartbeats 400000 in
theorem ix41 (k a i : Nat) : (((40 * nI k) + nI a) + nI i : Int32) = nI (40 * k + a + i) := by
  rw [ix40, nI_add]
set_option maxHeartbeats 400000 in
theorem s5_copy_139 {post : Int32 → MSt → Prop} {N : MSt} {k b m : Nat} (h4 : k < 4) (hb : b + m ≤ 40) (h : ∀ g, (∀ j, (∀ i, i < m → j ≠ 40 * k + b + i) → g j = m_sheets N j) → (∀ i, i < m → g (40 * k + b + i) = m_lent N i) → post (nI m) (m_sheets_s N g)) : ∀ (c i : Nat) (g : Nat → Int64), i + c = m → (∀ j, (∀ i, i < m → j ≠ 40 * k + b + i) → g j = m_sheets N j) → (∀ j, j < i → g (40 * k + b + j) = m_lent N j) → wX5_copy_139 post (c + 1) (m_sheets_s N g) (nI k) (nI b) (nI m) (nI i) := by
  intro c
  induction c with
  | zero =>
    intro i g e hg h0
    rw [wX5_copy_139]
    exact br_t (nI_le (by omega) (by omega)) (h g hg (fun j hj => h0 j (by omega)))
  | succ c ih =>
    intro i g e hg h0
    rw [wX5_copy_139, ix41, nI_clamp (n := i) (by omega), nI_clamp (n := 40 * k + b + i) (by omega)]
    refine br_f (nI_ge (by omega) (by omega)) ⟨v40 (by omega), vp_in_nI (by omega) (by decide), fun S5 e5 => ?_⟩
    subst e5
    rw [← nI_succ]
    refine ih (i + 1) (vp_updL g (40 * k + b + i) (m_lent N i)) (by omega) (fun j hj => ?_) (fun j hj => ?_)
    · rw [pk_uLn (hj i (by omega))]
      exact hg j hj
    · by_cases q : j = i
      · rw [q, pk_uLs]
      · rw [pk_uLn (by omega)]
        exact h0 j (by omega)
set_option maxHeartbeats 400000 in
theorem s5_copy_102 {post : Int32 → MSt → Prop} {k1 a k b m : Nat} (h1 : k1 < 4) (ha : a + m ≤ 40) (h4 : k < 4) (hb : b + m ≤ 40) (h : ∀ t g, (∀ j, (∀ i, i < m → j ≠ 40 * k + b + i) → g j = m_sheets M j) → (∀ i, i < m → g (40 * k + b + i) = m_sheets M (40 * k1 + a + i)) → post (nI m) (m_sheets_s (m_lent_s M t) g)) : ∀ (c i : Nat) (t : Nat → Int64), i + c = m → (∀ j, j < i → t j = m_sheets M (40 * k1 + a + j)) → wX5_copy_102 post (c + 1) (m_lent_s M t) (nI k1) (nI a) (nI k) (nI b) (nI m) (nI i) := by
  intro c
  induction c with
  | zero =>
    intro i t e ht
    rw [wX5_copy_102]
    refine br_t (nI_le (by omega) (by omega)) ⟨m + 1, s5_copy_139 (N := m_lent_s M t) h4 hb (fun g g1 g2 => h t g g1 (fun i hi => (g2 i hi).trans (ht i (by omega)))) m 0 (m_sheets M) (by omega) (fun j _ => rfl) (fun j hj => absurd hj (Nat.not_lt_zero j))⟩
  | succ c ih =>
    intro i t e ht
    rw [wX5_copy_102, ix41, nI_clamp (n := i) (by omega), nI_clamp (n := 40 * k1 + a + i) (by omega)]
    refine br_f (nI_ge (by omega) (by omega)) ⟨vp_in_nI (by omega) (by decide), v40 (by omega), fun S5 e5 => ?_⟩
    subst e5
    rw [← nI_succ]
    refine ih (i + 1) (vp_updL t i (m_sheets M (40 * k1 + a + i))) (by omega) (fun j hj => ?_)
    by_cases q : j = i
    · rw [q, pk_uLs]
    · rw [pk_uLn q]
      exact ht j (by omega)
set_option maxHeartbeats 400000 in
theorem op_copy (R : Rel X M) (s f t to n : Int32) : wX4_copy (fun a T => wX5_copy (fun b N => a = b ∧ Rel T N) M s f t to n) X s f t to n := by
  by_cases c : ∃ j, j < 4 ∧ s = nI j
  · obtain ⟨k1, h1, rfl⟩ := c
    refine s4_sheetAt_t h1 (sho_some h1 ?_)
    by_cases ct : ∃ j, j < 4 ∧ t = nI j
    · obtain ⟨k2, h2, rfl⟩ := ct
      obtain ⟨a1, a2, a3, ⟨z1, hz1, ez1⟩⟩ := R.sh h1
      obtain ⟨b1, b2, b3, ⟨z2, hz2, ez2⟩⟩ := R.sh h2
      refine s4_sheetAt_t h2 (sho_some h2 ?_)
      have m0 : ∀ (post : Int32 → MSt → Prop), (vp_in (nI k1) 4 ∧ (((m_bitsOf M k1) = 0 → wX5_finds (fun v8 S9 => post v8 S9) M (-1000000006)) ∧ (¬ (m_bitsOf M k1) = 0 → vp_in (nI k2) 4 ∧ ((¬ (m_bitsOf M k2) = 0 → vp_in (nI k1) 4 ∧ (vp_in (nI k2) 4 ∧ (((m_bitsOf M k1) = (m_bitsOf M k2) → wX5_isPart_ (fun v12 => (v12 = 0 → wX5_finds (fun v14 S15 => post v14 S15) M (-1000000001)) ∧ (¬ v12 = 0 → wX5_isPart_ (fun v16 => (¬ v16 = 0 → ∃ f23 : Nat, wX5_copy_102 post f23 M (nI k1) f (nI k2) to n 0) ∧ (v16 = 0 → wX5_finds (fun v24 S25 => post v24 S25) M (-1000000001))) M (nI k2) to n)) M (nI k1) f n) ∧ (¬ (m_bitsOf M k1) = (m_bitsOf M k2) → wX5_finds (fun v26 S27 => post v26 S27) M (-1000000003))))) ∧ ((m_bitsOf M k2) = 0 → wX5_finds (fun v28 S29 => post v28 S29) M (-1000000006)))))) → wX5_copy post M (nI k1) f (nI k2) to n := by
        intro post h
        refine s5_isSheet_t h1 (br_f (by decide) (s5_isSheet_t h2 (bn_f (by decide) ?_)))
        rw [c4 h1, c4 h2]
        exact h
      by_cases m1 : s_bits (x_sh X k1) = 0
      · exact s2_isMissing_t m1 (bn_f (by decide) (s4_finding_MISSING (m0 _ ⟨v4 h1, br_t (a1 ▸ m1) (s5_finds_MISSING ⟨rfl, R.found 5⟩)⟩)))
      · refine s2_isMissing_f m1 (bn_t rfl ?_)
        by_cases m2 : s_bits (x_sh X k2) = 0
        · exact s2_isMissing_t m2 (br_f (by decide) (s4_finding_MISSING (m0 _ ⟨v4 h1, br_f (a1 ▸ m1) ⟨v4 h2, bn_t (b1 ▸ m2) (s5_finds_MISSING ⟨rfl, R.found 5⟩)⟩⟩)))
        · refine s2_isMissing_f m2 (br_t rfl ?_)
          by_cases mb : s_bits (x_sh X k1) = s_bits (x_sh X k2)
          · have mb5 : m_bitsOf M k1 = m_bitsOf M k2 := by rw [← a1, ← b1]; exact mb
            refine br_t mb ?_
            have m3 : ∀ (post : Int32 → MSt → Prop), wX5_isPart_ (fun v12 => (v12 = 0 → wX5_finds (fun v14 S15 => post v14 S15) M (-1000000001)) ∧ (¬ v12 = 0 → wX5_isPart_ (fun v16 => (¬ v16 = 0 → ∃ f23 : Nat, wX5_copy_102 post f23 M (nI k1) f (nI k2) to n 0) ∧ (v16 = 0 → wX5_finds (fun v24 S25 => post v24 S25) M (-1000000001))) M (nI k2) to n)) M (nI k1) f n → wX5_copy post M (nI k1) f (nI k2) to n := fun post h => m0 _ ⟨v4 h1, br_f (a1 ▸ m1) ⟨v4 h2, bn_f (b1 ▸ m2) ⟨v4 h1, v4 h2, br_t mb5 h⟩⟩⟩
            by_cases p1 : hrP (m_sizeOf M k1) f n
            · refine s2_hasRun_t (a2 ▸ p1) (br_f (by decide) ?_)
              by_cases p2 : hrP (m_sizeOf M k2) to n
              · refine s2_hasRun_t (b2 ▸ p2) (bn_f (by decide) ?_)
                have p1' := p1
                have p2' := p2
                rw [ez1] at p1'
                rw [ez2] at p2'
                obtain ⟨a, m, ham, rfl, rfl⟩ := hrP_nI hz1 p1'
                obtain ⟨b, m', hbm, rfl, e'⟩ := hrP_nI hz2 p2'
                by_cases mm : m = m'
                · subst mm
                  rw [nI_clamp (n := a) (by omega), nI_clamp (n := b) (by omega), nI_clamp (n := m) (by omega)]
                  refine ⟨⟨nI_pos (by omega), nI_pos (by omega), nI_pos (by omega), by omega, by omega⟩, fun S26 e26 => ?_⟩
                  subst e26
                  refine m3 _ (s5_isPart_t h1 p1 (br_f (by decide) (s5_isPart_t h2 p2 (bn_f (by decide) ⟨m + 1, ?_⟩))))
                  refine s5_copy_102 h1 (by omega) h2 (by omega) (fun t g g1 g2 => ⟨rfl, ?_⟩) m 0 (m_lent M) (by omega) (fun j hj => absurd hj (Nat.not_lt_zero j))
                  refine (R.lent t).numbers h2 (fun j h5 h6 i hi => g1 _ (fun i2 hi2 => by omega)) (fun i hi => ?_)
                  by_cases q : b ≤ i ∧ i < b + m
                  · rw [pk_cpy_in q.1 q.2, a3 _ (by omega), show 40 * k2 + i = 40 * k2 + b + (i - b) from by omega, g2 _ (by omega)]
                    exact congrArg _ (by omega)
                  · rw [pk_cpy_out (by omega), b3 i hi, g1 _ (fun i2 hi2 => by omega)]
                · exact absurd ((nI_eq (by omega) (by omega)).mp e') mm
              · exact s2_hasRun_f (b2 ▸ p2) (bn_t rfl (s4_finding_BEYOND (m3 _ (s5_isPart_t h1 p1 (br_f (by decide) (s5_isPart_f h2 p2 (bn_t rfl (s5_finds_BEYOND ⟨rfl, R.found 0⟩))))))))
            · exact s2_hasRun_f (a2 ▸ p1) (br_t rfl (s4_finding_BEYOND (m3 _ (s5_isPart_f h1 p1 (br_t rfl (s5_finds_BEYOND ⟨rfl, R.found 0⟩))))))
          · have mb5 : ¬ m_bitsOf M k1 = m_bitsOf M k2 := by rw [← a1, ← b1]; exact mb
            exact br_f mb (s4_finding_KIND (m0 _ ⟨v4 h1, br_f (a1 ▸ m1) ⟨v4 h2, bn_f (b1 ▸ m2) ⟨v4 h1, v4 h2, br_f mb5 (s5_finds_KIND ⟨rfl, R.found 2⟩)⟩⟩⟩))
    · exact s4_sheetAt_f ct (sho_none (s4_finding_BEYOND (s5_isSheet_t h1 (br_f (by decide) (s5_isSheet_f ct (bn_t rfl (s5_finds_BEYOND ⟨rfl, R.found 0⟩)))))))
  · refine s4_sheetAt_f c (sho_none ?_)
    have bad : wX4_finding (fun a T => wX5_copy (fun b N => a = b ∧ Rel T N) M s f t to n) X (-1000000001) := s4_finding_BEYOND (s5_isSheet_f c (br_t rfl (s5_finds_BEYOND ⟨rfl, R.found 0⟩)))
    by_cases ct : ∃ j, j < 4 ∧ t = nI j
    · obtain ⟨k2, h2, rfl⟩ := ct
      exact s4_sheetAt_t h2 (sho_some h2 bad)
    · exact s4_sheetAt_f ct (sho_none bad)
end Ops7
